theorem dX8_reachFrom_8 : decode cX8_reachFrom 8 = .ok (.if_icmp .ge 56, 3) := by decide +kernel
theorem dX8_reachFrom_11 : decode cX8_reachFrom 11 = .ok (.aload_n 0, 1) := by decide +kernel
theorem dX8_reachFrom_12 : decode cX8_reachFrom 12 = .ok (.iload_n 1, 1) := by decide +kernel
theorem dX8_reachFrom_13 : decode cX8_reachFrom 13 = .ok (.iload 4, 2) := by decide +kernel
theorem dX8_reachFrom_15 : decode cX8_reachFrom 15 = .ok (.iload_n 2, 1) := by decide +kernel
theorem dX8_reachFrom_16 : decode cX8_reachFrom 16 = .ok (.invokevirtual 45, 3) := by decide +kernel
theorem dX8_reachFrom_19 : decode cX8_reachFrom 19 = .ok (.istore 5, 2) := by decide +kernel
theorem dX8_reachFrom_21 : decode cX8_reachFrom 21 = .ok (.iload 5, 2) := by decide +kernel
theorem dX8_reachFrom_23 : decode cX8_reachFrom 23 = .ok (.bipush (-6), 2) := by decide +kernel
theorem dX8_reachFrom_25 : decode cX8_reachFrom 25 = .ok (.if_icmp .eq 33, 3) := by decide +kernel
theorem dX8_reachFrom_28 : decode cX8_reachFrom 28 = .ok (.aload_n 0, 1) := by decide +kernel
theorem dX8_reachFrom_29 : decode cX8_reachFrom 29 = .ok (.getfield 21, 3) := by decide +kernel
theorem dX8_reachFrom_32 : decode cX8_reachFrom 32 = .ok (.getfield 49, 3) := by decide +kernel
theorem dX8_reachFrom_35 : decode cX8_reachFrom 35 = .ok (.iload 5, 2) := by decide +kernel
theorem dX8_reachFrom_37 : decode cX8_reachFrom 37 = .ok (.laload, 1) := by decide +kernel
theorem dX8_reachFrom_38 : decode cX8_reachFrom 38 = .ok (.lconst 0, 1) := by decide +kernel
theorem dX8_reachFrom_39 : decode cX8_reachFrom 39 = .ok (.lcmp, 1) := by decide +kernel
theorem dX8_reachFrom_40 : decode cX8_reachFrom 40 = .ok (.ifCond .le 18, 3) := by decide +kernel
theorem dX8_reachFrom_43 : decode cX8_reachFrom 43 = .ok (.aload_n 0, 1) := by decide +kernel
theorem dX8_reachFrom_44 : decode cX8_reachFrom 44 = .ok (.getfield 11, 3) := by decide +kernel
theorem dX8_reachFrom_47 : decode cX8_reachFrom 47 = .ok (.iload 5, 2) := by decide +kernel
theorem dX8_reachFrom_49 : decode cX8_reachFrom 49 = .ok (.iconst 1, 1) := by decide +kernel
theorem dX8_reachFrom_50 : decode cX8_reachFrom 50 = .ok (.bastore, 1) := by decide +kernel
theorem dX8_reachFrom_51 : decode cX8_reachFrom 51 = .ok (.iload_n 3, 1) := by decide +kernel
theorem dX8_reachFrom_52 : decode cX8_reachFrom 52 = .ok (.iconst 1, 1) := by decide +kernel
theorem dX8_reachFrom_53 : decode cX8_reachFrom 53 = .ok (.iload 4, 2) := by decide +kernel
theorem dX8_reachFrom_55 : decode cX8_reachFrom 55 = .ok (.ishl, 1) := by decide +kernel
theorem dX8_reachFrom_56 : decode cX8_reachFrom 56 = .ok (.ior, 1) := by decide +kernel
theorem dX8_reachFrom_57 : decode cX8_reachFrom 57 = .ok (.istore_n 3, 1) := by decide +kernel
theorem dX8_reachFrom_58 : decode cX8_reachFrom 58 = .ok (.iinc 4 1, 3) := by decide +kernel
theorem dX8_reachFrom_61 : decode cX8_reachFrom 61 = .ok (.goto (-56), 3) := by decide +kernel
theorem dX8_reachFrom_64 : decode cX8_reachFrom 64 = .ok (.iload_n 3, 1) := by decide +kernel
theorem dX8_reachFrom_65 : decode cX8_reachFrom 65 = .ok (.ireturn, 1) := by decide +kernel
theorem dX9_init_0 : decode cX9_init 0 = .ok (.aload_n 0, 1) := by decide +kernel
theorem dX9_init_1 : decode cX9_init 1 = .ok (.invokespecial 1, 3) := by decide +kernel
theorem dX9_init_4 : decode cX9_init 4 = .ok (.aload_n 0, 1) := by decide +kernel
theorem dX9_init_5 : decode cX9_init 5 = .ok (.new 7, 3) := by decide +kernel
theorem dX9_init_8 : decode cX9_init 8 = .ok (.dup, 1) := by decide +kernel
theorem dX9_init_9 : decode cX9_init 9 = .ok (.invokespecial 9, 3) := by decide +kernel
theorem dX9_init_12 : decode cX9_init 12 = .ok (.putfield 10, 3) := by decide +kernel
theorem dX9_init_15 : decode cX9_init 15 = .ok (.aload_n 0, 1) := by decide +kernel
theorem dX9_init_16 : decode cX9_init 16 = .ok (.new 16, 3) := by decide +kernel
theorem dX9_init_19 : decode cX9_init 19 = .ok (.dup, 1) := by decide +kernel
theorem dX9_init_20 : decode cX9_init 20 = .ok (.invokespecial 18, 3) := by decide +kernel
theorem dX9_init_23 : decode cX9_init 23 = .ok (.putfield 19, 3) := by decide +kernel
theorem dX9_init_26 : decode cX9_init 26 = .ok (.aload_n 0, 1) := by decide +kernel
theorem dX9_init_27 : decode cX9_init 27 = .ok (.iconst 2, 1) := by decide +kernel
theorem dX9_init_28 : decode cX9_init 28 = .ok (.anewarray 16, 3) := by decide +kernel
theorem dX9_init_31 : decode cX9_init 31 = .ok (.putfield 23, 3) := by decide +kernel
theorem dX9_init_34 : decode cX9_init 34 = .ok (.iconst 0, 1) := by decide +kernel
theorem dX9_init_35 : decode cX9_init 35 = .ok (.istore_n 1, 1) := by decide +kernel
theorem dX9_init_36 : decode cX9_init 36 = .ok (.iload_n 1, 1) := by decide +kernel
theorem dX9_init_37 : decode cX9_init 37 = .ok (.iconst 2, 1) := by decide +kernel
theorem dX9_init_38 : decode cX9_init 38 = .ok (.if_icmp .ge 22, 3) := by decide +kernel
theorem dX9_init_41 : decode cX9_init 41 = .ok (.aload_n 0, 1) := by decide +kernel
theorem dX9_init_42 : decode cX9_init 42 = .ok (.getfield 23, 3) := by decide +kernel
theorem dX9_init_45 : decode cX9_init 45 = .ok (.iload_n 1, 1) := by decide +kernel
theorem dX9_init_46 : decode cX9_init 46 = .ok (.new 16, 3) := by decide +kernel
theorem dX9_init_49 : decode cX9_init 49 = .ok (.dup, 1) := by decide +kernel
theorem dX9_init_50 : decode cX9_init 50 = .ok (.invokespecial 18, 3) := by decide +kernel
theorem dX9_init_53 : decode cX9_init 53 = .ok (.aastore, 1) := by decide +kernel
theorem dX9_init_54 : decode cX9_init 54 = .ok (.iinc 1 1, 3) := by decide +kernel
theorem dX9_init_57 : decode cX9_init 57 = .ok (.goto (-21), 3) := by decide +kernel
theorem dX9_init_60 : decode cX9_init 60 = .ok (.aload_n 0, 1) := by decide +kernel
theorem dX9_init_61 : decode cX9_init 61 = .ok (.iconst 0, 1) := by decide +kernel
theorem dX9_init_62 : decode cX9_init 62 = .ok (.putfield 27, 3) := by decide +kernel
theorem dX9_init_65 : decode cX9_init 65 = .ok (.aload_n 0, 1) := by decide +kernel
theorem dX9_init_66 : decode cX9_init 66 = .ok (.new 31, 3) := by decide +kernel
theorem dX9_init_69 : decode cX9_init 69 = .ok (.dup, 1) := by decide +kernel
theorem dX9_init_70 : decode cX9_init 70 = .ok (.aload_n 0, 1) := by decide +kernel
theorem dX9_init_71 : decode cX9_init 71 = .ok (.getfield 19, 3) := by decide +kernel
theorem dX9_init_74 : decode cX9_init 74 = .ok (.aload_n 0, 1) := by decide +kernel
theorem dX9_init_75 : decode cX9_init 75 = .ok (.getfield 10, 3) := by decide +kernel
theorem dX9_init_78 : decode cX9_init 78 = .ok (.invokespecial 33, 3) := by decide +kernel
theorem dX9_init_81 : decode cX9_init 81 = .ok (.putfield 36, 3) := by decide +kernel
theorem dX9_init_84 : decode cX9_init 84 = .ok (.aload_n 0, 1) := by decide +kernel
theorem dX9_init_85 : decode cX9_init 85 = .ok (.new 40, 3) := by decide +kernel
theorem dX9_init_88 : decode cX9_init 88 = .ok (.dup, 1) := by decide +kernel
theorem dX9_init_89 : decode cX9_init 89 = .ok (.aload_n 0, 1) := by decide +kernel
theorem dX9_init_90 : decode cX9_init 90 = .ok (.getfield 19, 3) := by decide +kernel
theorem dX9_init_93 : decode cX9_init 93 = .ok (.invokespecial 42, 3) := by decide +kernel
theorem dX9_init_96 : decode cX9_init 96 = .ok (.putfield 45, 3) := by decide +kernel
theorem dX9_init_99 : decode cX9_init 99 = .ok (.aload_n 0, 1) := by decide +kernel
theorem dX9_init_100 : decode cX9_init 100 = .ok (.new 49, 3) := by decide +kernel
theorem dX9_init_103 : decode cX9_init 103 = .ok (.dup, 1) := by decide +kernel
theorem dX9_init_104 : decode cX9_init 104 = .ok (.aload_n 0, 1) := by decide +kernel
theorem dX9_init_105 : decode cX9_init 105 = .ok (.getfield 19, 3) := by decide +kernel
theorem dX9_init_108 : decode cX9_init 108 = .ok (.aload_n 0, 1) := by decide +kernel
theorem dX9_init_109 : decode cX9_init 109 = .ok (.getfield 45, 3) := by decide +kernel
theorem dX9_init_112 : decode cX9_init 112 = .ok (.invokespecial 51, 3) := by decide +kernel
theorem dX9_init_115 : decode cX9_init 115 = .ok (.putfield 54, 3) := by decide +kernel
theorem dX9_init_118 : decode cX9_init 118 = .ok (.aload_n 0, 1) := by decide +kernel
theorem dX9_init_119 : decode cX9_init 119 = .ok (.new 58, 3) := by decide +kernel
theorem dX9_init_122 : decode cX9_init 122 = .ok (.dup, 1) := by decide +kernel
theorem dX9_init_123 : decode cX9_init 123 = .ok (.aload_n 0, 1) := by decide +kernel
theorem dX9_init_124 : decode cX9_init 124 = .ok (.getfield 45, 3) := by decide +kernel
theorem dX9_init_127 : decode cX9_init 127 = .ok (.invokespecial 60, 3) := by decide +kernel
theorem dX9_init_130 : decode cX9_init 130 = .ok (.putfield 63, 3) := by decide +kernel
theorem dX9_init_133 : decode cX9_init 133 = .ok (.aload_n 0, 1) := by decide +kernel
theorem dX9_init_134 : decode cX9_init 134 = .ok (.new 67, 3) := by decide +kernel
theorem dX9_init_137 : decode cX9_init 137 = .ok (.dup, 1) := by decide +kernel
theorem dX9_init_138 : decode cX9_init 138 = .ok (.aload_n 0, 1) := by decide +kernel
theorem dX9_init_139 : decode cX9_init 139 = .ok (.getfield 19, 3) := by decide +kernel
theorem dX9_init_142 : decode cX9_init 142 = .ok (.aload_n 0, 1) := by decide +kernel
theorem dX9_init_143 : decode cX9_init 143 = .ok (.getfield 45, 3) := by decide +kernel
theorem dX9_init_146 : decode cX9_init 146 = .ok (.aload_n 0, 1) := by decide +kernel
theorem dX9_init_147 : decode cX9_init 147 = .ok (.getfield 10, 3) := by decide +kernel
theorem dX9_init_150 : decode cX9_init 150 = .ok (.invokespecial 69, 3) := by decide +kernel
theorem dX9_init_153 : decode cX9_init 153 = .ok (.putfield 72, 3) := by decide +kernel
theorem dX9_init_156 : decode cX9_init 156 = .ok (.aload_n 0, 1) := by decide +kernel
theorem dX9_init_157 : decode cX9_init 157 = .ok (.new 76, 3) := by decide +kernel
theorem dX9_init_160 : decode cX9_init 160 = .ok (.dup, 1) := by decide +kernel
theorem dX9_init_161 : decode cX9_init 161 = .ok (.aload_n 0, 1) := by decide +kernel
theorem dX9_init_162 : decode cX9_init 162 = .ok (.getfield 19, 3) := by decide +kernel
theorem dX9_init_165 : decode cX9_init 165 = .ok (.invokespecial 78, 3) := by decide +kernel
theorem dX9_init_168 : decode cX9_init 168 = .ok (.putfield 79, 3) := by decide +kernel
theorem dX9_init_171 : decode cX9_init 171 = .ok (.return_, 1) := by decide +kernel
theorem dX9_say_0 : decode cX9_say 0 = .ok (.iload_n 1, 1) := by decide +kernel
theorem dX9_say_1 : decode cX9_say 1 = .ok (.bipush 33, 2) := by decide +kernel
theorem dX9_say_3 : decode cX9_say 3 = .ok (.if_icmp .lt 9, 3) := by decide +kernel
theorem dX9_say_6 : decode cX9_say 6 = .ok (.iload_n 1, 1) := by decide +kernel
theorem dX9_say_7 : decode cX9_say 7 = .ok (.bipush 126, 2) := by decide +kernel
theorem dX9_say_9 : decode cX9_say 9 = .ok (.if_icmp .le 6, 3) := by decide +kernel
theorem dX9_say_12 : decode cX9_say 12 = .ok (.bipush (-2), 2) := by decide +kernel
theorem dX9_say_14 : decode cX9_say 14 = .ok (.ireturn, 1) := by decide +kernel
theorem dX9_say_15 : decode cX9_say 15 = .ok (.aload_n 0, 1) := by decide +kernel
theorem dX9_say_16 : decode cX9_say 16 = .ok (.getfield 10, 3) := by decide +kernel
theorem dX9_say_19 : decode cX9_say 19 = .ok (.invokevirtual 83, 3) := by decide +kernel
theorem dX9_say_22 : decode cX9_say 22 = .ok (.ifCond .eq 8, 3) := by decide +kernel
theorem dX9_say_25 : decode cX9_say 25 = .ok (.bipush (-4), 2) := by decide +kernel
theorem dX9_say_27 : decode cX9_say 27 = .ok (.goto 11, 3) := by decide +kernel
theorem dX9_say_30 : decode cX9_say 30 = .ok (.aload_n 0, 1) := by decide +kernel
theorem dX9_say_31 : decode cX9_say 31 = .ok (.getfield 10, 3) := by decide +kernel
theorem dX9_say_34 : decode cX9_say 34 = .ok (.iload_n 1, 1) := by decide +kernel
theorem dX9_say_35 : decode cX9_say 35 = .ok (.invokevirtual 87, 3) := by decide +kernel
theorem dX9_say_38 : decode cX9_say 38 = .ok (.ireturn, 1) := by decide +kernel
theorem dX9_wipe_0 : decode cX9_wipe 0 = .ok (.aload_n 0, 1) := by decide +kernel
theorem dX9_wipe_1 : decode cX9_wipe 1 = .ok (.getfield 10, 3) := by decide +kernel
theorem dX9_wipe_4 : decode cX9_wipe 4 = .ok (.invokevirtual 91, 3) := by decide +kernel
theorem dX9_wipe_7 : decode cX9_wipe 7 = .ok (.ireturn, 1) := by decide +kernel
theorem dX9_fault_0 : decode cX9_fault 0 = .ok (.iload_n 1, 1) := by decide +kernel
theorem dX9_fault_1 : decode cX9_fault 1 = .ok (.iconst 0, 1) := by decide +kernel
theorem dX9_fault_2 : decode cX9_fault 2 = .ok (.iconst 2, 1) := by decide +kernel
theorem dX9_fault_3 : decode cX9_fault 3 = .ok (.invokestatic 95, 3) := by decide +kernel
theorem dX9_fault_6 : decode cX9_fault 6 = .ok (.ifCond .eq 14, 3) := by decide +kernel
theorem dX9_fault_9 : decode cX9_fault 9 = .ok (.aload_n 0, 1) := by decide +kernel
theorem dX9_fault_10 : decode cX9_fault 10 = .ok (.getfield 10, 3) := by decide +kernel
theorem dX9_fault_13 : decode cX9_fault 13 = .ok (.iload_n 1, 1) := by decide +kernel
theorem dX9_fault_14 : decode cX9_fault 14 = .ok (.invokevirtual 99, 3) := by decide +kernel
theorem dX9_fault_17 : decode cX9_fault 17 = .ok (.goto 5, 3) := by decide +kernel
theorem dX9_fault_20 : decode cX9_fault 20 = .ok (.bipush (-2), 2) := by decide +kernel
theorem dX9_fault_22 : decode cX9_fault 22 = .ok (.ireturn, 1) := by decide +kernel
theorem dX9_story_0 : decode cX9_story 0 = .ok (.iload_n 1, 1) := by decide +kernel
theorem dX9_story_1 : decode cX9_story 1 = .ok (.invokestatic 102, 3) := by decide +kernel
theorem dX9_story_4 : decode cX9_story 4 = .ok (.ifCond .ne 5, 3) := by decide +kernel
theorem dX9_story_7 : decode cX9_story 7 = .ok (.iconst (-1), 1) := by decide +kernel
theorem dX9_story_8 : decode cX9_story 8 = .ok (.ireturn, 1) := by decide +kernel
theorem dX9_story_9 : decode cX9_story 9 = .ok (.aload_n 0, 1) := by decide +kernel
theorem dX9_story_10 : decode cX9_story 10 = .ok (.getfield 10, 3) := by decide +kernel
theorem dX9_story_13 : decode cX9_story 13 = .ok (.iconst 0, 1) := by decide +kernel
theorem dX9_story_14 : decode cX9_story 14 = .ok (.invokevirtual 99, 3) := by decide +kernel
theorem dX9_story_17 : decode cX9_story 17 = .ok (.bipush (-6), 2) := by decide +kernel
theorem dX9_story_19 : decode cX9_story 19 = .ok (.if_icmp .eq 6, 3) := by decide +kernel
theorem dX9_story_22 : decode cX9_story 22 = .ok (.bipush (-5), 2) := by decide +kernel
theorem dX9_story_24 : decode cX9_story 24 = .ok (.ireturn, 1) := by decide +kernel
theorem dX9_story_25 : decode cX9_story 25 = .ok (.aload_n 0, 1) := by decide +kernel
theorem dX9_story_26 : decode cX9_story 26 = .ok (.getfield 19, 3) := by decide +kernel
theorem dX9_story_29 : decode cX9_story 29 = .ok (.iload_n 1, 1) := by decide +kernel
theorem dX9_story_30 : decode cX9_story 30 = .ok (.aload_n 0, 1) := by decide +kernel
theorem dX9_story_31 : decode cX9_story 31 = .ok (.getfield 10, 3) := by decide +kernel
theorem dX9_story_34 : decode cX9_story 34 = .ok (.invokevirtual 106, 3) := by decide +kernel
theorem dX9_story_37 : decode cX9_story 37 = .ok (.aload_n 0, 1) := by decide +kernel
theorem dX9_story_38 : decode cX9_story 38 = .ok (.getfield 10, 3) := by decide +kernel
theorem dX9_story_41 : decode cX9_story 41 = .ok (.invokevirtual 91, 3) := by decide +kernel
theorem dX9_story_44 : decode cX9_story 44 = .ok (.pop, 1) := by decide +kernel
theorem dX9_story_45 : decode cX9_story 45 = .ok (.aload_n 0, 1) := by decide +kernel
theorem dX9_story_46 : decode cX9_story 46 = .ok (.getfield 45, 3) := by decide +kernel
theorem dX9_story_49 : decode cX9_story 49 = .ok (.invokevirtual 110, 3) := by decide +kernel
theorem dX9_story_52 : decode cX9_story 52 = .ok (.aload_n 0, 1) := by decide +kernel
theorem dX9_story_53 : decode cX9_story 53 = .ok (.getfield 19, 3) := by decide +kernel
theorem dX9_story_56 : decode cX9_story 56 = .ok (.getfield 113, 3) := by decide +kernel
theorem dX9_story_59 : decode cX9_story 59 = .ok (.iload_n 1, 1) := by decide +kernel
theorem dX9_story_60 : decode cX9_story 60 = .ok (.iaload, 1) := by decide +kernel
theorem dX9_story_61 : decode cX9_story 61 = .ok (.ireturn, 1) := by decide +kernel
theorem dX9_about_0 : decode cX9_about 0 = .ok (.iload_n 1, 1) := by decide +kernel
theorem dX9_about_1 : decode cX9_about 1 = .ok (.invokestatic 102, 3) := by decide +kernel
theorem dX9_about_4 : decode cX9_about 4 = .ok (.ifCond .ne 5, 3) := by decide +kernel
theorem dX9_about_7 : decode cX9_about 7 = .ok (.iconst (-1), 1) := by decide +kernel
theorem dX9_about_8 : decode cX9_about 8 = .ok (.ireturn, 1) := by decide +kernel
theorem dX9_about_9 : decode cX9_about 9 = .ok (.iload_n 2, 1) := by decide +kernel
theorem dX9_about_10 : decode cX9_about 10 = .ok (.bipush 10, 2) := by decide +kernel
theorem dX9_about_12 : decode cX9_about 12 = .ok (.bipush 13, 2) := by decide +kernel
theorem dX9_about_14 : decode cX9_about 14 = .ok (.invokestatic 95, 3) := by decide +kernel
theorem dX9_about_17 : decode cX9_about 17 = .ok (.ifCond .eq 36, 3) := by decide +kernel
theorem dX9_about_20 : decode cX9_about 20 = .ok (.iload_n 2, 1) := by decide +kernel
theorem dX9_about_21 : decode cX9_about 21 = .ok (.bipush 10, 2) := by decide +kernel
theorem dX9_about_23 : decode cX9_about 23 = .ok (.isub, 1) := by decide +kernel
theorem dX9_about_24 : decode cX9_about 24 = .ok (.istore_n 3, 1) := by decide +kernel
theorem dX9_about_25 : decode cX9_about 25 = .ok (.iload_n 3, 1) := by decide +kernel
theorem dX9_about_26 : decode cX9_about 26 = .ok (.aload_n 0, 1) := by decide +kernel
theorem dX9_about_27 : decode cX9_about 27 = .ok (.getfield 19, 3) := by decide +kernel
theorem dX9_about_30 : decode cX9_about 30 = .ok (.getfield 113, 3) := by decide +kernel
theorem dX9_about_33 : decode cX9_about 33 = .ok (.iload_n 1, 1) := by decide +kernel
theorem dX9_about_34 : decode cX9_about 34 = .ok (.iaload, 1) := by decide +kernel
theorem dX9_about_35 : decode cX9_about 35 = .ok (.if_icmp .ge 15, 3) := by decide +kernel
theorem dX9_about_38 : decode cX9_about 38 = .ok (.aload_n 0, 1) := by decide +kernel
theorem dX9_about_39 : decode cX9_about 39 = .ok (.getfield 19, 3) := by decide +kernel
theorem dX9_about_42 : decode cX9_about 42 = .ok (.iload_n 1, 1) := by decide +kernel
theorem dX9_about_43 : decode cX9_about 43 = .ok (.iload_n 3, 1) := by decide +kernel
theorem dX9_about_44 : decode cX9_about 44 = .ok (.invokevirtual 117, 3) := by decide +kernel
theorem dX9_about_47 : decode cX9_about 47 = .ok (.goto 5, 3) := by decide +kernel
theorem dX9_about_50 : decode cX9_about 50 = .ok (.bipush (-6), 2) := by decide +kernel
theorem dX9_about_52 : decode cX9_about 52 = .ok (.ireturn, 1) := by decide +kernel
theorem dX9_about_53 : decode cX9_about 53 = .ok (.iload_n 2, 1) := by decide +kernel
theorem dX9_about_54 : decode cX9_about 54 = .ok (.tableswitch 64 0 2 #[26, 36, 54], 26) := by decide +kernel
theorem dX9_about_80 : decode cX9_about 80 = .ok (.aload_n 0, 1) := by decide +kernel
theorem dX9_about_81 : decode cX9_about 81 = .ok (.getfield 19, 3) := by decide +kernel
theorem dX9_about_84 : decode cX9_about 84 = .ok (.getfield 113, 3) := by decide +kernel
theorem dX9_about_87 : decode cX9_about 87 = .ok (.iload_n 1, 1) := by decide +kernel
theorem dX9_about_88 : decode cX9_about 88 = .ok (.iaload, 1) := by decide +kernel
theorem dX9_about_89 : decode cX9_about 89 = .ok (.ireturn, 1) := by decide +kernel
theorem dX9_about_90 : decode cX9_about 90 = .ok (.aload_n 0, 1) := by decide +kernel
theorem dX9_about_91 : decode cX9_about 91 = .ok (.getfield 19, 3) := by decide +kernel
theorem dX9_about_94 : decode cX9_about 94 = .ok (.iload_n 1, 1) := by decide +kernel
theorem dX9_about_95 : decode cX9_about 95 = .ok (.aload_n 0, 1) := by decide +kernel
theorem dX9_about_96 : decode cX9_about 96 = .ok (.getfield 19, 3) := by decide +kernel
theorem dX9_about_99 : decode cX9_about 99 = .ok (.getfield 113, 3) := by decide +kernel
theorem dX9_about_102 : decode cX9_about 102 = .ok (.iload_n 1, 1) := by decide +kernel
theorem dX9_about_103 : decode cX9_about 103 = .ok (.iaload, 1) := by decide +kernel
theorem dX9_about_104 : decode cX9_about 104 = .ok (.invokevirtual 121, 3) := by decide +kernel
theorem dX9_about_107 : decode cX9_about 107 = .ok (.ireturn, 1) := by decide +kernel
theorem dX9_about_108 : decode cX9_about 108 = .ok (.aload_n 0, 1) := by decide +kernel
theorem dX9_about_109 : decode cX9_about 109 = .ok (.getfield 19, 3) := by decide +kernel
theorem dX9_about_112 : decode cX9_about 112 = .ok (.getfield 124, 3) := by decide +kernel
theorem dX9_about_115 : decode cX9_about 115 = .ok (.iload_n 1, 1) := by decide +kernel
theorem dX9_about_116 : decode cX9_about 116 = .ok (.iaload, 1) := by decide +kernel
theorem dX9_about_117 : decode cX9_about 117 = .ok (.ireturn, 1) := by decide +kernel
theorem dX9_about_118 : decode cX9_about 118 = .ok (.bipush (-2), 2) := by decide +kernel
theorem dX9_about_120 : decode cX9_about 120 = .ok (.ireturn, 1) := by decide +kernel
theorem dX9_teller_0 : decode cX9_teller 0 = .ok (.iload_n 1, 1) := by decide +kernel
theorem dX9_teller_1 : decode cX9_teller 1 = .ok (.invokestatic 102, 3) := by decide +kernel
theorem dX9_teller_4 : decode cX9_teller 4 = .ok (.ifCond .eq 10, 3) := by decide +kernel
theorem dX9_teller_7 : decode cX9_teller 7 = .ok (.iload_n 2, 1) := by decide +kernel
theorem dX9_teller_8 : decode cX9_teller 8 = .ok (.invokestatic 127, 3) := by decide +kernel
theorem dX9_teller_11 : decode cX9_teller 11 = .ok (.ifCond .ne 5, 3) := by decide +kernel
theorem dX9_teller_14 : decode cX9_teller 14 = .ok (.iconst (-1), 1) := by decide +kernel
theorem dX9_teller_15 : decode cX9_teller 15 = .ok (.ireturn, 1) := by decide +kernel
theorem dX9_teller_16 : decode cX9_teller 16 = .ok (.aload_n 0, 1) := by decide +kernel
theorem dX9_teller_17 : decode cX9_teller 17 = .ok (.getfield 19, 3) := by decide +kernel
theorem dX9_teller_20 : decode cX9_teller 20 = .ok (.getfield 130, 3) := by decide +kernel
theorem dX9_teller_23 : decode cX9_teller 23 = .ok (.iload_n 1, 1) := by decide +kernel
theorem dX9_teller_24 : decode cX9_teller 24 = .ok (.iaload, 1) := by decide +kernel
theorem dX9_teller_25 : decode cX9_teller 25 = .ok (.istore_n 3, 1) := by decide +kernel
theorem dX9_teller_26 : decode cX9_teller 26 = .ok (.aload_n 0, 1) := by decide +kernel
theorem dX9_teller_27 : decode cX9_teller 27 = .ok (.getfield 19, 3) := by decide +kernel
theorem dX9_teller_30 : decode cX9_teller 30 = .ok (.getfield 130, 3) := by decide +kernel
theorem dX9_teller_33 : decode cX9_teller 33 = .ok (.iload_n 1, 1) := by decide +kernel
theorem dX9_teller_34 : decode cX9_teller 34 = .ok (.iload_n 2, 1) := by decide +kernel
theorem dX9_teller_35 : decode cX9_teller 35 = .ok (.iastore, 1) := by decide +kernel
theorem dX9_teller_36 : decode cX9_teller 36 = .ok (.aload_n 0, 1) := by decide +kernel
theorem dX9_teller_37 : decode cX9_teller 37 = .ok (.getfield 45, 3) := by decide +kernel
theorem dX9_teller_40 : decode cX9_teller 40 = .ok (.invokevirtual 110, 3) := by decide +kernel
theorem dX9_teller_43 : decode cX9_teller 43 = .ok (.iload_n 3, 1) := by decide +kernel
theorem dX9_teller_44 : decode cX9_teller 44 = .ok (.ireturn, 1) := by decide +kernel
theorem dX9_knows_0 : decode cX9_knows 0 = .ok (.iload_n 1, 1) := by decide +kernel
theorem dX9_knows_1 : decode cX9_knows 1 = .ok (.invokestatic 127, 3) := by decide +kernel
theorem dX9_knows_4 : decode cX9_knows 4 = .ok (.ifCond .ne 5, 3) := by decide +kernel
theorem dX9_knows_7 : decode cX9_knows 7 = .ok (.iconst (-1), 1) := by decide +kernel
theorem dX9_knows_8 : decode cX9_knows 8 = .ok (.ireturn, 1) := by decide +kernel
theorem dX9_knows_9 : decode cX9_knows 9 = .ok (.iload_n 2, 1) := by decide +kernel
theorem dX9_knows_10 : decode cX9_knows 10 = .ok (.iconst 0, 1) := by decide +kernel
theorem dX9_knows_11 : decode cX9_knows 11 = .ok (.bipush 15, 2) := by decide +kernel
theorem dX9_knows_13 : decode cX9_knows 13 = .ok (.invokestatic 95, 3) := by decide +kernel
theorem dX9_knows_16 : decode cX9_knows 16 = .ok (.ifCond .ne 6, 3) := by decide +kernel
theorem dX9_knows_19 : decode cX9_knows 19 = .ok (.bipush (-2), 2) := by decide +kernel
theorem dX9_knows_21 : decode cX9_knows 21 = .ok (.ireturn, 1) := by decide +kernel
theorem dX9_knows_22 : decode cX9_knows 22 = .ok (.aload_n 0, 1) := by decide +kernel
theorem dX9_knows_23 : decode cX9_knows 23 = .ok (.getfield 19, 3) := by decide +kernel
theorem dX9_knows_26 : decode cX9_knows 26 = .ok (.getfield 133, 3) := by decide +kernel
theorem dX9_knows_29 : decode cX9_knows 29 = .ok (.iload_n 1, 1) := by decide +kernel
theorem dX9_knows_30 : decode cX9_knows 30 = .ok (.iaload, 1) := by decide +kernel
theorem dX9_knows_31 : decode cX9_knows 31 = .ok (.istore_n 3, 1) := by decide +kernel
theorem dX9_knows_32 : decode cX9_knows 32 = .ok (.aload_n 0, 1) := by decide +kernel
theorem dX9_knows_33 : decode cX9_knows 33 = .ok (.getfield 19, 3) := by decide +kernel
theorem dX9_knows_36 : decode cX9_knows 36 = .ok (.getfield 133, 3) := by decide +kernel
theorem dX9_knows_39 : decode cX9_knows 39 = .ok (.iload_n 1, 1) := by decide +kernel
theorem dX9_knows_40 : decode cX9_knows 40 = .ok (.iload_n 2, 1) := by decide +kernel
theorem dX9_knows_41 : decode cX9_knows 41 = .ok (.iastore, 1) := by decide +kernel
theorem dX9_knows_42 : decode cX9_knows 42 = .ok (.iload_n 3, 1) := by decide +kernel
theorem dX9_knows_43 : decode cX9_knows 43 = .ok (.ireturn, 1) := by decide +kernel
theorem dX9_wait_0 : decode cX9_wait 0 = .ok (.iload_n 1, 1) := by decide +kernel
theorem dX9_wait_1 : decode cX9_wait 1 = .ok (.invokestatic 102, 3) := by decide +kernel
theorem dX9_wait_4 : decode cX9_wait 4 = .ok (.ifCond .eq 15, 3) := by decide +kernel
theorem dX9_wait_7 : decode cX9_wait 7 = .ok (.iload_n 3, 1) := by decide +kernel
theorem dX9_wait_8 : decode cX9_wait 8 = .ok (.invokestatic 102, 3) := by decide +kernel
theorem dX9_wait_11 : decode cX9_wait 11 = .ok (.ifCond .eq 8, 3) := by decide +kernel
theorem dX9_wait_14 : decode cX9_wait 14 = .ok (.iload_n 1, 1) := by decide +kernel
theorem dX9_wait_15 : decode cX9_wait 15 = .ok (.iload_n 3, 1) := by decide +kernel
theorem dX9_wait_16 : decode cX9_wait 16 = .ok (.if_icmp .ne 5, 3) := by decide +kernel
theorem dX9_wait_19 : decode cX9_wait 19 = .ok (.iconst (-1), 1) := by decide +kernel
theorem dX9_wait_20 : decode cX9_wait 20 = .ok (.ireturn, 1) := by decide +kernel
theorem dX9_wait_21 : decode cX9_wait 21 = .ok (.iload_n 2, 1) := by decide +kernel
theorem dX9_wait_22 : decode cX9_wait 22 = .ok (.iconst 0, 1) := by decide +kernel
theorem dX9_wait_23 : decode cX9_wait 23 = .ok (.aload_n 0, 1) := by decide +kernel
theorem dX9_wait_24 : decode cX9_wait 24 = .ok (.getfield 19, 3) := by decide +kernel
theorem dX9_wait_27 : decode cX9_wait 27 = .ok (.getfield 113, 3) := by decide +kernel
theorem dX9_wait_30 : decode cX9_wait 30 = .ok (.iload_n 1, 1) := by decide +kernel
theorem dX9_wait_31 : decode cX9_wait 31 = .ok (.iaload, 1) := by decide +kernel
theorem dX9_wait_32 : decode cX9_wait 32 = .ok (.iconst 1, 1) := by decide +kernel
theorem dX9_wait_33 : decode cX9_wait 33 = .ok (.isub, 1) := by decide +kernel
theorem dX9_wait_34 : decode cX9_wait 34 = .ok (.invokestatic 95, 3) := by decide +kernel
theorem dX9_wait_37 : decode cX9_wait 37 = .ok (.ifCond .ne 5, 3) := by decide +kernel
theorem dX9_wait_40 : decode cX9_wait 40 = .ok (.iconst (-1), 1) := by decide +kernel
theorem dX9_wait_41 : decode cX9_wait 41 = .ok (.ireturn, 1) := by decide +kernel
theorem dX9_wait_42 : decode cX9_wait 42 = .ok (.aload_n 0, 1) := by decide +kernel
theorem dX9_wait_43 : decode cX9_wait 43 = .ok (.getfield 19, 3) := by decide +kernel
theorem dX9_wait_46 : decode cX9_wait 46 = .ok (.iload_n 1, 1) := by decide +kernel
theorem dX9_wait_47 : decode cX9_wait 47 = .ok (.iload_n 2, 1) := by decide +kernel
theorem dX9_wait_48 : decode cX9_wait 48 = .ok (.iload_n 3, 1) := by decide +kernel
theorem dX9_wait_49 : decode cX9_wait 49 = .ok (.invokevirtual 136, 3) := by decide +kernel
theorem dX9_wait_52 : decode cX9_wait 52 = .ok (.ifCond .eq 6, 3) := by decide +kernel
theorem dX9_wait_55 : decode cX9_wait 55 = .ok (.bipush (-5), 2) := by decide +kernel
theorem dX9_wait_57 : decode cX9_wait 57 = .ok (.ireturn, 1) := by decide +kernel
theorem dX9_wait_58 : decode cX9_wait 58 = .ok (.aload_n 0, 1) := by decide +kernel
theorem dX9_wait_59 : decode cX9_wait 59 = .ok (.getfield 19, 3) := by decide +kernel
theorem dX9_wait_62 : decode cX9_wait 62 = .ok (.getfield 139, 3) := by decide +kernel
theorem dX9_wait_65 : decode cX9_wait 65 = .ok (.bipush 6, 2) := by decide +kernel
theorem dX9_wait_67 : decode cX9_wait 67 = .ok (.if_icmp .lt 6, 3) := by decide +kernel
theorem dX9_wait_70 : decode cX9_wait 70 = .ok (.bipush (-4), 2) := by decide +kernel
theorem dX9_wait_72 : decode cX9_wait 72 = .ok (.ireturn, 1) := by decide +kernel
theorem dX9_wait_73 : decode cX9_wait 73 = .ok (.aload_n 0, 1) := by decide +kernel
theorem dX9_wait_74 : decode cX9_wait 74 = .ok (.getfield 45, 3) := by decide +kernel
theorem dX9_wait_77 : decode cX9_wait 77 = .ok (.invokevirtual 110, 3) := by decide +kernel
theorem dX9_wait_80 : decode cX9_wait 80 = .ok (.aload_n 0, 1) := by decide +kernel
theorem dX9_wait_81 : decode cX9_wait 81 = .ok (.getfield 19, 3) := by decide +kernel
theorem dX9_wait_84 : decode cX9_wait 84 = .ok (.iload_n 1, 1) := by decide +kernel
theorem dX9_wait_85 : decode cX9_wait 85 = .ok (.iload_n 2, 1) := by decide +kernel
theorem dX9_wait_86 : decode cX9_wait 86 = .ok (.iload_n 3, 1) := by decide +kernel
theorem dX9_wait_87 : decode cX9_wait 87 = .ok (.invokevirtual 142, 3) := by decide +kernel
theorem dX9_wait_90 : decode cX9_wait 90 = .ok (.ireturn, 1) := by decide +kernel
theorem dX9_drop_0 : decode cX9_drop 0 = .ok (.iload_n 1, 1) := by decide +kernel
theorem dX9_drop_1 : decode cX9_drop 1 = .ok (.iconst 0, 1) := by decide +kernel
theorem dX9_drop_2 : decode cX9_drop 2 = .ok (.aload_n 0, 1) := by decide +kernel
theorem dX9_drop_3 : decode cX9_drop 3 = .ok (.getfield 19, 3) := by decide +kernel
theorem dX9_drop_6 : decode cX9_drop 6 = .ok (.getfield 139, 3) := by decide +kernel
theorem dX9_drop_9 : decode cX9_drop 9 = .ok (.iconst 1, 1) := by decide +kernel
theorem dX9_drop_10 : decode cX9_drop 10 = .ok (.isub, 1) := by decide +kernel
theorem dX9_drop_11 : decode cX9_drop 11 = .ok (.invokestatic 95, 3) := by decide +kernel
theorem dX9_drop_14 : decode cX9_drop 14 = .ok (.ifCond .ne 5, 3) := by decide +kernel
theorem dX9_drop_17 : decode cX9_drop 17 = .ok (.iconst (-1), 1) := by decide +kernel
theorem dX9_drop_18 : decode cX9_drop 18 = .ok (.ireturn, 1) := by decide +kernel
theorem dX9_drop_19 : decode cX9_drop 19 = .ok (.aload_n 0, 1) := by decide +kernel
theorem dX9_drop_20 : decode cX9_drop 20 = .ok (.getfield 45, 3) := by decide +kernel
theorem dX9_drop_23 : decode cX9_drop 23 = .ok (.invokevirtual 110, 3) := by decide +kernel
theorem dX9_drop_26 : decode cX9_drop 26 = .ok (.aload_n 0, 1) := by decide +kernel
theorem dX9_drop_27 : decode cX9_drop 27 = .ok (.getfield 19, 3) := by decide +kernel
theorem dX9_drop_30 : decode cX9_drop 30 = .ok (.iload_n 1, 1) := by decide +kernel
theorem dX9_drop_31 : decode cX9_drop 31 = .ok (.invokevirtual 146, 3) := by decide +kernel
theorem dX9_drop_34 : decode cX9_drop 34 = .ok (.ireturn, 1) := by decide +kernel
theorem dX9_set_0 : decode cX9_set 0 = .ok (.iload_n 1, 1) := by decide +kernel
theorem dX9_set_1 : decode cX9_set 1 = .ok (.ifCond .ne 37, 3) := by decide +kernel
theorem dX9_set_4 : decode cX9_set 4 = .ok (.iload_n 2, 1) := by decide +kernel
theorem dX9_set_5 : decode cX9_set 5 = .ok (.iconst 0, 1) := by decide +kernel
theorem dX9_set_6 : decode cX9_set 6 = .ok (.iconst 2, 1) := by decide +kernel
theorem dX9_set_7 : decode cX9_set 7 = .ok (.invokestatic 95, 3) := by decide +kernel
theorem dX9_set_10 : decode cX9_set 10 = .ok (.ifCond .eq 28, 3) := by decide +kernel
theorem dX9_set_13 : decode cX9_set 13 = .ok (.aload_n 0, 1) := by decide +kernel
theorem dX9_set_14 : decode cX9_set 14 = .ok (.getfield 19, 3) := by decide +kernel
theorem dX9_set_17 : decode cX9_set 17 = .ok (.getfield 149, 3) := by decide +kernel
theorem dX9_set_20 : decode cX9_set 20 = .ok (.istore_n 3, 1) := by decide +kernel
theorem dX9_set_21 : decode cX9_set 21 = .ok (.aload_n 0, 1) := by decide +kernel
theorem dX9_set_22 : decode cX9_set 22 = .ok (.getfield 19, 3) := by decide +kernel
theorem dX9_set_25 : decode cX9_set 25 = .ok (.iload_n 2, 1) := by decide +kernel
theorem dX9_set_26 : decode cX9_set 26 = .ok (.putfield 149, 3) := by decide +kernel
theorem dX9_set_29 : decode cX9_set 29 = .ok (.aload_n 0, 1) := by decide +kernel
theorem dX9_set_30 : decode cX9_set 30 = .ok (.getfield 45, 3) := by decide +kernel
theorem dX9_set_33 : decode cX9_set 33 = .ok (.invokevirtual 110, 3) := by decide +kernel
theorem dX9_set_36 : decode cX9_set 36 = .ok (.iload_n 3, 1) := by decide +kernel
theorem dX9_set_37 : decode cX9_set 37 = .ok (.ireturn, 1) := by decide +kernel
theorem dX9_set_38 : decode cX9_set 38 = .ok (.iload_n 1, 1) := by decide +kernel
theorem dX9_set_39 : decode cX9_set 39 = .ok (.iconst 1, 1) := by decide +kernel
theorem dX9_set_40 : decode cX9_set 40 = .ok (.if_icmp .ne 31, 3) := by decide +kernel
theorem dX9_set_43 : decode cX9_set 43 = .ok (.iload_n 2, 1) := by decide +kernel
theorem dX9_set_44 : decode cX9_set 44 = .ok (.iconst 0, 1) := by decide +kernel
theorem dX9_set_45 : decode cX9_set 45 = .ok (.bipush 9, 2) := by decide +kernel
theorem dX9_set_47 : decode cX9_set 47 = .ok (.invokestatic 95, 3) := by decide +kernel
theorem dX9_set_50 : decode cX9_set 50 = .ok (.ifCond .eq 21, 3) := by decide +kernel
theorem dX9_set_53 : decode cX9_set 53 = .ok (.aload_n 0, 1) := by decide +kernel
theorem dX9_set_54 : decode cX9_set 54 = .ok (.getfield 19, 3) := by decide +kernel
theorem dX9_set_57 : decode cX9_set 57 = .ok (.getfield 152, 3) := by decide +kernel
theorem dX9_set_60 : decode cX9_set 60 = .ok (.istore_n 3, 1) := by decide +kernel
theorem dX9_set_61 : decode cX9_set 61 = .ok (.aload_n 0, 1) := by decide +kernel
theorem dX9_set_62 : decode cX9_set 62 = .ok (.getfield 19, 3) := by decide +kernel
theorem dX9_set_65 : decode cX9_set 65 = .ok (.iload_n 2, 1) := by decide +kernel
theorem dX9_set_66 : decode cX9_set 66 = .ok (.putfield 152, 3) := by decide +kernel
theorem dX9_set_69 : decode cX9_set 69 = .ok (.iload_n 3, 1) := by decide +kernel
theorem dX9_set_70 : decode cX9_set 70 = .ok (.ireturn, 1) := by decide +kernel
theorem dX9_set_71 : decode cX9_set 71 = .ok (.bipush (-2), 2) := by decide +kernel
theorem dX9_set_73 : decode cX9_set 73 = .ok (.ireturn, 1) := by decide +kernel
theorem dX9_judge_0 : decode cX9_judge 0 = .ok (.iload_n 1, 1) := by decide +kernel
theorem dX9_judge_1 : decode cX9_judge 1 = .ok (.iconst 0, 1) := by decide +kernel
theorem dX9_judge_2 : decode cX9_judge 2 = .ok (.iconst 1, 1) := by decide +kernel
theorem dX9_judge_3 : decode cX9_judge 3 = .ok (.invokestatic 95, 3) := by decide +kernel
theorem dX9_judge_6 : decode cX9_judge 6 = .ok (.ifCond .ne 6, 3) := by decide +kernel
theorem dX9_judge_9 : decode cX9_judge 9 = .ok (.bipush (-2), 2) := by decide +kernel
theorem dX9_judge_11 : decode cX9_judge 11 = .ok (.ireturn, 1) := by decide +kernel
theorem dX9_judge_12 : decode cX9_judge 12 = .ok (.aload_n 0, 1) := by decide +kernel
theorem dX9_judge_13 : decode cX9_judge 13 = .ok (.getfield 10, 3) := by decide +kernel
theorem dX9_judge_16 : decode cX9_judge 16 = .ok (.iconst 1, 1) := by decide +kernel
theorem dX9_judge_17 : decode cX9_judge 17 = .ok (.invokevirtual 99, 3) := by decide +kernel
theorem dX9_judge_20 : decode cX9_judge 20 = .ok (.bipush (-6), 2) := by decide +kernel
theorem dX9_judge_22 : decode cX9_judge 22 = .ok (.if_icmp .eq 6, 3) := by decide +kernel
theorem dX9_judge_25 : decode cX9_judge 25 = .ok (.bipush (-5), 2) := by decide +kernel
theorem dX9_judge_27 : decode cX9_judge 27 = .ok (.ireturn, 1) := by decide +kernel
theorem dX9_judge_28 : decode cX9_judge 28 = .ok (.aload_n 0, 1) := by decide +kernel
theorem dX9_judge_29 : decode cX9_judge 29 = .ok (.getfield 36, 3) := by decide +kernel
theorem dX9_judge_32 : decode cX9_judge 32 = .ok (.invokevirtual 155, 3) := by decide +kernel
theorem dX9_judge_35 : decode cX9_judge 35 = .ok (.ifCond .eq 6, 3) := by decide +kernel
theorem dX9_judge_38 : decode cX9_judge 38 = .ok (.bipush (-6), 2) := by decide +kernel
theorem dX9_judge_40 : decode cX9_judge 40 = .ok (.ireturn, 1) := by decide +kernel
theorem dX9_judge_41 : decode cX9_judge 41 = .ok (.iload_n 1, 1) := by decide +kernel
theorem dX9_judge_42 : decode cX9_judge 42 = .ok (.ifCond .ne 13, 3) := by decide +kernel
theorem dX9_judge_45 : decode cX9_judge 45 = .ok (.aload_n 0, 1) := by decide +kernel
theorem dX9_judge_46 : decode cX9_judge 46 = .ok (.getfield 36, 3) := by decide +kernel
theorem dX9_judge_49 : decode cX9_judge 49 = .ok (.getfield 158, 3) := by decide +kernel
theorem dX9_judge_52 : decode cX9_judge 52 = .ok (.goto 10, 3) := by decide +kernel
theorem dX9_judge_55 : decode cX9_judge 55 = .ok (.aload_n 0, 1) := by decide +kernel
theorem dX9_judge_56 : decode cX9_judge 56 = .ok (.getfield 36, 3) := by decide +kernel
theorem dX9_judge_59 : decode cX9_judge 59 = .ok (.getfield 161, 3) := by decide +kernel
theorem dX9_judge_62 : decode cX9_judge 62 = .ok (.ireturn, 1) := by decide +kernel
theorem dX9_evening_0 : decode cX9_evening 0 = .ok (.iload_n 1, 1) := by decide +kernel
theorem dX9_evening_1 : decode cX9_evening 1 = .ok (.iconst 0, 1) := by decide +kernel
theorem dX9_evening_2 : decode cX9_evening 2 = .ok (.iconst 2, 1) := by decide +kernel
theorem dX9_evening_3 : decode cX9_evening 3 = .ok (.invokestatic 95, 3) := by decide +kernel
theorem dX9_evening_6 : decode cX9_evening 6 = .ok (.ifCond .ne 6, 3) := by decide +kernel
theorem dX9_evening_9 : decode cX9_evening 9 = .ok (.bipush (-2), 2) := by decide +kernel
theorem dX9_evening_11 : decode cX9_evening 11 = .ok (.ireturn, 1) := by decide +kernel
theorem dX9_evening_12 : decode cX9_evening 12 = .ok (.aload_n 0, 1) := by decide +kernel
theorem dX9_evening_13 : decode cX9_evening 13 = .ok (.invokevirtual 164, 3) := by decide +kernel
theorem dX9_evening_16 : decode cX9_evening 16 = .ok (.istore_n 2, 1) := by decide +kernel
theorem dX9_evening_17 : decode cX9_evening 17 = .ok (.iload_n 2, 1) := by decide +kernel
theorem dX9_evening_18 : decode cX9_evening 18 = .ok (.ifCond .eq 5, 3) := by decide +kernel
theorem dX9_evening_21 : decode cX9_evening 21 = .ok (.iload_n 2, 1) := by decide +kernel
theorem dX9_evening_22 : decode cX9_evening 22 = .ok (.ireturn, 1) := by decide +kernel
theorem dX9_evening_23 : decode cX9_evening 23 = .ok (.iload_n 1, 1) := by decide +kernel
theorem dX9_evening_24 : decode cX9_evening 24 = .ok (.lookupswitch 44 #[(0, 28), (1, 36)], 28) := by decide +kernel
theorem dX9_evening_52 : decode cX9_evening 52 = .ok (.aload_n 0, 1) := by decide +kernel
theorem dX9_evening_53 : decode cX9_evening 53 = .ok (.getfield 36, 3) := by decide +kernel
theorem dX9_evening_56 : decode cX9_evening 56 = .ok (.getfield 167, 3) := by decide +kernel
theorem dX9_evening_59 : decode cX9_evening 59 = .ok (.ireturn, 1) := by decide +kernel
theorem dX9_evening_60 : decode cX9_evening 60 = .ok (.aload_n 0, 1) := by decide +kernel
theorem dX9_evening_61 : decode cX9_evening 61 = .ok (.getfield 36, 3) := by decide +kernel
theorem dX9_evening_64 : decode cX9_evening 64 = .ok (.getfield 170, 3) := by decide +kernel
theorem dX9_evening_67 : decode cX9_evening 67 = .ok (.ireturn, 1) := by decide +kernel
theorem dX9_evening_68 : decode cX9_evening 68 = .ok (.aload_n 0, 1) := by decide +kernel
theorem dX9_evening_69 : decode cX9_evening 69 = .ok (.getfield 36, 3) := by decide +kernel
theorem dX9_evening_72 : decode cX9_evening 72 = .ok (.getfield 173, 3) := by decide +kernel
theorem dX9_evening_75 : decode cX9_evening 75 = .ok (.ireturn, 1) := by decide +kernel
theorem dX9_ways_0 : decode cX9_ways 0 = .ok (.iload_n 1, 1) := by decide +kernel
theorem dX9_ways_1 : decode cX9_ways 1 = .ok (.invokestatic 176, 3) := by decide +kernel
theorem dX9_ways_4 : decode cX9_ways 4 = .ok (.ifCond .eq 10, 3) := by decide +kernel
theorem dX9_ways_7 : decode cX9_ways 7 = .ok (.iload_n 2, 1) := by decide +kernel
theorem dX9_ways_8 : decode cX9_ways 8 = .ok (.invokestatic 179, 3) := by decide +kernel
theorem dX9_ways_11 : decode cX9_ways 11 = .ok (.ifCond .ne 7, 3) := by decide +kernel
theorem dX9_ways_14 : decode cX9_ways 14 = .ok (.ldc2_w 182, 3) := by decide +kernel
theorem dX9_ways_17 : decode cX9_ways 17 = .ok (.lreturn, 1) := by decide +kernel
theorem dX9_ways_18 : decode cX9_ways 18 = .ok (.aload_n 0, 1) := by decide +kernel
theorem dX9_ways_19 : decode cX9_ways 19 = .ok (.getfield 45, 3) := by decide +kernel
theorem dX9_ways_22 : decode cX9_ways 22 = .ok (.iload_n 1, 1) := by decide +kernel
theorem dX9_ways_23 : decode cX9_ways 23 = .ok (.iload_n 2, 1) := by decide +kernel
theorem dX9_ways_24 : decode cX9_ways 24 = .ok (.invokevirtual 184, 3) := by decide +kernel
theorem dX9_ways_27 : decode cX9_ways 27 = .ok (.aload_n 0, 1) := by decide +kernel
theorem dX9_ways_28 : decode cX9_ways 28 = .ok (.getfield 54, 3) := by decide +kernel
theorem dX9_ways_31 : decode cX9_ways 31 = .ok (.invokevirtual 188, 3) := by decide +kernel
theorem dX9_ways_34 : decode cX9_ways 34 = .ok (.lreturn, 1) := by decide +kernel
theorem dX9_shortest_0 : decode cX9_shortest 0 = .ok (.iload_n 1, 1) := by decide +kernel
theorem dX9_shortest_1 : decode cX9_shortest 1 = .ok (.invokestatic 176, 3) := by decide +kernel
theorem dX9_shortest_4 : decode cX9_shortest 4 = .ok (.ifCond .eq 15, 3) := by decide +kernel
theorem dX9_shortest_7 : decode cX9_shortest 7 = .ok (.iload_n 2, 1) := by decide +kernel
theorem dX9_shortest_8 : decode cX9_shortest 8 = .ok (.invokestatic 179, 3) := by decide +kernel
theorem dX9_shortest_11 : decode cX9_shortest 11 = .ok (.ifCond .eq 8, 3) := by decide +kernel
theorem dX9_shortest_14 : decode cX9_shortest 14 = .ok (.iload_n 3, 1) := by decide +kernel
theorem dX9_shortest_15 : decode cX9_shortest 15 = .ok (.iconst (-1), 1) := by decide +kernel
theorem dX9_shortest_16 : decode cX9_shortest 16 = .ok (.if_icmp .ge 6, 3) := by decide +kernel
theorem dX9_shortest_19 : decode cX9_shortest 19 = .ok (.bipush (-2), 2) := by decide +kernel
theorem dX9_shortest_21 : decode cX9_shortest 21 = .ok (.ireturn, 1) := by decide +kernel
theorem dX9_shortest_22 : decode cX9_shortest 22 = .ok (.aload_n 0, 1) := by decide +kernel
theorem dX9_shortest_23 : decode cX9_shortest 23 = .ok (.getfield 45, 3) := by decide +kernel
theorem dX9_shortest_26 : decode cX9_shortest 26 = .ok (.iload_n 1, 1) := by decide +kernel
theorem dX9_shortest_27 : decode cX9_shortest 27 = .ok (.iload_n 2, 1) := by decide +kernel
theorem dX9_shortest_28 : decode cX9_shortest 28 = .ok (.invokevirtual 184, 3) := by decide +kernel
theorem dX9_shortest_31 : decode cX9_shortest 31 = .ok (.iload_n 3, 1) := by decide +kernel
theorem dX9_shortest_32 : decode cX9_shortest 32 = .ok (.iconst (-1), 1) := by decide +kernel
theorem dX9_shortest_33 : decode cX9_shortest 33 = .ok (.if_icmp .ne 13, 3) := by decide +kernel
theorem dX9_shortest_36 : decode cX9_shortest 36 = .ok (.aload_n 0, 1) := by decide +kernel
theorem dX9_shortest_37 : decode cX9_shortest 37 = .ok (.getfield 54, 3) := by decide +kernel
theorem dX9_shortest_40 : decode cX9_shortest 40 = .ok (.invokevirtual 192, 3) := by decide +kernel
theorem dX9_shortest_43 : decode cX9_shortest 43 = .ok (.goto 11, 3) := by decide +kernel
theorem dX9_shortest_46 : decode cX9_shortest 46 = .ok (.aload_n 0, 1) := by decide +kernel
theorem dX9_shortest_47 : decode cX9_shortest 47 = .ok (.getfield 54, 3) := by decide +kernel
theorem dX9_shortest_50 : decode cX9_shortest 50 = .ok (.iload_n 3, 1) := by decide +kernel
theorem dX9_shortest_51 : decode cX9_shortest 51 = .ok (.invokevirtual 195, 3) := by decide +kernel
theorem dX9_shortest_54 : decode cX9_shortest 54 = .ok (.ireturn, 1) := by decide +kernel
theorem dX9_ends_0 : decode cX9_ends 0 = .ok (.iload_n 1, 1) := by decide +kernel
theorem dX9_ends_1 : decode cX9_ends 1 = .ok (.iload_n 2, 1) := by decide +kernel
theorem dX9_ends_2 : decode cX9_ends 2 = .ok (.invokestatic 198, 3) := by decide +kernel
theorem dX9_ends_5 : decode cX9_ends 5 = .ok (.ifCond .ne 5, 3) := by decide +kernel
theorem dX9_ends_8 : decode cX9_ends 8 = .ok (.iconst (-1), 1) := by decide +kernel
theorem dX9_ends_9 : decode cX9_ends 9 = .ok (.ireturn, 1) := by decide +kernel
theorem dX9_ends_10 : decode cX9_ends 10 = .ok (.iload_n 2, 1) := by decide +kernel
theorem dX9_ends_11 : decode cX9_ends 11 = .ok (.invokestatic 176, 3) := by decide +kernel
theorem dX9_ends_14 : decode cX9_ends 14 = .ok (.ifCond .eq 16, 3) := by decide +kernel
theorem dX9_ends_17 : decode cX9_ends 17 = .ok (.iload_n 3, 1) := by decide +kernel
theorem dX9_ends_18 : decode cX9_ends 18 = .ok (.invokestatic 179, 3) := by decide +kernel
theorem dX9_ends_21 : decode cX9_ends 21 = .ok (.ifCond .eq 9, 3) := by decide +kernel
theorem dX9_ends_24 : decode cX9_ends 24 = .ok (.iload 4, 2) := by decide +kernel
theorem dX9_ends_26 : decode cX9_ends 26 = .ok (.iconst (-1), 1) := by decide +kernel
theorem dX9_ends_27 : decode cX9_ends 27 = .ok (.if_icmp .ge 6, 3) := by decide +kernel
theorem dX9_ends_30 : decode cX9_ends 30 = .ok (.bipush (-2), 2) := by decide +kernel
theorem dX9_ends_32 : decode cX9_ends 32 = .ok (.ireturn, 1) := by decide +kernel
theorem dX9_ends_33 : decode cX9_ends 33 = .ok (.aload_n 0, 1) := by decide +kernel
theorem dX9_ends_34 : decode cX9_ends 34 = .ok (.getfield 45, 3) := by decide +kernel
theorem dX9_ends_37 : decode cX9_ends 37 = .ok (.iload_n 2, 1) := by decide +kernel
theorem dX9_ends_38 : decode cX9_ends 38 = .ok (.iload_n 3, 1) := by decide +kernel
theorem dX9_ends_39 : decode cX9_ends 39 = .ok (.invokevirtual 184, 3) := by decide +kernel
theorem dX9_ends_42 : decode cX9_ends 42 = .ok (.aload_n 0, 1) := by decide +kernel
theorem dX9_ends_43 : decode cX9_ends 43 = .ok (.getfield 54, 3) := by decide +kernel
theorem dX9_ends_46 : decode cX9_ends 46 = .ok (.iload_n 1, 1) := by decide +kernel
theorem dX9_ends_47 : decode cX9_ends 47 = .ok (.invokevirtual 202, 3) := by decide +kernel
theorem dX9_ends_50 : decode cX9_ends 50 = .ok (.iload 4, 2) := by decide +kernel
theorem dX9_ends_52 : decode cX9_ends 52 = .ok (.iconst (-1), 1) := by decide +kernel
theorem dX9_ends_53 : decode cX9_ends 53 = .ok (.if_icmp .ne 13, 3) := by decide +kernel
theorem dX9_ends_56 : decode cX9_ends 56 = .ok (.aload_n 0, 1) := by decide +kernel
theorem dX9_ends_57 : decode cX9_ends 57 = .ok (.getfield 54, 3) := by decide +kernel
theorem dX9_ends_60 : decode cX9_ends 60 = .ok (.invokevirtual 206, 3) := by decide +kernel
theorem dX9_ends_63 : decode cX9_ends 63 = .ok (.goto 12, 3) := by decide +kernel
theorem dX9_ends_66 : decode cX9_ends 66 = .ok (.aload_n 0, 1) := by decide +kernel
theorem dX9_ends_67 : decode cX9_ends 67 = .ok (.getfield 54, 3) := by decide +kernel
theorem dX9_ends_70 : decode cX9_ends 70 = .ok (.iload 4, 2) := by decide +kernel
theorem dX9_ends_72 : decode cX9_ends 72 = .ok (.invokevirtual 209, 3) := by decide +kernel
theorem dX9_ends_75 : decode cX9_ends 75 = .ok (.ireturn, 1) := by decide +kernel
theorem dX9_turns_0 : decode cX9_turns 0 = .ok (.iload_n 1, 1) := by decide +kernel
theorem dX9_turns_1 : decode cX9_turns 1 = .ok (.iload_n 2, 1) := by decide +kernel
theorem dX9_turns_2 : decode cX9_turns 2 = .ok (.invokestatic 198, 3) := by decide +kernel
theorem dX9_turns_5 : decode cX9_turns 5 = .ok (.ifCond .ne 5, 3) := by decide +kernel
theorem dX9_turns_8 : decode cX9_turns 8 = .ok (.iconst (-1), 1) := by decide +kernel
theorem dX9_turns_9 : decode cX9_turns 9 = .ok (.ireturn, 1) := by decide +kernel
theorem dX9_turns_10 : decode cX9_turns 10 = .ok (.iload_n 2, 1) := by decide +kernel
theorem dX9_turns_11 : decode cX9_turns 11 = .ok (.invokestatic 176, 3) := by decide +kernel
theorem dX9_turns_14 : decode cX9_turns 14 = .ok (.ifCond .eq 24, 3) := by decide +kernel
theorem dX9_turns_17 : decode cX9_turns 17 = .ok (.iload_n 3, 1) := by decide +kernel
theorem dX9_turns_18 : decode cX9_turns 18 = .ok (.iconst 0, 1) := by decide +kernel
theorem dX9_turns_19 : decode cX9_turns 19 = .ok (.sipush 144, 3) := by decide +kernel
theorem dX9_turns_22 : decode cX9_turns 22 = .ok (.invokestatic 95, 3) := by decide +kernel
theorem dX9_turns_25 : decode cX9_turns 25 = .ok (.ifCond .eq 13, 3) := by decide +kernel
theorem dX9_turns_28 : decode cX9_turns 28 = .ok (.iload 4, 2) := by decide +kernel
theorem dX9_turns_30 : decode cX9_turns 30 = .ok (.iconst 0, 1) := by decide +kernel
theorem dX9_turns_31 : decode cX9_turns 31 = .ok (.iconst 1, 1) := by decide +kernel
theorem dX9_turns_32 : decode cX9_turns 32 = .ok (.invokestatic 95, 3) := by decide +kernel
theorem dX9_turns_35 : decode cX9_turns 35 = .ok (.ifCond .ne 6, 3) := by decide +kernel
theorem dX9_turns_38 : decode cX9_turns 38 = .ok (.bipush (-2), 2) := by decide +kernel
theorem dX9_turns_40 : decode cX9_turns 40 = .ok (.ireturn, 1) := by decide +kernel
theorem dX9_turns_41 : decode cX9_turns 41 = .ok (.aload_n 0, 1) := by decide +kernel
theorem dX9_turns_42 : decode cX9_turns 42 = .ok (.getfield 45, 3) := by decide +kernel
theorem dX9_turns_45 : decode cX9_turns 45 = .ok (.iload_n 2, 1) := by decide +kernel
theorem dX9_turns_46 : decode cX9_turns 46 = .ok (.iconst 4, 1) := by decide +kernel
theorem dX9_turns_47 : decode cX9_turns 47 = .ok (.invokevirtual 184, 3) := by decide +kernel
theorem dX9_turns_50 : decode cX9_turns 50 = .ok (.aload_n 0, 1) := by decide +kernel
theorem dX9_turns_51 : decode cX9_turns 51 = .ok (.getfield 63, 3) := by decide +kernel
theorem dX9_turns_54 : decode cX9_turns 54 = .ok (.iload_n 1, 1) := by decide +kernel
theorem dX9_turns_55 : decode cX9_turns 55 = .ok (.iload_n 3, 1) := by decide +kernel
theorem dX9_turns_56 : decode cX9_turns 56 = .ok (.invokevirtual 212, 3) := by decide +kernel
theorem dX9_turns_59 : decode cX9_turns 59 = .ok (.aload_n 0, 1) := by decide +kernel
theorem dX9_turns_60 : decode cX9_turns 60 = .ok (.getfield 63, 3) := by decide +kernel
theorem dX9_turns_63 : decode cX9_turns 63 = .ok (.invokevirtual 215, 3) := by decide +kernel
theorem dX9_turns_66 : decode cX9_turns 66 = .ok (.istore 5, 2) := by decide +kernel
theorem dX9_turns_68 : decode cX9_turns 68 = .ok (.iload 4, 2) := by decide +kernel
theorem dX9_turns_70 : decode cX9_turns 70 = .ok (.iconst 1, 1) := by decide +kernel
theorem dX9_turns_71 : decode cX9_turns 71 = .ok (.if_icmp .ne 6, 3) := by decide +kernel
theorem dX9_turns_74 : decode cX9_turns 74 = .ok (.iload 5, 2) := by decide +kernel
theorem dX9_turns_76 : decode cX9_turns 76 = .ok (.ireturn, 1) := by decide +kernel
theorem dX9_turns_77 : decode cX9_turns 77 = .ok (.iload 5, 2) := by decide +kernel
theorem dX9_turns_79 : decode cX9_turns 79 = .ok (.bipush (-6), 2) := by decide +kernel
theorem dX9_turns_81 : decode cX9_turns 81 = .ok (.if_icmp .ne 7, 3) := by decide +kernel
theorem dX9_turns_84 : decode cX9_turns 84 = .ok (.iconst 0, 1) := by decide +kernel
theorem dX9_turns_85 : decode cX9_turns 85 = .ok (.goto 4, 3) := by decide +kernel
theorem dX9_turns_88 : decode cX9_turns 88 = .ok (.iconst 1, 1) := by decide +kernel
theorem dX9_turns_89 : decode cX9_turns 89 = .ok (.ireturn, 1) := by decide +kernel
theorem dX9_rings_0 : decode cX9_rings 0 = .ok (.iconst 0, 1) := by decide +kernel
theorem dX9_rings_1 : decode cX9_rings 1 = .ok (.istore_n 1, 1) := by decide +kernel
theorem dX9_rings_2 : decode cX9_rings 2 = .ok (.iconst 1, 1) := by decide +kernel
theorem dX9_rings_3 : decode cX9_rings 3 = .ok (.istore_n 2, 1) := by decide +kernel
theorem dX9_rings_4 : decode cX9_rings 4 = .ok (.iload_n 2, 1) := by decide +kernel
theorem dX9_rings_5 : decode cX9_rings 5 = .ok (.bipush 15, 2) := by decide +kernel
theorem dX9_rings_7 : decode cX9_rings 7 = .ok (.if_icmp .gt 29, 3) := by decide +kernel
theorem dX9_rings_10 : decode cX9_rings 10 = .ok (.aload_n 0, 1) := by decide +kernel
theorem dX9_rings_11 : decode cX9_rings 11 = .ok (.getfield 79, 3) := by decide +kernel
theorem dX9_rings_14 : decode cX9_rings 14 = .ok (.iload_n 2, 1) := by decide +kernel
theorem dX9_rings_15 : decode cX9_rings 15 = .ok (.iconst 0, 1) := by decide +kernel
theorem dX9_rings_16 : decode cX9_rings 16 = .ok (.invokevirtual 218, 3) := by decide +kernel
theorem dX9_rings_19 : decode cX9_rings 19 = .ok (.ifCond .eq 11, 3) := by decide +kernel
theorem dX9_rings_22 : decode cX9_rings 22 = .ok (.iload_n 1, 1) := by decide +kernel
theorem dX9_rings_23 : decode cX9_rings 23 = .ok (.iconst 1, 1) := by decide +kernel
theorem dX9_rings_24 : decode cX9_rings 24 = .ok (.iload_n 2, 1) := by decide +kernel
theorem dX9_rings_25 : decode cX9_rings 25 = .ok (.iconst 1, 1) := by decide +kernel
theorem dX9_rings_26 : decode cX9_rings 26 = .ok (.isub, 1) := by decide +kernel
theorem dX9_rings_27 : decode cX9_rings 27 = .ok (.ishl, 1) := by decide +kernel
theorem dX9_rings_28 : decode cX9_rings 28 = .ok (.ior, 1) := by decide +kernel
theorem dX9_rings_29 : decode cX9_rings 29 = .ok (.istore_n 1, 1) := by decide +kernel
theorem dX9_rings_30 : decode cX9_rings 30 = .ok (.iinc 2 1, 3) := by decide +kernel
theorem dX9_rings_33 : decode cX9_rings 33 = .ok (.goto (-29), 3) := by decide +kernel
theorem dX9_rings_36 : decode cX9_rings 36 = .ok (.iload_n 1, 1) := by decide +kernel
theorem dX9_rings_37 : decode cX9_rings 37 = .ok (.ireturn, 1) := by decide +kernel
theorem dX9_dropped_0 : decode cX9_dropped 0 = .ok (.iload_n 1, 1) := by decide +kernel
theorem dX9_dropped_1 : decode cX9_dropped 1 = .ok (.invokestatic 176, 3) := by decide +kernel
theorem dX9_dropped_4 : decode cX9_dropped 4 = .ok (.ifCond .eq 14, 3) := by decide +kernel
theorem dX9_dropped_7 : decode cX9_dropped 7 = .ok (.aload_n 0, 1) := by decide +kernel
theorem dX9_dropped_8 : decode cX9_dropped 8 = .ok (.getfield 79, 3) := by decide +kernel
theorem dX9_dropped_11 : decode cX9_dropped 11 = .ok (.iload_n 1, 1) := by decide +kernel
theorem dX9_dropped_12 : decode cX9_dropped 12 = .ok (.invokevirtual 221, 3) := by decide +kernel
theorem dX9_dropped_15 : decode cX9_dropped 15 = .ok (.goto 5, 3) := by decide +kernel
theorem dX9_dropped_18 : decode cX9_dropped 18 = .ok (.bipush (-2), 2) := by decide +kernel
theorem dX9_dropped_20 : decode cX9_dropped 20 = .ok (.ireturn, 1) := by decide +kernel
theorem dX9_heard_0 : decode cX9_heard 0 = .ok (.aload_n 0, 1) := by decide +kernel
theorem dX9_heard_1 : decode cX9_heard 1 = .ok (.getfield 10, 3) := by decide +kernel
theorem dX9_heard_4 : decode cX9_heard 4 = .ok (.iconst 2, 1) := by decide +kernel
theorem dX9_heard_5 : decode cX9_heard 5 = .ok (.invokevirtual 99, 3) := by decide +kernel
theorem dX9_heard_8 : decode cX9_heard 8 = .ok (.bipush (-6), 2) := by decide +kernel
theorem dX9_heard_10 : decode cX9_heard 10 = .ok (.if_icmp .eq 7, 3) := by decide +kernel
theorem dX9_heard_13 : decode cX9_heard 13 = .ok (.ldc2_w 224, 3) := by decide +kernel
theorem dX9_heard_16 : decode cX9_heard 16 = .ok (.lreturn, 1) := by decide +kernel
theorem dX9_heard_17 : decode cX9_heard 17 = .ok (.aload_n 0, 1) := by decide +kernel
theorem dX9_heard_18 : decode cX9_heard 18 = .ok (.getfield 45, 3) := by decide +kernel
theorem dX9_heard_21 : decode cX9_heard 21 = .ok (.bipush 15, 2) := by decide +kernel
theorem dX9_heard_23 : decode cX9_heard 23 = .ok (.iconst 4, 1) := by decide +kernel
theorem dX9_heard_24 : decode cX9_heard 24 = .ok (.invokevirtual 184, 3) := by decide +kernel
theorem dX9_heard_27 : decode cX9_heard 27 = .ok (.aload_n 0, 1) := by decide +kernel
theorem dX9_heard_28 : decode cX9_heard 28 = .ok (.getfield 72, 3) := by decide +kernel
theorem dX9_heard_31 : decode cX9_heard 31 = .ok (.invokevirtual 226, 3) := by decide +kernel
theorem dX9_heard_34 : decode cX9_heard 34 = .ok (.lreturn, 1) := by decide +kernel
theorem dX9_first_0 : decode cX9_first 0 = .ok (.aload_n 0, 1) := by decide +kernel
theorem dX9_first_1 : decode cX9_first 1 = .ok (.getfield 10, 3) := by decide +kernel
theorem dX9_first_4 : decode cX9_first 4 = .ok (.iconst 2, 1) := by decide +kernel
theorem dX9_first_5 : decode cX9_first 5 = .ok (.invokevirtual 99, 3) := by decide +kernel
theorem dX9_first_8 : decode cX9_first 8 = .ok (.bipush (-6), 2) := by decide +kernel
theorem dX9_first_10 : decode cX9_first 10 = .ok (.if_icmp .eq 6, 3) := by decide +kernel
theorem dX9_first_13 : decode cX9_first 13 = .ok (.bipush (-5), 2) := by decide +kernel
theorem dX9_first_15 : decode cX9_first 15 = .ok (.ireturn, 1) := by decide +kernel
theorem dX9_first_16 : decode cX9_first 16 = .ok (.aload_n 0, 1) := by decide +kernel
theorem dX9_first_17 : decode cX9_first 17 = .ok (.getfield 45, 3) := by decide +kernel
theorem dX9_first_20 : decode cX9_first 20 = .ok (.bipush 15, 2) := by decide +kernel
theorem dX9_first_22 : decode cX9_first 22 = .ok (.iconst 4, 1) := by decide +kernel
theorem dX9_first_23 : decode cX9_first 23 = .ok (.invokevirtual 184, 3) := by decide +kernel
theorem dX9_first_26 : decode cX9_first 26 = .ok (.aload_n 0, 1) := by decide +kernel
theorem dX9_first_27 : decode cX9_first 27 = .ok (.getfield 72, 3) := by decide +kernel
theorem dX9_first_30 : decode cX9_first 30 = .ok (.iload_n 1, 1) := by decide +kernel
theorem dX9_first_31 : decode cX9_first 31 = .ok (.invokevirtual 227, 3) := by decide +kernel
theorem dX9_first_34 : decode cX9_first 34 = .ok (.ireturn, 1) := by decide +kernel
theorem dX9_who_0 : decode cX9_who 0 = .ok (.aload_n 0, 1) := by decide +kernel
theorem dX9_who_1 : decode cX9_who 1 = .ok (.getfield 10, 3) := by decide +kernel
theorem dX9_who_4 : decode cX9_who 4 = .ok (.iconst 2, 1) := by decide +kernel
theorem dX9_who_5 : decode cX9_who 5 = .ok (.invokevirtual 99, 3) := by decide +kernel
theorem dX9_who_8 : decode cX9_who 8 = .ok (.bipush (-6), 2) := by decide +kernel
theorem dX9_who_10 : decode cX9_who 10 = .ok (.if_icmp .eq 6, 3) := by decide +kernel
theorem dX9_who_13 : decode cX9_who 13 = .ok (.bipush (-5), 2) := by decide +kernel
theorem dX9_who_15 : decode cX9_who 15 = .ok (.ireturn, 1) := by decide +kernel
theorem dX9_who_16 : decode cX9_who 16 = .ok (.iload_n 1, 1) := by decide +kernel
theorem dX9_who_17 : decode cX9_who 17 = .ok (.iconst 0, 1) := by decide +kernel
theorem dX9_who_18 : decode cX9_who 18 = .ok (.aload_n 0, 1) := by decide +kernel
theorem dX9_who_19 : decode cX9_who 19 = .ok (.getfield 10, 3) := by decide +kernel
theorem dX9_who_22 : decode cX9_who 22 = .ok (.getfield 230, 3) := by decide +kernel
theorem dX9_who_25 : decode cX9_who 25 = .ok (.iconst 1, 1) := by decide +kernel
theorem dX9_who_26 : decode cX9_who 26 = .ok (.isub, 1) := by decide +kernel
theorem dX9_who_27 : decode cX9_who 27 = .ok (.invokestatic 95, 3) := by decide +kernel
theorem dX9_who_30 : decode cX9_who 30 = .ok (.ifCond .ne 6, 3) := by decide +kernel
theorem dX9_who_33 : decode cX9_who 33 = .ok (.bipush (-6), 2) := by decide +kernel
theorem dX9_who_35 : decode cX9_who 35 = .ok (.ireturn, 1) := by decide +kernel
theorem dX9_who_36 : decode cX9_who 36 = .ok (.aload_n 0, 1) := by decide +kernel
theorem dX9_who_37 : decode cX9_who 37 = .ok (.getfield 45, 3) := by decide +kernel
theorem dX9_who_40 : decode cX9_who 40 = .ok (.bipush 15, 2) := by decide +kernel
theorem dX9_who_42 : decode cX9_who 42 = .ok (.iconst 4, 1) := by decide +kernel
theorem dX9_who_43 : decode cX9_who 43 = .ok (.invokevirtual 184, 3) := by decide +kernel
theorem dX9_who_46 : decode cX9_who 46 = .ok (.aload_n 0, 1) := by decide +kernel
theorem dX9_who_47 : decode cX9_who 47 = .ok (.getfield 72, 3) := by decide +kernel
theorem dX9_who_50 : decode cX9_who 50 = .ok (.iload_n 1, 1) := by decide +kernel
theorem dX9_who_51 : decode cX9_who 51 = .ok (.invokevirtual 233, 3) := by decide +kernel
theorem dX9_who_54 : decode cX9_who 54 = .ok (.ireturn, 1) := by decide +kernel
theorem dX9_left_0 : decode cX9_left 0 = .ok (.iload_n 1, 1) := by decide +kernel
theorem dX9_left_1 : decode cX9_left 1 = .ok (.invokestatic 127, 3) := by decide +kernel
theorem dX9_left_4 : decode cX9_left 4 = .ok (.ifCond .ne 5, 3) := by decide +kernel
theorem dX9_left_7 : decode cX9_left 7 = .ok (.iconst (-1), 1) := by decide +kernel
theorem dX9_left_8 : decode cX9_left 8 = .ok (.ireturn, 1) := by decide +kernel
theorem dX9_left_9 : decode cX9_left 9 = .ok (.iload_n 2, 1) := by decide +kernel
theorem dX9_left_10 : decode cX9_left 10 = .ok (.iconst 0, 1) := by decide +kernel
theorem dX9_left_11 : decode cX9_left 11 = .ok (.iconst 1, 1) := by decide +kernel
theorem dX9_left_12 : decode cX9_left 12 = .ok (.invokestatic 95, 3) := by decide +kernel
theorem dX9_left_15 : decode cX9_left 15 = .ok (.ifCond .ne 6, 3) := by decide +kernel
theorem dX9_left_18 : decode cX9_left 18 = .ok (.bipush (-2), 2) := by decide +kernel
theorem dX9_left_20 : decode cX9_left 20 = .ok (.ireturn, 1) := by decide +kernel
theorem dX9_left_21 : decode cX9_left 21 = .ok (.aload_n 0, 1) := by decide +kernel
theorem dX9_left_22 : decode cX9_left 22 = .ok (.invokevirtual 164, 3) := by decide +kernel
theorem dX9_left_25 : decode cX9_left 25 = .ok (.istore_n 3, 1) := by decide +kernel
theorem dX9_left_26 : decode cX9_left 26 = .ok (.iload_n 3, 1) := by decide +kernel
theorem dX9_left_27 : decode cX9_left 27 = .ok (.ifCond .eq 5, 3) := by decide +kernel
theorem dX9_left_30 : decode cX9_left 30 = .ok (.iload_n 3, 1) := by decide +kernel
theorem dX9_left_31 : decode cX9_left 31 = .ok (.ireturn, 1) := by decide +kernel
theorem dX9_left_32 : decode cX9_left 32 = .ok (.aload_n 0, 1) := by decide +kernel
theorem dX9_left_33 : decode cX9_left 33 = .ok (.getfield 19, 3) := by decide +kernel
theorem dX9_left_36 : decode cX9_left 36 = .ok (.iload_n 1, 1) := by decide +kernel
theorem dX9_left_37 : decode cX9_left 37 = .ok (.invokevirtual 236, 3) := by decide +kernel
theorem dX9_left_40 : decode cX9_left 40 = .ok (.aload_n 0, 1) := by decide +kernel
theorem dX9_left_41 : decode cX9_left 41 = .ok (.getfield 36, 3) := by decide +kernel
theorem dX9_left_44 : decode cX9_left 44 = .ok (.getfield 167, 3) := by decide +kernel
theorem dX9_left_47 : decode cX9_left 47 = .ok (.iand, 1) := by decide +kernel
theorem dX9_left_48 : decode cX9_left 48 = .ok (.istore 4, 2) := by decide +kernel
theorem dX9_left_50 : decode cX9_left 50 = .ok (.iload_n 2, 1) := by decide +kernel
theorem dX9_left_51 : decode cX9_left 51 = .ok (.ifCond .ne 8, 3) := by decide +kernel
theorem dX9_left_54 : decode cX9_left 54 = .ok (.iload 4, 2) := by decide +kernel
theorem dX9_left_56 : decode cX9_left 56 = .ok (.goto 10, 3) := by decide +kernel
theorem dX9_left_59 : decode cX9_left 59 = .ok (.aload_n 0, 1) := by decide +kernel
theorem dX9_left_60 : decode cX9_left 60 = .ok (.iload_n 1, 1) := by decide +kernel
theorem dX9_left_61 : decode cX9_left 61 = .ok (.iload 4, 2) := by decide +kernel
theorem dX9_left_63 : decode cX9_left 63 = .ok (.invokevirtual 239, 3) := by decide +kernel
theorem dX9_left_66 : decode cX9_left 66 = .ok (.ireturn, 1) := by decide +kernel
theorem dX9_image_0 : decode cX9_image 0 = .ok (.iload_n 1, 1) := by decide +kernel
theorem dX9_image_1 : decode cX9_image 1 = .ok (.iconst 0, 1) := by decide +kernel
theorem dX9_image_2 : decode cX9_image 2 = .ok (.iconst 1, 1) := by decide +kernel
theorem dX9_image_3 : decode cX9_image 3 = .ok (.invokestatic 95, 3) := by decide +kernel
theorem dX9_image_6 : decode cX9_image 6 = .ok (.ifCond .ne 6, 3) := by decide +kernel
theorem dX9_image_9 : decode cX9_image 9 = .ok (.bipush (-2), 2) := by decide +kernel
theorem dX9_image_11 : decode cX9_image 11 = .ok (.ireturn, 1) := by decide +kernel
theorem dX9_image_12 : decode cX9_image 12 = .ok (.aload_n 0, 1) := by decide +kernel
theorem dX9_image_13 : decode cX9_image 13 = .ok (.getfield 23, 3) := by decide +kernel
theorem dX9_image_16 : decode cX9_image 16 = .ok (.iload_n 1, 1) := by decide +kernel
theorem dX9_image_17 : decode cX9_image 17 = .ok (.aaload, 1) := by decide +kernel
theorem dX9_image_18 : decode cX9_image 18 = .ok (.aload_n 0, 1) := by decide +kernel
theorem dX9_image_19 : decode cX9_image 19 = .ok (.getfield 19, 3) := by decide +kernel
theorem dX9_image_22 : decode cX9_image 22 = .ok (.invokevirtual 242, 3) := by decide +kernel
theorem dX9_image_25 : decode cX9_image 25 = .ok (.aload_n 0, 1) := by decide +kernel
theorem dX9_image_26 : decode cX9_image 26 = .ok (.dup, 1) := by decide +kernel
theorem dX9_image_27 : decode cX9_image 27 = .ok (.getfield 27, 3) := by decide +kernel
theorem dX9_image_30 : decode cX9_image 30 = .ok (.iconst 1, 1) := by decide +kernel
theorem dX9_image_31 : decode cX9_image 31 = .ok (.iload_n 1, 1) := by decide +kernel
theorem dX9_image_32 : decode cX9_image 32 = .ok (.ishl, 1) := by decide +kernel
theorem dX9_image_33 : decode cX9_image 33 = .ok (.ior, 1) := by decide +kernel
theorem dX9_image_34 : decode cX9_image 34 = .ok (.putfield 27, 3) := by decide +kernel
theorem dX9_image_37 : decode cX9_image 37 = .ok (.iconst 1, 1) := by decide +kernel
theorem dX9_image_38 : decode cX9_image 38 = .ok (.ireturn, 1) := by decide +kernel
theorem dX9_restore_0 : decode cX9_restore 0 = .ok (.iload_n 1, 1) := by decide +kernel
theorem dX9_restore_1 : decode cX9_restore 1 = .ok (.iconst 0, 1) := by decide +kernel
theorem dX9_restore_2 : decode cX9_restore 2 = .ok (.iconst 1, 1) := by decide +kernel
theorem dX9_restore_3 : decode cX9_restore 3 = .ok (.invokestatic 95, 3) := by decide +kernel
theorem dX9_restore_6 : decode cX9_restore 6 = .ok (.ifCond .ne 6, 3) := by decide +kernel
theorem dX9_restore_9 : decode cX9_restore 9 = .ok (.bipush (-2), 2) := by decide +kernel
theorem dX9_restore_11 : decode cX9_restore 11 = .ok (.ireturn, 1) := by decide +kernel
theorem dX9_restore_12 : decode cX9_restore 12 = .ok (.aload_n 0, 1) := by decide +kernel
theorem dX9_restore_13 : decode cX9_restore 13 = .ok (.getfield 27, 3) := by decide +kernel
theorem dX9_restore_16 : decode cX9_restore 16 = .ok (.iload_n 1, 1) := by decide +kernel
theorem dX9_restore_17 : decode cX9_restore 17 = .ok (.ishr, 1) := by decide +kernel
theorem dX9_restore_18 : decode cX9_restore 18 = .ok (.iconst 1, 1) := by decide +kernel
theorem dX9_restore_19 : decode cX9_restore 19 = .ok (.iand, 1) := by decide +kernel
theorem dX9_restore_20 : decode cX9_restore 20 = .ok (.ifCond .ne 6, 3) := by decide +kernel
theorem dX9_restore_23 : decode cX9_restore 23 = .ok (.bipush (-3), 2) := by decide +kernel
theorem dX9_restore_25 : decode cX9_restore 25 = .ok (.ireturn, 1) := by decide +kernel
theorem dX9_restore_26 : decode cX9_restore 26 = .ok (.aload_n 0, 1) := by decide +kernel
theorem dX9_restore_27 : decode cX9_restore 27 = .ok (.getfield 19, 3) := by decide +kernel
theorem dX9_restore_30 : decode cX9_restore 30 = .ok (.aload_n 0, 1) := by decide +kernel
theorem dX9_restore_31 : decode cX9_restore 31 = .ok (.getfield 23, 3) := by decide +kernel
theorem dX9_restore_34 : decode cX9_restore 34 = .ok (.iload_n 1, 1) := by decide +kernel
theorem dX9_restore_35 : decode cX9_restore 35 = .ok (.aaload, 1) := by decide +kernel
theorem dX9_restore_36 : decode cX9_restore 36 = .ok (.invokevirtual 242, 3) := by decide +kernel
theorem dX9_restore_39 : decode cX9_restore 39 = .ok (.aload_n 0, 1) := by decide +kernel
theorem dX9_restore_40 : decode cX9_restore 40 = .ok (.getfield 45, 3) := by decide +kernel
theorem dX9_restore_43 : decode cX9_restore 43 = .ok (.invokevirtual 110, 3) := by decide +kernel
theorem dX9_restore_46 : decode cX9_restore 46 = .ok (.iconst 1, 1) := by decide +kernel
theorem dX9_restore_47 : decode cX9_restore 47 = .ok (.ireturn, 1) := by decide +kernel
theorem dX9_told_0 : decode cX9_told 0 = .ok (.iload_n 1, 1) := by decide +kernel
theorem dX9_told_1 : decode cX9_told 1 = .ok (.bipush 10, 2) := by decide +kernel
theorem dX9_told_3 : decode cX9_told 3 = .ok (.bipush 13, 2) := by decide +kernel
theorem dX9_told_5 : decode cX9_told 5 = .ok (.invokestatic 95, 3) := by decide +kernel
theorem dX9_told_8 : decode cX9_told 8 = .ok (.ifCond .eq 16, 3) := by decide +kernel
theorem dX9_told_11 : decode cX9_told 11 = .ok (.aload_n 0, 1) := by decide +kernel
theorem dX9_told_12 : decode cX9_told 12 = .ok (.getfield 19, 3) := by decide +kernel
theorem dX9_told_15 : decode cX9_told 15 = .ok (.getfield 130, 3) := by decide +kernel
theorem dX9_told_18 : decode cX9_told 18 = .ok (.iload_n 1, 1) := by decide +kernel
theorem dX9_told_19 : decode cX9_told 19 = .ok (.bipush 10, 2) := by decide +kernel
theorem dX9_told_21 : decode cX9_told 21 = .ok (.isub, 1) := by decide +kernel
theorem dX9_told_22 : decode cX9_told 22 = .ok (.iaload, 1) := by decide +kernel
theorem dX9_told_23 : decode cX9_told 23 = .ok (.ireturn, 1) := by decide +kernel
theorem dX9_told_24 : decode cX9_told 24 = .ok (.iload_n 1, 1) := by decide +kernel
theorem dX9_told_25 : decode cX9_told 25 = .ok (.bipush 20, 2) := by decide +kernel
theorem dX9_told_27 : decode cX9_told 27 = .ok (.bipush 23, 2) := by decide +kernel
theorem dX9_told_29 : decode cX9_told 29 = .ok (.invokestatic 95, 3) := by decide +kernel
theorem dX9_told_32 : decode cX9_told 32 = .ok (.ifCond .eq 16, 3) := by decide +kernel
theorem dX9_told_35 : decode cX9_told 35 = .ok (.aload_n 0, 1) := by decide +kernel
theorem dX9_told_36 : decode cX9_told 36 = .ok (.getfield 19, 3) := by decide +kernel
theorem dX9_told_39 : decode cX9_told 39 = .ok (.getfield 133, 3) := by decide +kernel
theorem dX9_told_42 : decode cX9_told 42 = .ok (.iload_n 1, 1) := by decide +kernel
theorem dX9_told_43 : decode cX9_told 43 = .ok (.bipush 20, 2) := by decide +kernel
theorem dX9_told_45 : decode cX9_told 45 = .ok (.isub, 1) := by decide +kernel
theorem dX9_told_46 : decode cX9_told 46 = .ok (.iaload, 1) := by decide +kernel
theorem dX9_told_47 : decode cX9_told 47 = .ok (.ireturn, 1) := by decide +kernel
theorem dX9_told_48 : decode cX9_told 48 = .ok (.iload_n 1, 1) := by decide +kernel
theorem dX9_told_49 : decode cX9_told 49 = .ok (.bipush 30, 2) := by decide +kernel
theorem dX9_told_51 : decode cX9_told 51 = .ok (.bipush 35, 2) := by decide +kernel
theorem dX9_told_53 : decode cX9_told 53 = .ok (.invokestatic 95, 3) := by decide +kernel
theorem dX9_told_56 : decode cX9_told 56 = .ok (.ifCond .eq 34, 3) := by decide +kernel
theorem dX9_told_59 : decode cX9_told 59 = .ok (.iload_n 1, 1) := by decide +kernel
theorem dX9_told_60 : decode cX9_told 60 = .ok (.bipush 30, 2) := by decide +kernel
theorem dX9_told_62 : decode cX9_told 62 = .ok (.isub, 1) := by decide +kernel
theorem dX9_told_63 : decode cX9_told 63 = .ok (.istore_n 2, 1) := by decide +kernel
theorem dX9_told_64 : decode cX9_told 64 = .ok (.iload_n 2, 1) := by decide +kernel
theorem dX9_told_65 : decode cX9_told 65 = .ok (.aload_n 0, 1) := by decide +kernel
theorem dX9_told_66 : decode cX9_told 66 = .ok (.getfield 19, 3) := by decide +kernel
theorem dX9_told_69 : decode cX9_told 69 = .ok (.getfield 139, 3) := by decide +kernel
theorem dX9_told_72 : decode cX9_told 72 = .ok (.if_icmp .ge 15, 3) := by decide +kernel
theorem dX9_told_75 : decode cX9_told 75 = .ok (.aload_n 0, 1) := by decide +kernel
theorem dX9_told_76 : decode cX9_told 76 = .ok (.getfield 19, 3) := by decide +kernel
theorem dX9_told_79 : decode cX9_told 79 = .ok (.getfield 245, 3) := by decide +kernel
theorem dX9_told_82 : decode cX9_told 82 = .ok (.iload_n 2, 1) := by decide +kernel
theorem dX9_told_83 : decode cX9_told 83 = .ok (.iaload, 1) := by decide +kernel
theorem dX9_told_84 : decode cX9_told 84 = .ok (.goto 5, 3) := by decide +kernel
theorem dX9_told_87 : decode cX9_told 87 = .ok (.bipush (-6), 2) := by decide +kernel
theorem dX9_told_89 : decode cX9_told 89 = .ok (.ireturn, 1) := by decide +kernel
theorem dX9_told_90 : decode cX9_told 90 = .ok (.iload_n 1, 1) := by decide +kernel
theorem dX9_told_91 : decode cX9_told 91 = .ok (.tableswitch 61 0 3 #[29, 37, 45, 53], 29) := by decide +kernel
theorem dX9_told_120 : decode cX9_told 120 = .ok (.aload_n 0, 1) := by decide +kernel
theorem dX9_told_121 : decode cX9_told 121 = .ok (.getfield 10, 3) := by decide +kernel
theorem dX9_told_124 : decode cX9_told 124 = .ok (.getfield 230, 3) := by decide +kernel
theorem dX9_told_127 : decode cX9_told 127 = .ok (.ireturn, 1) := by decide +kernel
theorem dX9_told_128 : decode cX9_told 128 = .ok (.aload_n 0, 1) := by decide +kernel
theorem dX9_told_129 : decode cX9_told 129 = .ok (.getfield 19, 3) := by decide +kernel
theorem dX9_told_132 : decode cX9_told 132 = .ok (.getfield 139, 3) := by decide +kernel
theorem dX9_told_135 : decode cX9_told 135 = .ok (.ireturn, 1) := by decide +kernel
theorem dX9_told_136 : decode cX9_told 136 = .ok (.aload_n 0, 1) := by decide +kernel
theorem dX9_told_137 : decode cX9_told 137 = .ok (.getfield 19, 3) := by decide +kernel
theorem dX9_told_140 : decode cX9_told 140 = .ok (.getfield 149, 3) := by decide +kernel
theorem dX9_told_143 : decode cX9_told 143 = .ok (.ireturn, 1) := by decide +kernel
theorem dX9_told_144 : decode cX9_told 144 = .ok (.aload_n 0, 1) := by decide +kernel
theorem dX9_told_145 : decode cX9_told 145 = .ok (.getfield 19, 3) := by decide +kernel
theorem dX9_told_148 : decode cX9_told 148 = .ok (.getfield 152, 3) := by decide +kernel
theorem dX9_told_151 : decode cX9_told 151 = .ok (.ireturn, 1) := by decide +kernel
theorem dX9_told_152 : decode cX9_told 152 = .ok (.bipush (-2), 2) := by decide +kernel
theorem dX9_told_154 : decode cX9_told 154 = .ok (.ireturn, 1) := by decide +kernel
theorem dX9_refusedEvening_0 : decode cX9_refusedEvening 0 = .ok (.aload_n 0, 1) := by decide +kernel
theorem dX9_refusedEvening_1 : decode cX9_refusedEvening 1 = .ok (.getfield 10, 3) := by decide +kernel
theorem dX9_refusedEvening_4 : decode cX9_refusedEvening 4 = .ok (.iconst 1, 1) := by decide +kernel
theorem dX9_refusedEvening_5 : decode cX9_refusedEvening 5 = .ok (.invokevirtual 99, 3) := by decide +kernel
theorem dX9_refusedEvening_8 : decode cX9_refusedEvening 8 = .ok (.bipush (-6), 2) := by decide +kernel
theorem dX9_refusedEvening_10 : decode cX9_refusedEvening 10 = .ok (.if_icmp .eq 6, 3) := by decide +kernel
theorem dX9_refusedEvening_13 : decode cX9_refusedEvening 13 = .ok (.bipush (-5), 2) := by decide +kernel
theorem dX9_refusedEvening_15 : decode cX9_refusedEvening 15 = .ok (.ireturn, 1) := by decide +kernel
theorem dX9_refusedEvening_16 : decode cX9_refusedEvening 16 = .ok (.aload_n 0, 1) := by decide +kernel
theorem dX9_refusedEvening_17 : decode cX9_refusedEvening 17 = .ok (.getfield 36, 3) := by decide +kernel
theorem dX9_refusedEvening_20 : decode cX9_refusedEvening 20 = .ok (.invokevirtual 155, 3) := by decide +kernel
theorem dX9_refusedEvening_23 : decode cX9_refusedEvening 23 = .ok (.ifCond .eq 7, 3) := by decide +kernel
theorem dX9_refusedEvening_26 : decode cX9_refusedEvening 26 = .ok (.iconst 0, 1) := by decide +kernel
theorem dX9_refusedEvening_27 : decode cX9_refusedEvening 27 = .ok (.goto 5, 3) := by decide +kernel
theorem dX9_refusedEvening_30 : decode cX9_refusedEvening 30 = .ok (.bipush (-3), 2) := by decide +kernel
theorem dX9_refusedEvening_32 : decode cX9_refusedEvening 32 = .ok (.ireturn, 1) := by decide +kernel
theorem dX9_closers_0 : decode cX9_closers 0 = .ok (.iconst 0, 1) := by decide +kernel
theorem dX9_closers_1 : decode cX9_closers 1 = .ok (.istore_n 3, 1) := by decide +kernel
theorem dX9_closers_2 : decode cX9_closers 2 = .ok (.iconst 0, 1) := by decide +kernel
theorem dX9_closers_3 : decode cX9_closers 3 = .ok (.istore 4, 2) := by decide +kernel
theorem dX9_closers_5 : decode cX9_closers 5 = .ok (.iload 4, 2) := by decide +kernel
theorem dX9_closers_7 : decode cX9_closers 7 = .ok (.iconst 4, 1) := by decide +kernel
theorem dX9_closers_8 : decode cX9_closers 8 = .ok (.if_icmp .ge 83, 3) := by decide +kernel
theorem dX9_closers_11 : decode cX9_closers 11 = .ok (.iload_n 2, 1) := by decide +kernel
theorem dX9_closers_12 : decode cX9_closers 12 = .ok (.aload_n 0, 1) := by decide +kernel
theorem dX9_closers_13 : decode cX9_closers 13 = .ok (.getfield 19, 3) := by decide +kernel
theorem dX9_closers_16 : decode cX9_closers 16 = .ok (.getfield 133, 3) := by decide +kernel
theorem dX9_closers_19 : decode cX9_closers 19 = .ok (.iload 4, 2) := by decide +kernel
theorem dX9_closers_21 : decode cX9_closers 21 = .ok (.iaload, 1) := by decide +kernel
theorem dX9_closers_22 : decode cX9_closers 22 = .ok (.iconst (-1), 1) := by decide +kernel
theorem dX9_closers_23 : decode cX9_closers 23 = .ok (.ixor, 1) := by decide +kernel
theorem dX9_closers_24 : decode cX9_closers 24 = .ok (.iand, 1) := by decide +kernel
theorem dX9_closers_25 : decode cX9_closers 25 = .ok (.ifCond .ne 7, 3) := by decide +kernel
theorem dX9_closers_28 : decode cX9_closers 28 = .ok (.iconst 1, 1) := by decide +kernel
theorem dX9_closers_29 : decode cX9_closers 29 = .ok (.goto 4, 3) := by decide +kernel
theorem dX9_closers_32 : decode cX9_closers 32 = .ok (.iconst 0, 1) := by decide +kernel
theorem dX9_closers_33 : decode cX9_closers 33 = .ok (.istore 5, 2) := by decide +kernel
theorem dX9_closers_35 : decode cX9_closers 35 = .ok (.aload_n 0, 1) := by decide +kernel
theorem dX9_closers_36 : decode cX9_closers 36 = .ok (.getfield 19, 3) := by decide +kernel
theorem dX9_closers_39 : decode cX9_closers 39 = .ok (.iload 4, 2) := by decide +kernel
theorem dX9_closers_41 : decode cX9_closers 41 = .ok (.invokevirtual 236, 3) := by decide +kernel
theorem dX9_closers_44 : decode cX9_closers 44 = .ok (.aload_n 0, 1) := by decide +kernel
theorem dX9_closers_45 : decode cX9_closers 45 = .ok (.getfield 36, 3) := by decide +kernel
theorem dX9_closers_48 : decode cX9_closers 48 = .ok (.getfield 167, 3) := by decide +kernel
theorem dX9_closers_51 : decode cX9_closers 51 = .ok (.iand, 1) := by decide +kernel
theorem dX9_closers_52 : decode cX9_closers 52 = .ok (.ifCond .ne 7, 3) := by decide +kernel
theorem dX9_closers_55 : decode cX9_closers 55 = .ok (.iconst 1, 1) := by decide +kernel
theorem dX9_closers_56 : decode cX9_closers 56 = .ok (.goto 4, 3) := by decide +kernel
theorem dX9_closers_59 : decode cX9_closers 59 = .ok (.iconst 0, 1) := by decide +kernel
theorem dX9_closers_60 : decode cX9_closers 60 = .ok (.istore 6, 2) := by decide +kernel
theorem dX9_closers_62 : decode cX9_closers 62 = .ok (.iload 4, 2) := by decide +kernel
theorem dX9_closers_64 : decode cX9_closers 64 = .ok (.iload_n 1, 1) := by decide +kernel
theorem dX9_closers_65 : decode cX9_closers 65 = .ok (.if_icmp .eq 20, 3) := by decide +kernel
theorem dX9_closers_68 : decode cX9_closers 68 = .ok (.iload 5, 2) := by decide +kernel
theorem dX9_closers_70 : decode cX9_closers 70 = .ok (.ifCond .eq 15, 3) := by decide +kernel
theorem dX9_closers_73 : decode cX9_closers 73 = .ok (.iload 6, 2) := by decide +kernel
theorem dX9_closers_75 : decode cX9_closers 75 = .ok (.ifCond .eq 10, 3) := by decide +kernel
theorem dX9_closers_78 : decode cX9_closers 78 = .ok (.iload_n 3, 1) := by decide +kernel
theorem dX9_closers_79 : decode cX9_closers 79 = .ok (.iconst 1, 1) := by decide +kernel
theorem dX9_closers_80 : decode cX9_closers 80 = .ok (.iload 4, 2) := by decide +kernel
theorem dX9_closers_82 : decode cX9_closers 82 = .ok (.ishl, 1) := by decide +kernel
theorem dX9_closers_83 : decode cX9_closers 83 = .ok (.ior, 1) := by decide +kernel
theorem dX9_closers_84 : decode cX9_closers 84 = .ok (.istore_n 3, 1) := by decide +kernel
theorem dX9_closers_85 : decode cX9_closers 85 = .ok (.iinc 4 1, 3) := by decide +kernel
theorem dX9_closers_88 : decode cX9_closers 88 = .ok (.goto (-83), 3) := by decide +kernel
theorem dX9_closers_91 : decode cX9_closers 91 = .ok (.iload_n 3, 1) := by decide +kernel
theorem dX9_closers_92 : decode cX9_closers 92 = .ok (.ireturn, 1) := by decide +kernel
theorem dX9_isIn_0 : decode cX9_isIn 0 = .ok (.iload_n 0, 1) := by decide +kernel
theorem dX9_isIn_1 : decode cX9_isIn 1 = .ok (.iload_n 1, 1) := by decide +kernel
theorem dX9_isIn_2 : decode cX9_isIn 2 = .ok (.if_icmp .lt 12, 3) := by decide +kernel
theorem dX9_isIn_5 : decode cX9_isIn 5 = .ok (.iload_n 0, 1) := by decide +kernel
theorem dX9_isIn_6 : decode cX9_isIn 6 = .ok (.iload_n 2, 1) := by decide +kernel
theorem dX9_isIn_7 : decode cX9_isIn 7 = .ok (.if_icmp .gt 7, 3) := by decide +kernel
theorem dX9_isIn_10 : decode cX9_isIn 10 = .ok (.iconst 1, 1) := by decide +kernel
theorem dX9_isIn_11 : decode cX9_isIn 11 = .ok (.goto 4, 3) := by decide +kernel
theorem dX9_isIn_14 : decode cX9_isIn 14 = .ok (.iconst 0, 1) := by decide +kernel
theorem dX9_isIn_15 : decode cX9_isIn 15 = .ok (.ireturn, 1) := by decide +kernel
theorem dX9_isStory_0 : decode cX9_isStory 0 = .ok (.iload_n 0, 1) := by decide +kernel
theorem dX9_isStory_1 : decode cX9_isStory 1 = .ok (.iconst 0, 1) := by decide +kernel
theorem dX9_isStory_2 : decode cX9_isStory 2 = .ok (.iconst 3, 1) := by decide +kernel
theorem dX9_isStory_3 : decode cX9_isStory 3 = .ok (.invokestatic 95, 3) := by decide +kernel
theorem dX9_isStory_6 : decode cX9_isStory 6 = .ok (.ireturn, 1) := by decide +kernel
theorem dX9_isTeller_0 : decode cX9_isTeller 0 = .ok (.iload_n 0, 1) := by decide +kernel
theorem dX9_isTeller_1 : decode cX9_isTeller 1 = .ok (.iconst 0, 1) := by decide +kernel
theorem dX9_isTeller_2 : decode cX9_isTeller 2 = .ok (.iconst 3, 1) := by decide +kernel
theorem dX9_isTeller_3 : decode cX9_isTeller 3 = .ok (.invokestatic 95, 3) := by decide +kernel
theorem dX9_isTeller_6 : decode cX9_isTeller 6 = .ok (.ireturn, 1) := by decide +kernel
theorem dX9_isSet_0 : decode cX9_isSet 0 = .ok (.iload_n 0, 1) := by decide +kernel
theorem dX9_isSet_1 : decode cX9_isSet 1 = .ok (.iconst 1, 1) := by decide +kernel
theorem dX9_isSet_2 : decode cX9_isSet 2 = .ok (.bipush 15, 2) := by decide +kernel
theorem dX9_isSet_4 : decode cX9_isSet 4 = .ok (.invokestatic 95, 3) := by decide +kernel
theorem dX9_isSet_7 : decode cX9_isSet 7 = .ok (.ireturn, 1) := by decide +kernel
theorem dX9_isDeep_0 : decode cX9_isDeep 0 = .ok (.iload_n 0, 1) := by decide +kernel
theorem dX9_isDeep_1 : decode cX9_isDeep 1 = .ok (.iconst 1, 1) := by decide +kernel
theorem dX9_isDeep_2 : decode cX9_isDeep 2 = .ok (.iconst 4, 1) := by decide +kernel
theorem dX9_isDeep_3 : decode cX9_isDeep 3 = .ok (.invokestatic 95, 3) := by decide +kernel
theorem dX9_isDeep_6 : decode cX9_isDeep 6 = .ok (.ireturn, 1) := by decide +kernel
theorem dX9_isStoryOf_0 : decode cX9_isStoryOf 0 = .ok (.iload_n 0, 1) := by decide +kernel
theorem dX9_isStoryOf_1 : decode cX9_isStoryOf 1 = .ok (.invokestatic 102, 3) := by decide +kernel
theorem dX9_isStoryOf_4 : decode cX9_isStoryOf 4 = .ok (.ifCond .eq 15, 3) := by decide +kernel
theorem dX9_isStoryOf_7 : decode cX9_isStoryOf 7 = .ok (.iload_n 1, 1) := by decide +kernel
theorem dX9_isStoryOf_8 : decode cX9_isStoryOf 8 = .ok (.iload_n 0, 1) := by decide +kernel
theorem dX9_isStoryOf_9 : decode cX9_isStoryOf 9 = .ok (.ishr, 1) := by decide +kernel
theorem dX9_isStoryOf_10 : decode cX9_isStoryOf 10 = .ok (.iconst 1, 1) := by decide +kernel
theorem dX9_isStoryOf_11 : decode cX9_isStoryOf 11 = .ok (.iand, 1) := by decide +kernel
theorem dX9_isStoryOf_12 : decode cX9_isStoryOf 12 = .ok (.ifCond .eq 7, 3) := by decide +kernel
theorem dX9_isStoryOf_15 : decode cX9_isStoryOf 15 = .ok (.iconst 1, 1) := by decide +kernel
theorem dX9_isStoryOf_16 : decode cX9_isStoryOf 16 = .ok (.goto 4, 3) := by decide +kernel
theorem dX9_isStoryOf_19 : decode cX9_isStoryOf 19 = .ok (.iconst 0, 1) := by decide +kernel
theorem dX9_isStoryOf_20 : decode cX9_isStoryOf 20 = .ok (.ireturn, 1) := by decide +kernel
theorem dX10_init_0 : decode cX10_init 0 = .ok (.aload_n 0, 1) := by decide +kernel
theorem dX10_init_1 : decode cX10_init 1 = .ok (.invokespecial 1, 3) := by decide +kernel
theorem dX10_init_4 : decode cX10_init 4 = .ok (.aload_n 0, 1) := by decide +kernel
theorem dX10_init_5 : decode cX10_init 5 = .ok (.sipush 625, 3) := by decide +kernel
theorem dX10_init_8 : decode cX10_init 8 = .ok (.newarray .int, 2) := by decide +kernel
theorem dX10_init_10 : decode cX10_init 10 = .ok (.putfield 7, 3) := by decide +kernel
theorem dX10_init_13 : decode cX10_init 13 = .ok (.aload_n 0, 1) := by decide +kernel
theorem dX10_init_14 : decode cX10_init 14 = .ok (.bipush 65, 2) := by decide +kernel
theorem dX10_init_16 : decode cX10_init 16 = .ok (.newarray .int, 2) := by decide +kernel
theorem dX10_init_18 : decode cX10_init 18 = .ok (.putfield 13, 3) := by decide +kernel
theorem dX10_init_21 : decode cX10_init 21 = .ok (.aload_n 0, 1) := by decide +kernel
theorem dX10_init_22 : decode cX10_init 22 = .ok (.iconst 4, 1) := by decide +kernel
theorem dX10_init_23 : decode cX10_init 23 = .ok (.newarray .int, 2) := by decide +kernel
theorem dX10_init_25 : decode cX10_init 25 = .ok (.putfield 16, 3) := by decide +kernel
theorem dX10_init_28 : decode cX10_init 28 = .ok (.aload_n 0, 1) := by decide +kernel
theorem dX10_init_29 : decode cX10_init 29 = .ok (.bipush 16, 2) := by decide +kernel
theorem dX10_init_31 : decode cX10_init 31 = .ok (.newarray .int, 2) := by decide +kernel
theorem dX10_init_33 : decode cX10_init 33 = .ok (.putfield 19, 3) := by decide +kernel
theorem dX10_init_36 : decode cX10_init 36 = .ok (.aload_n 0, 1) := by decide +kernel
theorem dX10_init_37 : decode cX10_init 37 = .ok (.iconst 4, 1) := by decide +kernel
theorem dX10_init_38 : decode cX10_init 38 = .ok (.newarray .int, 2) := by decide +kernel
theorem dX10_init_40 : decode cX10_init 40 = .ok (.putfield 22, 3) := by decide +kernel
theorem dX10_init_43 : decode cX10_init 43 = .ok (.aload_n 0, 1) := by decide +kernel
theorem dX10_init_44 : decode cX10_init 44 = .ok (.iconst 4, 1) := by decide +kernel
theorem dX10_init_45 : decode cX10_init 45 = .ok (.newarray .int, 2) := by decide +kernel
theorem dX10_init_47 : decode cX10_init 47 = .ok (.putfield 25, 3) := by decide +kernel
theorem dX10_init_50 : decode cX10_init 50 = .ok (.aload_n 0, 1) := by decide +kernel
theorem dX10_init_51 : decode cX10_init 51 = .ok (.iconst 4, 1) := by decide +kernel
theorem dX10_init_52 : decode cX10_init 52 = .ok (.newarray .int, 2) := by decide +kernel
theorem dX10_init_54 : decode cX10_init 54 = .ok (.putfield 28, 3) := by decide +kernel
theorem dX10_init_57 : decode cX10_init 57 = .ok (.aload_n 0, 1) := by decide +kernel
theorem dX10_init_58 : decode cX10_init 58 = .ok (.bipush 6, 2) := by decide +kernel
theorem dX10_init_60 : decode cX10_init 60 = .ok (.newarray .int, 2) := by decide +kernel
theorem dX10_init_62 : decode cX10_init 62 = .ok (.putfield 31, 3) := by decide +kernel
theorem dX10_init_65 : decode cX10_init 65 = .ok (.aload_n 0, 1) := by decide +kernel
theorem dX10_init_66 : decode cX10_init 66 = .ok (.bipush 6, 2) := by decide +kernel
theorem dX10_init_68 : decode cX10_init 68 = .ok (.newarray .int, 2) := by decide +kernel
theorem dX10_init_70 : decode cX10_init 70 = .ok (.putfield 34, 3) := by decide +kernel
theorem dX10_init_73 : decode cX10_init 73 = .ok (.aload_n 0, 1) := by decide +kernel
theorem dX10_init_74 : decode cX10_init 74 = .ok (.bipush 6, 2) := by decide +kernel
theorem dX10_init_76 : decode cX10_init 76 = .ok (.newarray .int, 2) := by decide +kernel
theorem dX10_init_78 : decode cX10_init 78 = .ok (.putfield 37, 3) := by decide +kernel
theorem dX10_init_81 : decode cX10_init 81 = .ok (.aload_n 0, 1) := by decide +kernel
theorem dX10_init_82 : decode cX10_init 82 = .ok (.bipush 30, 2) := by decide +kernel
theorem dX10_init_84 : decode cX10_init 84 = .ok (.newarray .int, 2) := by decide +kernel
theorem dX10_init_86 : decode cX10_init 86 = .ok (.putfield 40, 3) := by decide +kernel
theorem dX10_init_89 : decode cX10_init 89 = .ok (.aload_n 0, 1) := by decide +kernel
theorem dX10_init_90 : decode cX10_init 90 = .ok (.iconst 4, 1) := by decide +kernel
theorem dX10_init_91 : decode cX10_init 91 = .ok (.newarray .int, 2) := by decide +kernel
theorem dX10_init_93 : decode cX10_init 93 = .ok (.putfield 43, 3) := by decide +kernel
theorem dX10_init_96 : decode cX10_init 96 = .ok (.aload_n 0, 1) := by decide +kernel
theorem dX10_init_97 : decode cX10_init 97 = .ok (.ldc 46, 2) := by decide +kernel
theorem dX10_init_99 : decode cX10_init 99 = .ok (.newarray .long, 2) := by decide +kernel
theorem dX10_init_101 : decode cX10_init 101 = .ok (.putfield 47, 3) := by decide +kernel
theorem dX10_init_104 : decode cX10_init 104 = .ok (.aload_n 0, 1) := by decide +kernel
theorem dX10_init_105 : decode cX10_init 105 = .ok (.ldc 46, 2) := by decide +kernel
theorem dX10_init_107 : decode cX10_init 107 = .ok (.newarray .boolean, 2) := by decide +kernel
theorem dX10_init_109 : decode cX10_init 109 = .ok (.putfield 51, 3) := by decide +kernel
theorem dX10_init_112 : decode cX10_init 112 = .ok (.aload_n 0, 1) := by decide +kernel
theorem dX10_init_113 : decode cX10_init 113 = .ok (.ldc 55, 2) := by decide +kernel
theorem dX10_init_115 : decode cX10_init 115 = .ok (.newarray .int, 2) := by decide +kernel
theorem dX10_init_117 : decode cX10_init 117 = .ok (.putfield 56, 3) := by decide +kernel
theorem dX10_init_120 : decode cX10_init 120 = .ok (.aload_n 0, 1) := by decide +kernel
theorem dX10_init_121 : decode cX10_init 121 = .ok (.sipush 145, 3) := by decide +kernel
theorem dX10_init_124 : decode cX10_init 124 = .ok (.newarray .boolean, 2) := by decide +kernel
theorem dX10_init_126 : decode cX10_init 126 = .ok (.putfield 59, 3) := by decide +kernel
theorem dX10_init_129 : decode cX10_init 129 = .ok (.aload_n 0, 1) := by decide +kernel
theorem dX10_init_130 : decode cX10_init 130 = .ok (.ldc 46, 2) := by decide +kernel
theorem dX10_init_132 : decode cX10_init 132 = .ok (.newarray .boolean, 2) := by decide +kernel
theorem dX10_init_134 : decode cX10_init 134 = .ok (.putfield 62, 3) := by decide +kernel
theorem dX10_init_137 : decode cX10_init 137 = .ok (.aload_n 0, 1) := by decide +kernel
theorem dX10_init_138 : decode cX10_init 138 = .ok (.bipush 120, 2) := by decide +kernel
theorem dX10_init_140 : decode cX10_init 140 = .ok (.newarray .int, 2) := by decide +kernel
theorem dX10_init_142 : decode cX10_init 142 = .ok (.putfield 65, 3) := by decide +kernel
theorem dX10_init_145 : decode cX10_init 145 = .ok (.aload_n 0, 1) := by decide +kernel
theorem dX10_init_146 : decode cX10_init 146 = .ok (.iconst 2, 1) := by decide +kernel
theorem dX10_init_147 : decode cX10_init 147 = .ok (.newarray .boolean, 2) := by decide +kernel
theorem dX10_init_149 : decode cX10_init 149 = .ok (.putfield 68, 3) := by decide +kernel
theorem dX10_init_152 : decode cX10_init 152 = .ok (.iconst 0, 1) := by decide +kernel
theorem dX10_init_153 : decode cX10_init 153 = .ok (.istore_n 1, 1) := by decide +kernel
theorem dX10_init_154 : decode cX10_init 154 = .ok (.iload_n 1, 1) := by decide +kernel
theorem dX10_init_155 : decode cX10_init 155 = .ok (.iconst 4, 1) := by decide +kernel
theorem dX10_init_156 : decode cX10_init 156 = .ok (.if_icmp .ge 41, 3) := by decide +kernel
theorem dX10_init_159 : decode cX10_init 159 = .ok (.aload_n 0, 1) := by decide +kernel
theorem dX10_init_160 : decode cX10_init 160 = .ok (.getfield 16, 3) := by decide +kernel
theorem dX10_init_163 : decode cX10_init 163 = .ok (.iload_n 1, 1) := by decide +kernel
theorem dX10_init_164 : decode cX10_init 164 = .ok (.iconst 1, 1) := by decide +kernel
theorem dX10_init_165 : decode cX10_init 165 = .ok (.iastore, 1) := by decide +kernel
theorem dX10_init_166 : decode cX10_init 166 = .ok (.aload_n 0, 1) := by decide +kernel
theorem dX10_init_167 : decode cX10_init 167 = .ok (.getfield 19, 3) := by decide +kernel
theorem dX10_init_170 : decode cX10_init 170 = .ok (.iconst 4, 1) := by decide +kernel
theorem dX10_init_171 : decode cX10_init 171 = .ok (.iload_n 1, 1) := by decide +kernel
theorem dX10_init_172 : decode cX10_init 172 = .ok (.imul, 1) := by decide +kernel
theorem dX10_init_173 : decode cX10_init 173 = .ok (.iconst 1, 1) := by decide +kernel
theorem dX10_init_174 : decode cX10_init 174 = .ok (.iastore, 1) := by decide +kernel
theorem dX10_init_175 : decode cX10_init 175 = .ok (.aload_n 0, 1) := by decide +kernel
theorem dX10_init_176 : decode cX10_init 176 = .ok (.getfield 25, 3) := by decide +kernel
theorem dX10_init_179 : decode cX10_init 179 = .ok (.iload_n 1, 1) := by decide +kernel
theorem dX10_init_180 : decode cX10_init 180 = .ok (.iload_n 1, 1) := by decide +kernel
theorem dX10_init_181 : decode cX10_init 181 = .ok (.iastore, 1) := by decide +kernel
theorem dX10_init_182 : decode cX10_init 182 = .ok (.aload_n 0, 1) := by decide +kernel
theorem dX10_init_183 : decode cX10_init 183 = .ok (.getfield 28, 3) := by decide +kernel
theorem dX10_init_186 : decode cX10_init 186 = .ok (.iload_n 1, 1) := by decide +kernel
theorem dX10_init_187 : decode cX10_init 187 = .ok (.iconst 1, 1) := by decide +kernel
theorem dX10_init_188 : decode cX10_init 188 = .ok (.iload_n 1, 1) := by decide +kernel
theorem dX10_init_189 : decode cX10_init 189 = .ok (.ishl, 1) := by decide +kernel
theorem dX10_init_190 : decode cX10_init 190 = .ok (.iastore, 1) := by decide +kernel
theorem dX10_init_191 : decode cX10_init 191 = .ok (.iinc 1 1, 3) := by decide +kernel
theorem dX10_init_194 : decode cX10_init 194 = .ok (.goto (-40), 3) := by decide +kernel
theorem dX10_init_197 : decode cX10_init 197 = .ok (.iconst 0, 1) := by decide +kernel
theorem dX10_init_198 : decode cX10_init 198 = .ok (.istore_n 1, 1) := by decide +kernel
theorem dX10_init_199 : decode cX10_init 199 = .ok (.iconst 0, 1) := by decide +kernel
theorem dX10_init_200 : decode cX10_init 200 = .ok (.istore_n 2, 1) := by decide +kernel
theorem dX10_init_201 : decode cX10_init 201 = .ok (.iload_n 2, 1) := by decide +kernel
theorem dX10_init_202 : decode cX10_init 202 = .ok (.sipush 625, 3) := by decide +kernel
theorem dX10_init_205 : decode cX10_init 205 = .ok (.if_icmp .ge 33, 3) := by decide +kernel
theorem dX10_init_208 : decode cX10_init 208 = .ok (.iload_n 2, 1) := by decide +kernel
theorem dX10_init_209 : decode cX10_init 209 = .ok (.invokestatic 71, 3) := by decide +kernel
theorem dX10_init_212 : decode cX10_init 212 = .ok (.ifCond .eq 20, 3) := by decide +kernel
theorem dX10_init_215 : decode cX10_init 215 = .ok (.aload_n 0, 1) := by decide +kernel
theorem dX10_init_216 : decode cX10_init 216 = .ok (.getfield 7, 3) := by decide +kernel
theorem dX10_init_219 : decode cX10_init 219 = .ok (.iload_n 2, 1) := by decide +kernel
theorem dX10_init_220 : decode cX10_init 220 = .ok (.iload_n 1, 1) := by decide +kernel
theorem dX10_init_221 : decode cX10_init 221 = .ok (.iastore, 1) := by decide +kernel
theorem dX10_init_222 : decode cX10_init 222 = .ok (.aload_n 0, 1) := by decide +kernel
theorem dX10_init_223 : decode cX10_init 223 = .ok (.getfield 13, 3) := by decide +kernel
theorem dX10_init_226 : decode cX10_init 226 = .ok (.iload_n 1, 1) := by decide +kernel
theorem dX10_init_227 : decode cX10_init 227 = .ok (.iload_n 2, 1) := by decide +kernel
theorem dX10_init_228 : decode cX10_init 228 = .ok (.iastore, 1) := by decide +kernel
theorem dX10_init_229 : decode cX10_init 229 = .ok (.iinc 1 1, 3) := by decide +kernel
theorem dX10_init_232 : decode cX10_init 232 = .ok (.iinc 2 1, 3) := by decide +kernel
theorem dX10_init_235 : decode cX10_init 235 = .ok (.goto (-34), 3) := by decide +kernel
theorem dX10_init_238 : decode cX10_init 238 = .ok (.return_, 1) := by decide +kernel
theorem dX10_in_0 : decode cX10_in 0 = .ok (.lload_n 0, 1) := by decide +kernel
theorem dX10_in_1 : decode cX10_in 1 = .ok (.lload_n 2, 1) := by decide +kernel
theorem dX10_in_2 : decode cX10_in 2 = .ok (.lcmp, 1) := by decide +kernel
theorem dX10_in_3 : decode cX10_in 3 = .ok (.ifCond .lt 14, 3) := by decide +kernel
theorem dX10_in_6 : decode cX10_in 6 = .ok (.lload_n 0, 1) := by decide +kernel
theorem dX10_in_7 : decode cX10_in 7 = .ok (.lload 4, 2) := by decide +kernel
theorem dX10_in_9 : decode cX10_in 9 = .ok (.lcmp, 1) := by decide +kernel
theorem dX10_in_10 : decode cX10_in 10 = .ok (.ifCond .gt 7, 3) := by decide +kernel
theorem dX10_in_13 : decode cX10_in 13 = .ok (.iconst 1, 1) := by decide +kernel
theorem dX10_in_14 : decode cX10_in 14 = .ok (.goto 4, 3) := by decide +kernel
theorem dX10_in_17 : decode cX10_in 17 = .ok (.iconst 0, 1) := by decide +kernel
theorem dX10_in_18 : decode cX10_in 18 = .ok (.ireturn, 1) := by decide +kernel
theorem dX10_isStory_0 : decode cX10_isStory 0 = .ok (.iload_n 0, 1) := by decide +kernel
theorem dX10_isStory_1 : decode cX10_isStory 1 = .ok (.i2l, 1) := by decide +kernel
theorem dX10_isStory_2 : decode cX10_isStory 2 = .ok (.lconst 0, 1) := by decide +kernel
theorem dX10_isStory_3 : decode cX10_isStory 3 = .ok (.ldc2_w 75, 3) := by decide +kernel
theorem dX10_isStory_6 : decode cX10_isStory 6 = .ok (.invokestatic 77, 3) := by decide +kernel
theorem dX10_isStory_9 : decode cX10_isStory 9 = .ok (.ireturn, 1) := by decide +kernel
theorem dX10_ones_0 : decode cX10_ones 0 = .ok (.iconst 0, 1) := by decide +kernel
theorem dX10_ones_1 : decode cX10_ones 1 = .ok (.istore_n 1, 1) := by decide +kernel
theorem dX10_ones_2 : decode cX10_ones 2 = .ok (.iload_n 0, 1) := by decide +kernel
theorem dX10_ones_3 : decode cX10_ones 3 = .ok (.istore_n 2, 1) := by decide +kernel
theorem dX10_ones_4 : decode cX10_ones 4 = .ok (.iload_n 2, 1) := by decide +kernel
theorem dX10_ones_5 : decode cX10_ones 5 = .ok (.ifCond .eq 15, 3) := by decide +kernel
theorem dX10_ones_8 : decode cX10_ones 8 = .ok (.iinc 1 1, 3) := by decide +kernel
theorem dX10_ones_11 : decode cX10_ones 11 = .ok (.iload_n 2, 1) := by decide +kernel
theorem dX10_ones_12 : decode cX10_ones 12 = .ok (.iload_n 2, 1) := by decide +kernel
theorem dX10_ones_13 : decode cX10_ones 13 = .ok (.iconst 1, 1) := by decide +kernel
theorem dX10_ones_14 : decode cX10_ones 14 = .ok (.isub, 1) := by decide +kernel
theorem dX10_ones_15 : decode cX10_ones 15 = .ok (.iand, 1) := by decide +kernel
theorem dX10_ones_16 : decode cX10_ones 16 = .ok (.istore_n 2, 1) := by decide +kernel
theorem dX10_ones_17 : decode cX10_ones 17 = .ok (.goto (-13), 3) := by decide +kernel
theorem dX10_ones_20 : decode cX10_ones 20 = .ok (.iload_n 1, 1) := by decide +kernel
theorem dX10_ones_21 : decode cX10_ones 21 = .ok (.ireturn, 1) := by decide +kernel
theorem dX10_isRow_0 : decode cX10_isRow 0 = .ok (.iconst 0, 1) := by decide +kernel
theorem dX10_isRow_1 : decode cX10_isRow 1 = .ok (.istore_n 1, 1) := by decide +kernel
theorem dX10_isRow_2 : decode cX10_isRow 2 = .ok (.iconst 1, 1) := by decide +kernel
theorem dX10_isRow_3 : decode cX10_isRow 3 = .ok (.istore_n 2, 1) := by decide +kernel
theorem dX10_isRow_4 : decode cX10_isRow 4 = .ok (.iload_n 0, 1) := by decide +kernel
theorem dX10_isRow_5 : decode cX10_isRow 5 = .ok (.istore_n 3, 1) := by decide +kernel
theorem dX10_isRow_6 : decode cX10_isRow 6 = .ok (.iload_n 3, 1) := by decide +kernel
theorem dX10_isRow_7 : decode cX10_isRow 7 = .ok (.ifCond .le 46, 3) := by decide +kernel
theorem dX10_isRow_10 : decode cX10_isRow 10 = .ok (.iload_n 3, 1) := by decide +kernel
theorem dX10_isRow_11 : decode cX10_isRow 11 = .ok (.iconst 5, 1) := by decide +kernel
theorem dX10_isRow_12 : decode cX10_isRow 12 = .ok (.irem, 1) := by decide +kernel
theorem dX10_isRow_13 : decode cX10_isRow 13 = .ok (.istore 4, 2) := by decide +kernel
theorem dX10_isRow_15 : decode cX10_isRow 15 = .ok (.iload_n 2, 1) := by decide +kernel
theorem dX10_isRow_16 : decode cX10_isRow 16 = .ok (.ifCond .eq 21, 3) := by decide +kernel
theorem dX10_isRow_19 : decode cX10_isRow 19 = .ok (.iload 4, 2) := by decide +kernel
theorem dX10_isRow_21 : decode cX10_isRow 21 = .ok (.ifCond .le 16, 3) := by decide +kernel
theorem dX10_isRow_24 : decode cX10_isRow 24 = .ok (.iload_n 1, 1) := by decide +kernel
theorem dX10_isRow_25 : decode cX10_isRow 25 = .ok (.iload 4, 2) := by decide +kernel
theorem dX10_isRow_27 : decode cX10_isRow 27 = .ok (.ishr, 1) := by decide +kernel
theorem dX10_isRow_28 : decode cX10_isRow 28 = .ok (.iconst 1, 1) := by decide +kernel
theorem dX10_isRow_29 : decode cX10_isRow 29 = .ok (.iand, 1) := by decide +kernel
theorem dX10_isRow_30 : decode cX10_isRow 30 = .ok (.ifCond .ne 7, 3) := by decide +kernel
theorem dX10_isRow_33 : decode cX10_isRow 33 = .ok (.iconst 1, 1) := by decide +kernel
theorem dX10_isRow_34 : decode cX10_isRow 34 = .ok (.goto 4, 3) := by decide +kernel
theorem dX10_isRow_37 : decode cX10_isRow 37 = .ok (.iconst 0, 1) := by decide +kernel
theorem dX10_isRow_38 : decode cX10_isRow 38 = .ok (.istore_n 2, 1) := by decide +kernel
theorem dX10_isRow_39 : decode cX10_isRow 39 = .ok (.iload_n 1, 1) := by decide +kernel
theorem dX10_isRow_40 : decode cX10_isRow 40 = .ok (.iconst 1, 1) := by decide +kernel
theorem dX10_isRow_41 : decode cX10_isRow 41 = .ok (.iload 4, 2) := by decide +kernel
theorem dX10_isRow_43 : decode cX10_isRow 43 = .ok (.ishl, 1) := by decide +kernel
theorem dX10_isRow_44 : decode cX10_isRow 44 = .ok (.ior, 1) := by decide +kernel
theorem dX10_isRow_45 : decode cX10_isRow 45 = .ok (.istore_n 1, 1) := by decide +kernel
theorem dX10_isRow_46 : decode cX10_isRow 46 = .ok (.iload_n 3, 1) := by decide +kernel
theorem dX10_isRow_47 : decode cX10_isRow 47 = .ok (.iconst 5, 1) := by decide +kernel
theorem dX10_isRow_48 : decode cX10_isRow 48 = .ok (.idiv, 1) := by decide +kernel
theorem dX10_isRow_49 : decode cX10_isRow 49 = .ok (.istore_n 3, 1) := by decide +kernel
theorem dX10_isRow_50 : decode cX10_isRow 50 = .ok (.goto (-44), 3) := by decide +kernel
theorem dX10_isRow_53 : decode cX10_isRow 53 = .ok (.iload_n 2, 1) := by decide +kernel
theorem dX10_isRow_54 : decode cX10_isRow 54 = .ok (.ireturn, 1) := by decide +kernel
theorem dX10_setOf_0 : decode cX10_setOf 0 = .ok (.iconst 0, 1) := by decide +kernel
theorem dX10_setOf_1 : decode cX10_setOf 1 = .ok (.istore_n 1, 1) := by decide +kernel
theorem dX10_setOf_2 : decode cX10_setOf 2 = .ok (.iload_n 0, 1) := by decide +kernel
theorem dX10_setOf_3 : decode cX10_setOf 3 = .ok (.istore_n 2, 1) := by decide +kernel
theorem dX10_setOf_4 : decode cX10_setOf 4 = .ok (.iload_n 2, 1) := by decide +kernel
theorem dX10_setOf_5 : decode cX10_setOf 5 = .ok (.ifCond .le 20, 3) := by decide +kernel
theorem dX10_setOf_8 : decode cX10_setOf 8 = .ok (.iload_n 1, 1) := by decide +kernel
theorem dX10_setOf_9 : decode cX10_setOf 9 = .ok (.iconst 1, 1) := by decide +kernel
theorem dX10_setOf_10 : decode cX10_setOf 10 = .ok (.iload_n 2, 1) := by decide +kernel
theorem dX10_setOf_11 : decode cX10_setOf 11 = .ok (.iconst 5, 1) := by decide +kernel
theorem dX10_setOf_12 : decode cX10_setOf 12 = .ok (.irem, 1) := by decide +kernel
theorem dX10_setOf_13 : decode cX10_setOf 13 = .ok (.iconst 1, 1) := by decide +kernel
theorem dX10_setOf_14 : decode cX10_setOf 14 = .ok (.isub, 1) := by decide +kernel
theorem dX10_setOf_15 : decode cX10_setOf 15 = .ok (.ishl, 1) := by decide +kernel
theorem dX10_setOf_16 : decode cX10_setOf 16 = .ok (.ior, 1) := by decide +kernel
theorem dX10_setOf_17 : decode cX10_setOf 17 = .ok (.istore_n 1, 1) := by decide +kernel
theorem dX10_setOf_18 : decode cX10_setOf 18 = .ok (.iload_n 2, 1) := by decide +kernel
theorem dX10_setOf_19 : decode cX10_setOf 19 = .ok (.iconst 5, 1) := by decide +kernel
theorem dX10_setOf_20 : decode cX10_setOf 20 = .ok (.idiv, 1) := by decide +kernel
theorem dX10_setOf_21 : decode cX10_setOf 21 = .ok (.istore_n 2, 1) := by decide +kernel
theorem dX10_setOf_22 : decode cX10_setOf 22 = .ok (.goto (-18), 3) := by decide +kernel
theorem dX10_setOf_25 : decode cX10_setOf 25 = .ok (.iload_n 1, 1) := by decide +kernel
theorem dX10_setOf_26 : decode cX10_setOf 26 = .ok (.ireturn, 1) := by decide +kernel
theorem dX10_lastOf_0 : decode cX10_lastOf 0 = .ok (.bipush (-6), 2) := by decide +kernel
theorem dX10_lastOf_2 : decode cX10_lastOf 2 = .ok (.istore_n 1, 1) := by decide +kernel
theorem dX10_lastOf_3 : decode cX10_lastOf 3 = .ok (.iload_n 0, 1) := by decide +kernel
theorem dX10_lastOf_4 : decode cX10_lastOf 4 = .ok (.istore_n 2, 1) := by decide +kernel
theorem dX10_lastOf_5 : decode cX10_lastOf 5 = .ok (.iload_n 2, 1) := by decide +kernel
theorem dX10_lastOf_6 : decode cX10_lastOf 6 = .ok (.ifCond .le 16, 3) := by decide +kernel
theorem dX10_lastOf_9 : decode cX10_lastOf 9 = .ok (.iload_n 2, 1) := by decide +kernel
theorem dX10_lastOf_10 : decode cX10_lastOf 10 = .ok (.iconst 5, 1) := by decide +kernel
theorem dX10_lastOf_11 : decode cX10_lastOf 11 = .ok (.irem, 1) := by decide +kernel
theorem dX10_lastOf_12 : decode cX10_lastOf 12 = .ok (.iconst 1, 1) := by decide +kernel
theorem dX10_lastOf_13 : decode cX10_lastOf 13 = .ok (.isub, 1) := by decide +kernel
theorem dX10_lastOf_14 : decode cX10_lastOf 14 = .ok (.istore_n 1, 1) := by decide +kernel
theorem dX10_lastOf_15 : decode cX10_lastOf 15 = .ok (.iload_n 2, 1) := by decide +kernel
theorem dX10_lastOf_16 : decode cX10_lastOf 16 = .ok (.iconst 5, 1) := by decide +kernel
theorem dX10_lastOf_17 : decode cX10_lastOf 17 = .ok (.idiv, 1) := by decide +kernel
theorem dX10_lastOf_18 : decode cX10_lastOf 18 = .ok (.istore_n 2, 1) := by decide +kernel
theorem dX10_lastOf_19 : decode cX10_lastOf 19 = .ok (.goto (-14), 3) := by decide +kernel
