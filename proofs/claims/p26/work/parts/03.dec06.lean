theorem dX10_heard_16 : decode cX10_heard 16 = .ok (.aload_n 0, 1) := by decide +kernel
theorem dX10_heard_17 : decode cX10_heard 17 = .ok (.getfield 47, 3) := by decide +kernel
theorem dX10_heard_20 : decode cX10_heard 20 = .ok (.iconst 0, 1) := by decide +kernel
theorem dX10_heard_21 : decode cX10_heard 21 = .ok (.laload, 1) := by decide +kernel
theorem dX10_heard_22 : decode cX10_heard 22 = .ok (.lreturn, 1) := by decide +kernel
theorem dX10_first_0 : decode cX10_first 0 = .ok (.aload_n 0, 1) := by decide +kernel
theorem dX10_first_1 : decode cX10_first 1 = .ok (.iconst 2, 1) := by decide +kernel
theorem dX10_first_2 : decode cX10_first 2 = .ok (.invokevirtual 197, 3) := by decide +kernel
theorem dX10_first_5 : decode cX10_first 5 = .ok (.ifCond .lt 6, 3) := by decide +kernel
theorem dX10_first_8 : decode cX10_first 8 = .ok (.bipush (-5), 2) := by decide +kernel
theorem dX10_first_10 : decode cX10_first 10 = .ok (.ireturn, 1) := by decide +kernel
theorem dX10_first_11 : decode cX10_first 11 = .ok (.aload_n 0, 1) := by decide +kernel
theorem dX10_first_12 : decode cX10_first 12 = .ok (.invokevirtual 272, 3) := by decide +kernel
theorem dX10_first_15 : decode cX10_first 15 = .ok (.aload_n 0, 1) := by decide +kernel
theorem dX10_first_16 : decode cX10_first 16 = .ok (.getfield 47, 3) := by decide +kernel
theorem dX10_first_19 : decode cX10_first 19 = .ok (.iconst 0, 1) := by decide +kernel
theorem dX10_first_20 : decode cX10_first 20 = .ok (.laload, 1) := by decide +kernel
theorem dX10_first_21 : decode cX10_first 21 = .ok (.lconst 0, 1) := by decide +kernel
theorem dX10_first_22 : decode cX10_first 22 = .ok (.lcmp, 1) := by decide +kernel
theorem dX10_first_23 : decode cX10_first 23 = .ok (.ifCond .eq 19, 3) := by decide +kernel
theorem dX10_first_26 : decode cX10_first 26 = .ok (.iload_n 1, 1) := by decide +kernel
theorem dX10_first_27 : decode cX10_first 27 = .ok (.i2l, 1) := by decide +kernel
theorem dX10_first_28 : decode cX10_first 28 = .ok (.lconst 0, 1) := by decide +kernel
theorem dX10_first_29 : decode cX10_first 29 = .ok (.aload_n 0, 1) := by decide +kernel
theorem dX10_first_30 : decode cX10_first 30 = .ok (.getfield 85, 3) := by decide +kernel
theorem dX10_first_33 : decode cX10_first 33 = .ok (.iconst 1, 1) := by decide +kernel
theorem dX10_first_34 : decode cX10_first 34 = .ok (.isub, 1) := by decide +kernel
theorem dX10_first_35 : decode cX10_first 35 = .ok (.i2l, 1) := by decide +kernel
theorem dX10_first_36 : decode cX10_first 36 = .ok (.invokestatic 77, 3) := by decide +kernel
theorem dX10_first_39 : decode cX10_first 39 = .ok (.ifCond .ne 6, 3) := by decide +kernel
theorem dX10_first_42 : decode cX10_first 42 = .ok (.bipush (-6), 2) := by decide +kernel
theorem dX10_first_44 : decode cX10_first 44 = .ok (.ireturn, 1) := by decide +kernel
theorem dX10_first_45 : decode cX10_first 45 = .ok (.iconst 0, 1) := by decide +kernel
theorem dX10_first_46 : decode cX10_first 46 = .ok (.istore_n 2, 1) := by decide +kernel
theorem dX10_first_47 : decode cX10_first 47 = .ok (.iconst 0, 1) := by decide +kernel
theorem dX10_first_48 : decode cX10_first 48 = .ok (.istore_n 3, 1) := by decide +kernel
theorem dX10_first_49 : decode cX10_first 49 = .ok (.iconst 0, 1) := by decide +kernel
theorem dX10_first_50 : decode cX10_first 50 = .ok (.istore 4, 2) := by decide +kernel
theorem dX10_first_52 : decode cX10_first 52 = .ok (.iload 4, 2) := by decide +kernel
theorem dX10_first_54 : decode cX10_first 54 = .ok (.iload_n 1, 1) := by decide +kernel
theorem dX10_first_55 : decode cX10_first 55 = .ok (.if_icmp .gt 53, 3) := by decide +kernel
theorem dX10_first_58 : decode cX10_first 58 = .ok (.iconst 0, 1) := by decide +kernel
theorem dX10_first_59 : decode cX10_first 59 = .ok (.istore_n 3, 1) := by decide +kernel
theorem dX10_first_60 : decode cX10_first 60 = .ok (.aload_n 0, 1) := by decide +kernel
theorem dX10_first_61 : decode cX10_first 61 = .ok (.iload_n 2, 1) := by decide +kernel
theorem dX10_first_62 : decode cX10_first 62 = .ok (.iload_n 3, 1) := by decide +kernel
theorem dX10_first_63 : decode cX10_first 63 = .ok (.invokevirtual 267, 3) := by decide +kernel
theorem dX10_first_66 : decode cX10_first 66 = .ok (.istore 5, 2) := by decide +kernel
theorem dX10_first_68 : decode cX10_first 68 = .ok (.iload 5, 2) := by decide +kernel
theorem dX10_first_70 : decode cX10_first 70 = .ok (.ifCond .lt 15, 3) := by decide +kernel
theorem dX10_first_73 : decode cX10_first 73 = .ok (.aload_n 0, 1) := by decide +kernel
theorem dX10_first_74 : decode cX10_first 74 = .ok (.getfield 47, 3) := by decide +kernel
theorem dX10_first_77 : decode cX10_first 77 = .ok (.iload 5, 2) := by decide +kernel
theorem dX10_first_79 : decode cX10_first 79 = .ok (.laload, 1) := by decide +kernel
theorem dX10_first_80 : decode cX10_first 80 = .ok (.lconst 0, 1) := by decide +kernel
theorem dX10_first_81 : decode cX10_first 81 = .ok (.lcmp, 1) := by decide +kernel
theorem dX10_first_82 : decode cX10_first 82 = .ok (.ifCond .ne 17, 3) := by decide +kernel
theorem dX10_first_85 : decode cX10_first 85 = .ok (.iinc 3 1, 3) := by decide +kernel
theorem dX10_first_88 : decode cX10_first 88 = .ok (.aload_n 0, 1) := by decide +kernel
theorem dX10_first_89 : decode cX10_first 89 = .ok (.iload_n 2, 1) := by decide +kernel
theorem dX10_first_90 : decode cX10_first 90 = .ok (.iload_n 3, 1) := by decide +kernel
theorem dX10_first_91 : decode cX10_first 91 = .ok (.invokevirtual 267, 3) := by decide +kernel
theorem dX10_first_94 : decode cX10_first 94 = .ok (.istore 5, 2) := by decide +kernel
theorem dX10_first_96 : decode cX10_first 96 = .ok (.goto (-28), 3) := by decide +kernel
theorem dX10_first_99 : decode cX10_first 99 = .ok (.iload 5, 2) := by decide +kernel
theorem dX10_first_101 : decode cX10_first 101 = .ok (.istore_n 2, 1) := by decide +kernel
theorem dX10_first_102 : decode cX10_first 102 = .ok (.iinc 4 1, 3) := by decide +kernel
theorem dX10_first_105 : decode cX10_first 105 = .ok (.goto (-53), 3) := by decide +kernel
theorem dX10_first_108 : decode cX10_first 108 = .ok (.bipush 97, 2) := by decide +kernel
theorem dX10_first_110 : decode cX10_first 110 = .ok (.iload_n 3, 1) := by decide +kernel
theorem dX10_first_111 : decode cX10_first 111 = .ok (.iadd, 1) := by decide +kernel
theorem dX10_first_112 : decode cX10_first 112 = .ok (.ireturn, 1) := by decide +kernel
theorem dX10_who_0 : decode cX10_who 0 = .ok (.aload_n 0, 1) := by decide +kernel
theorem dX10_who_1 : decode cX10_who 1 = .ok (.iconst 2, 1) := by decide +kernel
theorem dX10_who_2 : decode cX10_who 2 = .ok (.invokevirtual 197, 3) := by decide +kernel
theorem dX10_who_5 : decode cX10_who 5 = .ok (.ifCond .lt 6, 3) := by decide +kernel
theorem dX10_who_8 : decode cX10_who 8 = .ok (.bipush (-5), 2) := by decide +kernel
theorem dX10_who_10 : decode cX10_who 10 = .ok (.ireturn, 1) := by decide +kernel
theorem dX10_who_11 : decode cX10_who 11 = .ok (.iload_n 1, 1) := by decide +kernel
theorem dX10_who_12 : decode cX10_who 12 = .ok (.i2l, 1) := by decide +kernel
theorem dX10_who_13 : decode cX10_who 13 = .ok (.lconst 0, 1) := by decide +kernel
theorem dX10_who_14 : decode cX10_who 14 = .ok (.aload_n 0, 1) := by decide +kernel
theorem dX10_who_15 : decode cX10_who 15 = .ok (.getfield 85, 3) := by decide +kernel
theorem dX10_who_18 : decode cX10_who 18 = .ok (.iconst 1, 1) := by decide +kernel
theorem dX10_who_19 : decode cX10_who 19 = .ok (.isub, 1) := by decide +kernel
theorem dX10_who_20 : decode cX10_who 20 = .ok (.i2l, 1) := by decide +kernel
theorem dX10_who_21 : decode cX10_who 21 = .ok (.invokestatic 77, 3) := by decide +kernel
theorem dX10_who_24 : decode cX10_who 24 = .ok (.ifCond .ne 6, 3) := by decide +kernel
theorem dX10_who_27 : decode cX10_who 27 = .ok (.bipush (-6), 2) := by decide +kernel
theorem dX10_who_29 : decode cX10_who 29 = .ok (.ireturn, 1) := by decide +kernel
theorem dX10_who_30 : decode cX10_who 30 = .ok (.aload_n 0, 1) := by decide +kernel
theorem dX10_who_31 : decode cX10_who 31 = .ok (.invokevirtual 272, 3) := by decide +kernel
theorem dX10_who_34 : decode cX10_who 34 = .ok (.iconst 0, 1) := by decide +kernel
theorem dX10_who_35 : decode cX10_who 35 = .ok (.istore_n 2, 1) := by decide +kernel
theorem dX10_who_36 : decode cX10_who 36 = .ok (.iload_n 2, 1) := by decide +kernel
theorem dX10_who_37 : decode cX10_who 37 = .ok (.ldc 46, 2) := by decide +kernel
theorem dX10_who_39 : decode cX10_who 39 = .ok (.if_icmp .ge 24, 3) := by decide +kernel
theorem dX10_who_42 : decode cX10_who 42 = .ok (.aload_n 0, 1) := by decide +kernel
theorem dX10_who_43 : decode cX10_who 43 = .ok (.getfield 51, 3) := by decide +kernel
theorem dX10_who_46 : decode cX10_who 46 = .ok (.iload_n 2, 1) := by decide +kernel
theorem dX10_who_47 : decode cX10_who 47 = .ok (.iload_n 2, 1) := by decide +kernel
theorem dX10_who_48 : decode cX10_who 48 = .ok (.ifCond .ne 7, 3) := by decide +kernel
theorem dX10_who_51 : decode cX10_who 51 = .ok (.iconst 1, 1) := by decide +kernel
theorem dX10_who_52 : decode cX10_who 52 = .ok (.goto 4, 3) := by decide +kernel
theorem dX10_who_55 : decode cX10_who 55 = .ok (.iconst 0, 1) := by decide +kernel
theorem dX10_who_56 : decode cX10_who 56 = .ok (.bastore, 1) := by decide +kernel
theorem dX10_who_57 : decode cX10_who 57 = .ok (.iinc 2 1, 3) := by decide +kernel
theorem dX10_who_60 : decode cX10_who 60 = .ok (.goto (-24), 3) := by decide +kernel
theorem dX10_who_63 : decode cX10_who 63 = .ok (.iconst 0, 1) := by decide +kernel
theorem dX10_who_64 : decode cX10_who 64 = .ok (.istore_n 2, 1) := by decide +kernel
theorem dX10_who_65 : decode cX10_who 65 = .ok (.iconst 0, 1) := by decide +kernel
theorem dX10_who_66 : decode cX10_who 66 = .ok (.istore_n 3, 1) := by decide +kernel
theorem dX10_who_67 : decode cX10_who 67 = .ok (.iload_n 3, 1) := by decide +kernel
theorem dX10_who_68 : decode cX10_who 68 = .ok (.iload_n 1, 1) := by decide +kernel
theorem dX10_who_69 : decode cX10_who 69 = .ok (.if_icmp .gt 137, 3) := by decide +kernel
theorem dX10_who_72 : decode cX10_who 72 = .ok (.iconst 0, 1) := by decide +kernel
theorem dX10_who_73 : decode cX10_who 73 = .ok (.istore 4, 2) := by decide +kernel
theorem dX10_who_75 : decode cX10_who 75 = .ok (.iload 4, 2) := by decide +kernel
theorem dX10_who_77 : decode cX10_who 77 = .ok (.sipush 625, 3) := by decide +kernel
theorem dX10_who_80 : decode cX10_who 80 = .ok (.if_icmp .ge 120, 3) := by decide +kernel
theorem dX10_who_83 : decode cX10_who 83 = .ok (.iconst 0, 1) := by decide +kernel
theorem dX10_who_84 : decode cX10_who 84 = .ok (.istore 5, 2) := by decide +kernel
theorem dX10_who_86 : decode cX10_who 86 = .ok (.iload 5, 2) := by decide +kernel
theorem dX10_who_88 : decode cX10_who 88 = .ok (.bipush 65, 2) := by decide +kernel
theorem dX10_who_90 : decode cX10_who 90 = .ok (.if_icmp .ge 104, 3) := by decide +kernel
theorem dX10_who_93 : decode cX10_who 93 = .ok (.iload 4, 2) := by decide +kernel
theorem dX10_who_95 : decode cX10_who 95 = .ok (.invokestatic 206, 3) := by decide +kernel
theorem dX10_who_98 : decode cX10_who 98 = .ok (.iload_n 3, 1) := by decide +kernel
theorem dX10_who_99 : decode cX10_who 99 = .ok (.if_icmp .ne 95, 3) := by decide +kernel
theorem dX10_who_102 : decode cX10_who 102 = .ok (.bipush 65, 2) := by decide +kernel
theorem dX10_who_104 : decode cX10_who 104 = .ok (.iload 4, 2) := by decide +kernel
theorem dX10_who_106 : decode cX10_who 106 = .ok (.imul, 1) := by decide +kernel
theorem dX10_who_107 : decode cX10_who 107 = .ok (.iload 5, 2) := by decide +kernel
theorem dX10_who_109 : decode cX10_who 109 = .ok (.iadd, 1) := by decide +kernel
theorem dX10_who_110 : decode cX10_who 110 = .ok (.istore 6, 2) := by decide +kernel
theorem dX10_who_112 : decode cX10_who 112 = .ok (.iconst 0, 1) := by decide +kernel
theorem dX10_who_113 : decode cX10_who 113 = .ok (.istore 7, 2) := by decide +kernel
theorem dX10_who_115 : decode cX10_who 115 = .ok (.iload 7, 2) := by decide +kernel
theorem dX10_who_117 : decode cX10_who 117 = .ok (.iconst 4, 1) := by decide +kernel
theorem dX10_who_118 : decode cX10_who 118 = .ok (.if_icmp .ge 70, 3) := by decide +kernel
theorem dX10_who_121 : decode cX10_who 121 = .ok (.aload_n 0, 1) := by decide +kernel
theorem dX10_who_122 : decode cX10_who 122 = .ok (.getfield 51, 3) := by decide +kernel
theorem dX10_who_125 : decode cX10_who 125 = .ok (.iload 6, 2) := by decide +kernel
theorem dX10_who_127 : decode cX10_who 127 = .ok (.baload, 1) := by decide +kernel
theorem dX10_who_128 : decode cX10_who 128 = .ok (.ifCond .eq 60, 3) := by decide +kernel
theorem dX10_who_131 : decode cX10_who 131 = .ok (.aload_n 0, 1) := by decide +kernel
theorem dX10_who_132 : decode cX10_who 132 = .ok (.iload 6, 2) := by decide +kernel
theorem dX10_who_134 : decode cX10_who 134 = .ok (.iload 7, 2) := by decide +kernel
theorem dX10_who_136 : decode cX10_who 136 = .ok (.invokevirtual 267, 3) := by decide +kernel
theorem dX10_who_139 : decode cX10_who 139 = .ok (.istore 8, 2) := by decide +kernel
theorem dX10_who_141 : decode cX10_who 141 = .ok (.iload 8, 2) := by decide +kernel
theorem dX10_who_143 : decode cX10_who 143 = .ok (.ifCond .lt 39, 3) := by decide +kernel
theorem dX10_who_146 : decode cX10_who 146 = .ok (.aload_n 0, 1) := by decide +kernel
theorem dX10_who_147 : decode cX10_who 147 = .ok (.getfield 47, 3) := by decide +kernel
theorem dX10_who_150 : decode cX10_who 150 = .ok (.iload 8, 2) := by decide +kernel
theorem dX10_who_152 : decode cX10_who 152 = .ok (.laload, 1) := by decide +kernel
theorem dX10_who_153 : decode cX10_who 153 = .ok (.lconst 0, 1) := by decide +kernel
theorem dX10_who_154 : decode cX10_who 154 = .ok (.lcmp, 1) := by decide +kernel
theorem dX10_who_155 : decode cX10_who 155 = .ok (.ifCond .le 27, 3) := by decide +kernel
theorem dX10_who_158 : decode cX10_who 158 = .ok (.aload_n 0, 1) := by decide +kernel
theorem dX10_who_159 : decode cX10_who 159 = .ok (.getfield 51, 3) := by decide +kernel
theorem dX10_who_162 : decode cX10_who 162 = .ok (.iload 8, 2) := by decide +kernel
theorem dX10_who_164 : decode cX10_who 164 = .ok (.iconst 1, 1) := by decide +kernel
theorem dX10_who_165 : decode cX10_who 165 = .ok (.bastore, 1) := by decide +kernel
theorem dX10_who_166 : decode cX10_who 166 = .ok (.iload_n 2, 1) := by decide +kernel
theorem dX10_who_167 : decode cX10_who 167 = .ok (.iload_n 3, 1) := by decide +kernel
theorem dX10_who_168 : decode cX10_who 168 = .ok (.iload_n 1, 1) := by decide +kernel
theorem dX10_who_169 : decode cX10_who 169 = .ok (.if_icmp .ne 10, 3) := by decide +kernel
theorem dX10_who_172 : decode cX10_who 172 = .ok (.iconst 1, 1) := by decide +kernel
theorem dX10_who_173 : decode cX10_who 173 = .ok (.iload 7, 2) := by decide +kernel
theorem dX10_who_175 : decode cX10_who 175 = .ok (.ishl, 1) := by decide +kernel
theorem dX10_who_176 : decode cX10_who 176 = .ok (.goto 4, 3) := by decide +kernel
theorem dX10_who_179 : decode cX10_who 179 = .ok (.iconst 0, 1) := by decide +kernel
theorem dX10_who_180 : decode cX10_who 180 = .ok (.ior, 1) := by decide +kernel
theorem dX10_who_181 : decode cX10_who 181 = .ok (.istore_n 2, 1) := by decide +kernel
theorem dX10_who_182 : decode cX10_who 182 = .ok (.iinc 7 1, 3) := by decide +kernel
theorem dX10_who_185 : decode cX10_who 185 = .ok (.goto (-70), 3) := by decide +kernel
theorem dX10_who_188 : decode cX10_who 188 = .ok (.iinc 5 1, 3) := by decide +kernel
theorem dX10_who_191 : decode cX10_who 191 = .ok (.goto (-105), 3) := by decide +kernel
theorem dX10_who_194 : decode cX10_who 194 = .ok (.iinc 4 1, 3) := by decide +kernel
theorem dX10_who_197 : decode cX10_who 197 = .ok (.goto (-122), 3) := by decide +kernel
theorem dX10_who_200 : decode cX10_who 200 = .ok (.iinc 3 1, 3) := by decide +kernel
theorem dX10_who_203 : decode cX10_who 203 = .ok (.goto (-136), 3) := by decide +kernel
theorem dX10_who_206 : decode cX10_who 206 = .ok (.iload_n 2, 1) := by decide +kernel
theorem dX10_who_207 : decode cX10_who 207 = .ok (.ireturn, 1) := by decide +kernel
theorem dX10_left_0 : decode cX10_left 0 = .ok (.iload_n 1, 1) := by decide +kernel
theorem dX10_left_1 : decode cX10_left 1 = .ok (.invokestatic 101, 3) := by decide +kernel
theorem dX10_left_4 : decode cX10_left 4 = .ok (.ifCond .ne 5, 3) := by decide +kernel
theorem dX10_left_7 : decode cX10_left 7 = .ok (.iconst (-1), 1) := by decide +kernel
theorem dX10_left_8 : decode cX10_left 8 = .ok (.ireturn, 1) := by decide +kernel
theorem dX10_left_9 : decode cX10_left 9 = .ok (.iload_n 2, 1) := by decide +kernel
theorem dX10_left_10 : decode cX10_left 10 = .ok (.i2l, 1) := by decide +kernel
theorem dX10_left_11 : decode cX10_left 11 = .ok (.lconst 0, 1) := by decide +kernel
theorem dX10_left_12 : decode cX10_left 12 = .ok (.lconst 1, 1) := by decide +kernel
theorem dX10_left_13 : decode cX10_left 13 = .ok (.invokestatic 77, 3) := by decide +kernel
theorem dX10_left_16 : decode cX10_left 16 = .ok (.ifCond .ne 6, 3) := by decide +kernel
theorem dX10_left_19 : decode cX10_left 19 = .ok (.bipush (-2), 2) := by decide +kernel
theorem dX10_left_21 : decode cX10_left 21 = .ok (.ireturn, 1) := by decide +kernel
theorem dX10_left_22 : decode cX10_left 22 = .ok (.aload_n 0, 1) := by decide +kernel
theorem dX10_left_23 : decode cX10_left 23 = .ok (.iconst 1, 1) := by decide +kernel
theorem dX10_left_24 : decode cX10_left 24 = .ok (.invokevirtual 197, 3) := by decide +kernel
theorem dX10_left_27 : decode cX10_left 27 = .ok (.ifCond .lt 6, 3) := by decide +kernel
theorem dX10_left_30 : decode cX10_left 30 = .ok (.bipush (-5), 2) := by decide +kernel
theorem dX10_left_32 : decode cX10_left 32 = .ok (.ireturn, 1) := by decide +kernel
theorem dX10_left_33 : decode cX10_left 33 = .ok (.aload_n 0, 1) := by decide +kernel
theorem dX10_left_34 : decode cX10_left 34 = .ok (.invokevirtual 200, 3) := by decide +kernel
theorem dX10_left_37 : decode cX10_left 37 = .ok (.aload_n 0, 1) := by decide +kernel
theorem dX10_left_38 : decode cX10_left 38 = .ok (.getfield 175, 3) := by decide +kernel
theorem dX10_left_41 : decode cX10_left 41 = .ok (.ifCond .lt 6, 3) := by decide +kernel
theorem dX10_left_44 : decode cX10_left 44 = .ok (.bipush (-3), 2) := by decide +kernel
theorem dX10_left_46 : decode cX10_left 46 = .ok (.ireturn, 1) := by decide +kernel
theorem dX10_left_47 : decode cX10_left 47 = .ok (.iconst 0, 1) := by decide +kernel
theorem dX10_left_48 : decode cX10_left 48 = .ok (.istore_n 3, 1) := by decide +kernel
theorem dX10_left_49 : decode cX10_left 49 = .ok (.aload_n 0, 1) := by decide +kernel
theorem dX10_left_50 : decode cX10_left 50 = .ok (.getfield 134, 3) := by decide +kernel
theorem dX10_left_53 : decode cX10_left 53 = .ok (.invokestatic 146, 3) := by decide +kernel
theorem dX10_left_56 : decode cX10_left 56 = .ok (.istore 4, 2) := by decide +kernel
theorem dX10_left_58 : decode cX10_left 58 = .ok (.iconst 0, 1) := by decide +kernel
theorem dX10_left_59 : decode cX10_left 59 = .ok (.istore 5, 2) := by decide +kernel
theorem dX10_left_61 : decode cX10_left 61 = .ok (.iload 5, 2) := by decide +kernel
theorem dX10_left_63 : decode cX10_left 63 = .ok (.iconst 4, 1) := by decide +kernel
theorem dX10_left_64 : decode cX10_left 64 = .ok (.if_icmp .ge 42, 3) := by decide +kernel
theorem dX10_left_67 : decode cX10_left 67 = .ok (.iload_n 3, 1) := by decide +kernel
theorem dX10_left_68 : decode cX10_left 68 = .ok (.iload 4, 2) := by decide +kernel
theorem dX10_left_70 : decode cX10_left 70 = .ok (.iload 5, 2) := by decide +kernel
theorem dX10_left_72 : decode cX10_left 72 = .ok (.ishr, 1) := by decide +kernel
theorem dX10_left_73 : decode cX10_left 73 = .ok (.iconst 1, 1) := by decide +kernel
theorem dX10_left_74 : decode cX10_left 74 = .ok (.iand, 1) := by decide +kernel
theorem dX10_left_75 : decode cX10_left 75 = .ok (.iconst 1, 1) := by decide +kernel
theorem dX10_left_76 : decode cX10_left 76 = .ok (.if_icmp .ne 21, 3) := by decide +kernel
theorem dX10_left_79 : decode cX10_left 79 = .ok (.aload_n 0, 1) := by decide +kernel
theorem dX10_left_80 : decode cX10_left 80 = .ok (.getfield 25, 3) := by decide +kernel
theorem dX10_left_83 : decode cX10_left 83 = .ok (.iload 5, 2) := by decide +kernel
theorem dX10_left_85 : decode cX10_left 85 = .ok (.iaload, 1) := by decide +kernel
theorem dX10_left_86 : decode cX10_left 86 = .ok (.iload_n 1, 1) := by decide +kernel
theorem dX10_left_87 : decode cX10_left 87 = .ok (.if_icmp .ne 10, 3) := by decide +kernel
theorem dX10_left_90 : decode cX10_left 90 = .ok (.iconst 1, 1) := by decide +kernel
theorem dX10_left_91 : decode cX10_left 91 = .ok (.iload 5, 2) := by decide +kernel
theorem dX10_left_93 : decode cX10_left 93 = .ok (.ishl, 1) := by decide +kernel
theorem dX10_left_94 : decode cX10_left 94 = .ok (.goto 4, 3) := by decide +kernel
theorem dX10_left_97 : decode cX10_left 97 = .ok (.iconst 0, 1) := by decide +kernel
theorem dX10_left_98 : decode cX10_left 98 = .ok (.ior, 1) := by decide +kernel
theorem dX10_left_99 : decode cX10_left 99 = .ok (.istore_n 3, 1) := by decide +kernel
theorem dX10_left_100 : decode cX10_left 100 = .ok (.iinc 5 1, 3) := by decide +kernel
theorem dX10_left_103 : decode cX10_left 103 = .ok (.goto (-42), 3) := by decide +kernel
theorem dX10_left_106 : decode cX10_left 106 = .ok (.iconst 0, 1) := by decide +kernel
theorem dX10_left_107 : decode cX10_left 107 = .ok (.istore 5, 2) := by decide +kernel
theorem dX10_left_109 : decode cX10_left 109 = .ok (.iconst 0, 1) := by decide +kernel
theorem dX10_left_110 : decode cX10_left 110 = .ok (.istore 6, 2) := by decide +kernel
theorem dX10_left_112 : decode cX10_left 112 = .ok (.iload 6, 2) := by decide +kernel
theorem dX10_left_114 : decode cX10_left 114 = .ok (.iconst 4, 1) := by decide +kernel
theorem dX10_left_115 : decode cX10_left 115 = .ok (.if_icmp .ge 63, 3) := by decide +kernel
theorem dX10_left_118 : decode cX10_left 118 = .ok (.iload 6, 2) := by decide +kernel
theorem dX10_left_120 : decode cX10_left 120 = .ok (.iload_n 1, 1) := by decide +kernel
theorem dX10_left_121 : decode cX10_left 121 = .ok (.if_icmp .eq 30, 3) := by decide +kernel
theorem dX10_left_124 : decode cX10_left 124 = .ok (.iload_n 3, 1) := by decide +kernel
theorem dX10_left_125 : decode cX10_left 125 = .ok (.aload_n 0, 1) := by decide +kernel
theorem dX10_left_126 : decode cX10_left 126 = .ok (.getfield 28, 3) := by decide +kernel
theorem dX10_left_129 : decode cX10_left 129 = .ok (.iload 6, 2) := by decide +kernel
theorem dX10_left_131 : decode cX10_left 131 = .ok (.iaload, 1) := by decide +kernel
theorem dX10_left_132 : decode cX10_left 132 = .ok (.iconst (-1), 1) := by decide +kernel
theorem dX10_left_133 : decode cX10_left 133 = .ok (.ixor, 1) := by decide +kernel
theorem dX10_left_134 : decode cX10_left 134 = .ok (.iand, 1) := by decide +kernel
theorem dX10_left_135 : decode cX10_left 135 = .ok (.ifCond .ne 16, 3) := by decide +kernel
theorem dX10_left_138 : decode cX10_left 138 = .ok (.aload_n 0, 1) := by decide +kernel
theorem dX10_left_139 : decode cX10_left 139 = .ok (.iload 6, 2) := by decide +kernel
theorem dX10_left_141 : decode cX10_left 141 = .ok (.invokevirtual 160, 3) := by decide +kernel
theorem dX10_left_144 : decode cX10_left 144 = .ok (.ifCond .ne 7, 3) := by decide +kernel
theorem dX10_left_147 : decode cX10_left 147 = .ok (.iconst 1, 1) := by decide +kernel
theorem dX10_left_148 : decode cX10_left 148 = .ok (.goto 4, 3) := by decide +kernel
theorem dX10_left_151 : decode cX10_left 151 = .ok (.iconst 0, 1) := by decide +kernel
theorem dX10_left_152 : decode cX10_left 152 = .ok (.istore 7, 2) := by decide +kernel
theorem dX10_left_154 : decode cX10_left 154 = .ok (.iload 5, 2) := by decide +kernel
theorem dX10_left_156 : decode cX10_left 156 = .ok (.iload 7, 2) := by decide +kernel
theorem dX10_left_158 : decode cX10_left 158 = .ok (.ifCond .eq 10, 3) := by decide +kernel
theorem dX10_left_161 : decode cX10_left 161 = .ok (.iconst 1, 1) := by decide +kernel
theorem dX10_left_162 : decode cX10_left 162 = .ok (.iload 6, 2) := by decide +kernel
theorem dX10_left_164 : decode cX10_left 164 = .ok (.ishl, 1) := by decide +kernel
theorem dX10_left_165 : decode cX10_left 165 = .ok (.goto 4, 3) := by decide +kernel
theorem dX10_left_168 : decode cX10_left 168 = .ok (.iconst 0, 1) := by decide +kernel
theorem dX10_left_169 : decode cX10_left 169 = .ok (.ior, 1) := by decide +kernel
theorem dX10_left_170 : decode cX10_left 170 = .ok (.istore 5, 2) := by decide +kernel
theorem dX10_left_172 : decode cX10_left 172 = .ok (.iinc 6 1, 3) := by decide +kernel
theorem dX10_left_175 : decode cX10_left 175 = .ok (.goto (-63), 3) := by decide +kernel
theorem dX10_left_178 : decode cX10_left 178 = .ok (.iload_n 2, 1) := by decide +kernel
theorem dX10_left_179 : decode cX10_left 179 = .ok (.ifCond .ne 7, 3) := by decide +kernel
theorem dX10_left_182 : decode cX10_left 182 = .ok (.iload_n 3, 1) := by decide +kernel
theorem dX10_left_183 : decode cX10_left 183 = .ok (.goto 5, 3) := by decide +kernel
theorem dX10_left_186 : decode cX10_left 186 = .ok (.iload 5, 2) := by decide +kernel
theorem dX10_left_188 : decode cX10_left 188 = .ok (.ireturn, 1) := by decide +kernel
theorem dX10_pass_0 : decode cX10_pass 0 = .ok (.aload_n 0, 1) := by decide +kernel
theorem dX10_pass_1 : decode cX10_pass 1 = .ok (.getfield 275, 3) := by decide +kernel
theorem dX10_pass_4 : decode cX10_pass 4 = .ok (.ifCond .eq 7, 3) := by decide +kernel
theorem dX10_pass_7 : decode cX10_pass 7 = .ok (.iload_n 1, 1) := by decide +kernel
theorem dX10_pass_8 : decode cX10_pass 8 = .ok (.goto 12, 3) := by decide +kernel
theorem dX10_pass_11 : decode cX10_pass 11 = .ok (.aload_n 0, 1) := by decide +kernel
theorem dX10_pass_12 : decode cX10_pass 12 = .ok (.getfield 65, 3) := by decide +kernel
theorem dX10_pass_15 : decode cX10_pass 15 = .ok (.aload_n 0, 1) := by decide +kernel
theorem dX10_pass_16 : decode cX10_pass 16 = .ok (.getfield 279, 3) := by decide +kernel
theorem dX10_pass_19 : decode cX10_pass 19 = .ok (.iaload, 1) := by decide +kernel
theorem dX10_pass_20 : decode cX10_pass 20 = .ok (.istore_n 2, 1) := by decide +kernel
theorem dX10_pass_21 : decode cX10_pass 21 = .ok (.aload_n 0, 1) := by decide +kernel
theorem dX10_pass_22 : decode cX10_pass 22 = .ok (.getfield 65, 3) := by decide +kernel
theorem dX10_pass_25 : decode cX10_pass 25 = .ok (.aload_n 0, 1) := by decide +kernel
theorem dX10_pass_26 : decode cX10_pass 26 = .ok (.getfield 279, 3) := by decide +kernel
theorem dX10_pass_29 : decode cX10_pass 29 = .ok (.iload_n 2, 1) := by decide +kernel
theorem dX10_pass_30 : decode cX10_pass 30 = .ok (.iastore, 1) := by decide +kernel
theorem dX10_pass_31 : decode cX10_pass 31 = .ok (.aload_n 0, 1) := by decide +kernel
theorem dX10_pass_32 : decode cX10_pass 32 = .ok (.dup, 1) := by decide +kernel
theorem dX10_pass_33 : decode cX10_pass 33 = .ok (.getfield 279, 3) := by decide +kernel
theorem dX10_pass_36 : decode cX10_pass 36 = .ok (.iconst 1, 1) := by decide +kernel
theorem dX10_pass_37 : decode cX10_pass 37 = .ok (.iadd, 1) := by decide +kernel
theorem dX10_pass_38 : decode cX10_pass 38 = .ok (.putfield 279, 3) := by decide +kernel
theorem dX10_pass_41 : decode cX10_pass 41 = .ok (.iload_n 2, 1) := by decide +kernel
theorem dX10_pass_42 : decode cX10_pass 42 = .ok (.ireturn, 1) := by decide +kernel
theorem dX10_passAll_0 : decode cX10_passAll 0 = .ok (.aload_n 0, 1) := by decide +kernel
theorem dX10_passAll_1 : decode cX10_passAll 1 = .ok (.aload_n 0, 1) := by decide +kernel
theorem dX10_passAll_2 : decode cX10_passAll 2 = .ok (.aload_n 0, 1) := by decide +kernel
theorem dX10_passAll_3 : decode cX10_passAll 3 = .ok (.getfield 104, 3) := by decide +kernel
theorem dX10_passAll_6 : decode cX10_passAll 6 = .ok (.invokevirtual 282, 3) := by decide +kernel
theorem dX10_passAll_9 : decode cX10_passAll 9 = .ok (.putfield 104, 3) := by decide +kernel
theorem dX10_passAll_12 : decode cX10_passAll 12 = .ok (.aload_n 0, 1) := by decide +kernel
theorem dX10_passAll_13 : decode cX10_passAll 13 = .ok (.aload_n 0, 1) := by decide +kernel
theorem dX10_passAll_14 : decode cX10_passAll 14 = .ok (.aload_n 0, 1) := by decide +kernel
theorem dX10_passAll_15 : decode cX10_passAll 15 = .ok (.getfield 124, 3) := by decide +kernel
theorem dX10_passAll_18 : decode cX10_passAll 18 = .ok (.invokevirtual 282, 3) := by decide +kernel
theorem dX10_passAll_21 : decode cX10_passAll 21 = .ok (.putfield 124, 3) := by decide +kernel
theorem dX10_passAll_24 : decode cX10_passAll 24 = .ok (.aload_n 0, 1) := by decide +kernel
theorem dX10_passAll_25 : decode cX10_passAll 25 = .ok (.aload_n 0, 1) := by decide +kernel
theorem dX10_passAll_26 : decode cX10_passAll 26 = .ok (.aload_n 0, 1) := by decide +kernel
theorem dX10_passAll_27 : decode cX10_passAll 27 = .ok (.getfield 127, 3) := by decide +kernel
theorem dX10_passAll_30 : decode cX10_passAll 30 = .ok (.invokevirtual 282, 3) := by decide +kernel
theorem dX10_passAll_33 : decode cX10_passAll 33 = .ok (.putfield 127, 3) := by decide +kernel
theorem dX10_passAll_36 : decode cX10_passAll 36 = .ok (.iconst 0, 1) := by decide +kernel
theorem dX10_passAll_37 : decode cX10_passAll 37 = .ok (.istore_n 1, 1) := by decide +kernel
theorem dX10_passAll_38 : decode cX10_passAll 38 = .ok (.iload_n 1, 1) := by decide +kernel
theorem dX10_passAll_39 : decode cX10_passAll 39 = .ok (.iconst 4, 1) := by decide +kernel
theorem dX10_passAll_40 : decode cX10_passAll 40 = .ok (.if_icmp .ge 73, 3) := by decide +kernel
theorem dX10_passAll_43 : decode cX10_passAll 43 = .ok (.aload_n 0, 1) := by decide +kernel
theorem dX10_passAll_44 : decode cX10_passAll 44 = .ok (.getfield 16, 3) := by decide +kernel
theorem dX10_passAll_47 : decode cX10_passAll 47 = .ok (.iload_n 1, 1) := by decide +kernel
theorem dX10_passAll_48 : decode cX10_passAll 48 = .ok (.aload_n 0, 1) := by decide +kernel
theorem dX10_passAll_49 : decode cX10_passAll 49 = .ok (.aload_n 0, 1) := by decide +kernel
theorem dX10_passAll_50 : decode cX10_passAll 50 = .ok (.getfield 16, 3) := by decide +kernel
theorem dX10_passAll_53 : decode cX10_passAll 53 = .ok (.iload_n 1, 1) := by decide +kernel
theorem dX10_passAll_54 : decode cX10_passAll 54 = .ok (.iaload, 1) := by decide +kernel
theorem dX10_passAll_55 : decode cX10_passAll 55 = .ok (.invokevirtual 282, 3) := by decide +kernel
theorem dX10_passAll_58 : decode cX10_passAll 58 = .ok (.iastore, 1) := by decide +kernel
theorem dX10_passAll_59 : decode cX10_passAll 59 = .ok (.aload_n 0, 1) := by decide +kernel
theorem dX10_passAll_60 : decode cX10_passAll 60 = .ok (.getfield 22, 3) := by decide +kernel
theorem dX10_passAll_63 : decode cX10_passAll 63 = .ok (.iload_n 1, 1) := by decide +kernel
theorem dX10_passAll_64 : decode cX10_passAll 64 = .ok (.aload_n 0, 1) := by decide +kernel
theorem dX10_passAll_65 : decode cX10_passAll 65 = .ok (.aload_n 0, 1) := by decide +kernel
theorem dX10_passAll_66 : decode cX10_passAll 66 = .ok (.getfield 22, 3) := by decide +kernel
theorem dX10_passAll_69 : decode cX10_passAll 69 = .ok (.iload_n 1, 1) := by decide +kernel
theorem dX10_passAll_70 : decode cX10_passAll 70 = .ok (.iaload, 1) := by decide +kernel
theorem dX10_passAll_71 : decode cX10_passAll 71 = .ok (.invokevirtual 282, 3) := by decide +kernel
theorem dX10_passAll_74 : decode cX10_passAll 74 = .ok (.iastore, 1) := by decide +kernel
theorem dX10_passAll_75 : decode cX10_passAll 75 = .ok (.aload_n 0, 1) := by decide +kernel
theorem dX10_passAll_76 : decode cX10_passAll 76 = .ok (.getfield 25, 3) := by decide +kernel
theorem dX10_passAll_79 : decode cX10_passAll 79 = .ok (.iload_n 1, 1) := by decide +kernel
theorem dX10_passAll_80 : decode cX10_passAll 80 = .ok (.aload_n 0, 1) := by decide +kernel
theorem dX10_passAll_81 : decode cX10_passAll 81 = .ok (.aload_n 0, 1) := by decide +kernel
theorem dX10_passAll_82 : decode cX10_passAll 82 = .ok (.getfield 25, 3) := by decide +kernel
theorem dX10_passAll_85 : decode cX10_passAll 85 = .ok (.iload_n 1, 1) := by decide +kernel
theorem dX10_passAll_86 : decode cX10_passAll 86 = .ok (.iaload, 1) := by decide +kernel
theorem dX10_passAll_87 : decode cX10_passAll 87 = .ok (.invokevirtual 282, 3) := by decide +kernel
theorem dX10_passAll_90 : decode cX10_passAll 90 = .ok (.iastore, 1) := by decide +kernel
theorem dX10_passAll_91 : decode cX10_passAll 91 = .ok (.aload_n 0, 1) := by decide +kernel
theorem dX10_passAll_92 : decode cX10_passAll 92 = .ok (.getfield 28, 3) := by decide +kernel
theorem dX10_passAll_95 : decode cX10_passAll 95 = .ok (.iload_n 1, 1) := by decide +kernel
theorem dX10_passAll_96 : decode cX10_passAll 96 = .ok (.aload_n 0, 1) := by decide +kernel
theorem dX10_passAll_97 : decode cX10_passAll 97 = .ok (.aload_n 0, 1) := by decide +kernel
theorem dX10_passAll_98 : decode cX10_passAll 98 = .ok (.getfield 28, 3) := by decide +kernel
theorem dX10_passAll_101 : decode cX10_passAll 101 = .ok (.iload_n 1, 1) := by decide +kernel
theorem dX10_passAll_102 : decode cX10_passAll 102 = .ok (.iaload, 1) := by decide +kernel
theorem dX10_passAll_103 : decode cX10_passAll 103 = .ok (.invokevirtual 282, 3) := by decide +kernel
theorem dX10_passAll_106 : decode cX10_passAll 106 = .ok (.iastore, 1) := by decide +kernel
theorem dX10_passAll_107 : decode cX10_passAll 107 = .ok (.iinc 1 1, 3) := by decide +kernel
theorem dX10_passAll_110 : decode cX10_passAll 110 = .ok (.goto (-72), 3) := by decide +kernel
theorem dX10_passAll_113 : decode cX10_passAll 113 = .ok (.iconst 0, 1) := by decide +kernel
theorem dX10_passAll_114 : decode cX10_passAll 114 = .ok (.istore_n 1, 1) := by decide +kernel
theorem dX10_passAll_115 : decode cX10_passAll 115 = .ok (.iload_n 1, 1) := by decide +kernel
theorem dX10_passAll_116 : decode cX10_passAll 116 = .ok (.bipush 16, 2) := by decide +kernel
theorem dX10_passAll_118 : decode cX10_passAll 118 = .ok (.if_icmp .ge 25, 3) := by decide +kernel
theorem dX10_passAll_121 : decode cX10_passAll 121 = .ok (.aload_n 0, 1) := by decide +kernel
theorem dX10_passAll_122 : decode cX10_passAll 122 = .ok (.getfield 19, 3) := by decide +kernel
theorem dX10_passAll_125 : decode cX10_passAll 125 = .ok (.iload_n 1, 1) := by decide +kernel
theorem dX10_passAll_126 : decode cX10_passAll 126 = .ok (.aload_n 0, 1) := by decide +kernel
theorem dX10_passAll_127 : decode cX10_passAll 127 = .ok (.aload_n 0, 1) := by decide +kernel
theorem dX10_passAll_128 : decode cX10_passAll 128 = .ok (.getfield 19, 3) := by decide +kernel
theorem dX10_passAll_131 : decode cX10_passAll 131 = .ok (.iload_n 1, 1) := by decide +kernel
theorem dX10_passAll_132 : decode cX10_passAll 132 = .ok (.iaload, 1) := by decide +kernel
theorem dX10_passAll_133 : decode cX10_passAll 133 = .ok (.invokevirtual 282, 3) := by decide +kernel
theorem dX10_passAll_136 : decode cX10_passAll 136 = .ok (.iastore, 1) := by decide +kernel
theorem dX10_passAll_137 : decode cX10_passAll 137 = .ok (.iinc 1 1, 3) := by decide +kernel
theorem dX10_passAll_140 : decode cX10_passAll 140 = .ok (.goto (-25), 3) := by decide +kernel
theorem dX10_passAll_143 : decode cX10_passAll 143 = .ok (.iconst 0, 1) := by decide +kernel
theorem dX10_passAll_144 : decode cX10_passAll 144 = .ok (.istore_n 1, 1) := by decide +kernel
theorem dX10_passAll_145 : decode cX10_passAll 145 = .ok (.iload_n 1, 1) := by decide +kernel
theorem dX10_passAll_146 : decode cX10_passAll 146 = .ok (.bipush 6, 2) := by decide +kernel
theorem dX10_passAll_148 : decode cX10_passAll 148 = .ok (.if_icmp .ge 57, 3) := by decide +kernel
theorem dX10_passAll_151 : decode cX10_passAll 151 = .ok (.aload_n 0, 1) := by decide +kernel
theorem dX10_passAll_152 : decode cX10_passAll 152 = .ok (.getfield 31, 3) := by decide +kernel
theorem dX10_passAll_155 : decode cX10_passAll 155 = .ok (.iload_n 1, 1) := by decide +kernel
theorem dX10_passAll_156 : decode cX10_passAll 156 = .ok (.aload_n 0, 1) := by decide +kernel
theorem dX10_passAll_157 : decode cX10_passAll 157 = .ok (.aload_n 0, 1) := by decide +kernel
theorem dX10_passAll_158 : decode cX10_passAll 158 = .ok (.getfield 31, 3) := by decide +kernel
theorem dX10_passAll_161 : decode cX10_passAll 161 = .ok (.iload_n 1, 1) := by decide +kernel
theorem dX10_passAll_162 : decode cX10_passAll 162 = .ok (.iaload, 1) := by decide +kernel
theorem dX10_passAll_163 : decode cX10_passAll 163 = .ok (.invokevirtual 282, 3) := by decide +kernel
theorem dX10_passAll_166 : decode cX10_passAll 166 = .ok (.iastore, 1) := by decide +kernel
theorem dX10_passAll_167 : decode cX10_passAll 167 = .ok (.aload_n 0, 1) := by decide +kernel
theorem dX10_passAll_168 : decode cX10_passAll 168 = .ok (.getfield 34, 3) := by decide +kernel
theorem dX10_passAll_171 : decode cX10_passAll 171 = .ok (.iload_n 1, 1) := by decide +kernel
theorem dX10_passAll_172 : decode cX10_passAll 172 = .ok (.aload_n 0, 1) := by decide +kernel
theorem dX10_passAll_173 : decode cX10_passAll 173 = .ok (.aload_n 0, 1) := by decide +kernel
theorem dX10_passAll_174 : decode cX10_passAll 174 = .ok (.getfield 34, 3) := by decide +kernel
theorem dX10_passAll_177 : decode cX10_passAll 177 = .ok (.iload_n 1, 1) := by decide +kernel
theorem dX10_passAll_178 : decode cX10_passAll 178 = .ok (.iaload, 1) := by decide +kernel
theorem dX10_passAll_179 : decode cX10_passAll 179 = .ok (.invokevirtual 282, 3) := by decide +kernel
theorem dX10_passAll_182 : decode cX10_passAll 182 = .ok (.iastore, 1) := by decide +kernel
theorem dX10_passAll_183 : decode cX10_passAll 183 = .ok (.aload_n 0, 1) := by decide +kernel
theorem dX10_passAll_184 : decode cX10_passAll 184 = .ok (.getfield 37, 3) := by decide +kernel
theorem dX10_passAll_187 : decode cX10_passAll 187 = .ok (.iload_n 1, 1) := by decide +kernel
theorem dX10_passAll_188 : decode cX10_passAll 188 = .ok (.aload_n 0, 1) := by decide +kernel
theorem dX10_passAll_189 : decode cX10_passAll 189 = .ok (.aload_n 0, 1) := by decide +kernel
theorem dX10_passAll_190 : decode cX10_passAll 190 = .ok (.getfield 37, 3) := by decide +kernel
theorem dX10_passAll_193 : decode cX10_passAll 193 = .ok (.iload_n 1, 1) := by decide +kernel
theorem dX10_passAll_194 : decode cX10_passAll 194 = .ok (.iaload, 1) := by decide +kernel
theorem dX10_passAll_195 : decode cX10_passAll 195 = .ok (.invokevirtual 282, 3) := by decide +kernel
theorem dX10_passAll_198 : decode cX10_passAll 198 = .ok (.iastore, 1) := by decide +kernel
theorem dX10_passAll_199 : decode cX10_passAll 199 = .ok (.iinc 1 1, 3) := by decide +kernel
theorem dX10_passAll_202 : decode cX10_passAll 202 = .ok (.goto (-57), 3) := by decide +kernel
theorem dX10_passAll_205 : decode cX10_passAll 205 = .ok (.return_, 1) := by decide +kernel
theorem dX10_image_0 : decode cX10_image 0 = .ok (.iload_n 1, 1) := by decide +kernel
theorem dX10_image_1 : decode cX10_image 1 = .ok (.i2l, 1) := by decide +kernel
theorem dX10_image_2 : decode cX10_image 2 = .ok (.lconst 0, 1) := by decide +kernel
theorem dX10_image_3 : decode cX10_image 3 = .ok (.lconst 1, 1) := by decide +kernel
theorem dX10_image_4 : decode cX10_image 4 = .ok (.invokestatic 77, 3) := by decide +kernel
theorem dX10_image_7 : decode cX10_image 7 = .ok (.ifCond .ne 6, 3) := by decide +kernel
theorem dX10_image_10 : decode cX10_image 10 = .ok (.bipush (-2), 2) := by decide +kernel
theorem dX10_image_12 : decode cX10_image 12 = .ok (.ireturn, 1) := by decide +kernel
theorem dX10_image_13 : decode cX10_image 13 = .ok (.aload_n 0, 1) := by decide +kernel
theorem dX10_image_14 : decode cX10_image 14 = .ok (.bipush 60, 2) := by decide +kernel
theorem dX10_image_16 : decode cX10_image 16 = .ok (.iload_n 1, 1) := by decide +kernel
theorem dX10_image_17 : decode cX10_image 17 = .ok (.imul, 1) := by decide +kernel
theorem dX10_image_18 : decode cX10_image 18 = .ok (.putfield 279, 3) := by decide +kernel
theorem dX10_image_21 : decode cX10_image 21 = .ok (.aload_n 0, 1) := by decide +kernel
theorem dX10_image_22 : decode cX10_image 22 = .ok (.iconst 1, 1) := by decide +kernel
theorem dX10_image_23 : decode cX10_image 23 = .ok (.putfield 275, 3) := by decide +kernel
theorem dX10_image_26 : decode cX10_image 26 = .ok (.aload_n 0, 1) := by decide +kernel
theorem dX10_image_27 : decode cX10_image 27 = .ok (.invokevirtual 285, 3) := by decide +kernel
theorem dX10_image_30 : decode cX10_image 30 = .ok (.aload_n 0, 1) := by decide +kernel
theorem dX10_image_31 : decode cX10_image 31 = .ok (.getfield 68, 3) := by decide +kernel
theorem dX10_image_34 : decode cX10_image 34 = .ok (.iload_n 1, 1) := by decide +kernel
theorem dX10_image_35 : decode cX10_image 35 = .ok (.iconst 1, 1) := by decide +kernel
theorem dX10_image_36 : decode cX10_image 36 = .ok (.bastore, 1) := by decide +kernel
theorem dX10_image_37 : decode cX10_image 37 = .ok (.iconst 1, 1) := by decide +kernel
theorem dX10_image_38 : decode cX10_image 38 = .ok (.ireturn, 1) := by decide +kernel
theorem dX10_restore_0 : decode cX10_restore 0 = .ok (.iload_n 1, 1) := by decide +kernel
theorem dX10_restore_1 : decode cX10_restore 1 = .ok (.i2l, 1) := by decide +kernel
theorem dX10_restore_2 : decode cX10_restore 2 = .ok (.lconst 0, 1) := by decide +kernel
theorem dX10_restore_3 : decode cX10_restore 3 = .ok (.lconst 1, 1) := by decide +kernel
theorem dX10_restore_4 : decode cX10_restore 4 = .ok (.invokestatic 77, 3) := by decide +kernel
theorem dX10_restore_7 : decode cX10_restore 7 = .ok (.ifCond .ne 6, 3) := by decide +kernel
theorem dX10_restore_10 : decode cX10_restore 10 = .ok (.bipush (-2), 2) := by decide +kernel
theorem dX10_restore_12 : decode cX10_restore 12 = .ok (.ireturn, 1) := by decide +kernel
theorem dX10_restore_13 : decode cX10_restore 13 = .ok (.aload_n 0, 1) := by decide +kernel
theorem dX10_restore_14 : decode cX10_restore 14 = .ok (.getfield 68, 3) := by decide +kernel
theorem dX10_restore_17 : decode cX10_restore 17 = .ok (.iload_n 1, 1) := by decide +kernel
theorem dX10_restore_18 : decode cX10_restore 18 = .ok (.baload, 1) := by decide +kernel
theorem dX10_restore_19 : decode cX10_restore 19 = .ok (.ifCond .ne 6, 3) := by decide +kernel
theorem dX10_restore_22 : decode cX10_restore 22 = .ok (.bipush (-3), 2) := by decide +kernel
theorem dX10_restore_24 : decode cX10_restore 24 = .ok (.ireturn, 1) := by decide +kernel
theorem dX10_restore_25 : decode cX10_restore 25 = .ok (.aload_n 0, 1) := by decide +kernel
theorem dX10_restore_26 : decode cX10_restore 26 = .ok (.bipush 60, 2) := by decide +kernel
theorem dX10_restore_28 : decode cX10_restore 28 = .ok (.iload_n 1, 1) := by decide +kernel
theorem dX10_restore_29 : decode cX10_restore 29 = .ok (.imul, 1) := by decide +kernel
theorem dX10_restore_30 : decode cX10_restore 30 = .ok (.putfield 279, 3) := by decide +kernel
theorem dX10_restore_33 : decode cX10_restore 33 = .ok (.aload_n 0, 1) := by decide +kernel
theorem dX10_restore_34 : decode cX10_restore 34 = .ok (.iconst 0, 1) := by decide +kernel
theorem dX10_restore_35 : decode cX10_restore 35 = .ok (.putfield 275, 3) := by decide +kernel
theorem dX10_restore_38 : decode cX10_restore 38 = .ok (.aload_n 0, 1) := by decide +kernel
theorem dX10_restore_39 : decode cX10_restore 39 = .ok (.invokevirtual 285, 3) := by decide +kernel
theorem dX10_restore_42 : decode cX10_restore 42 = .ok (.iconst 1, 1) := by decide +kernel
theorem dX10_restore_43 : decode cX10_restore 43 = .ok (.ireturn, 1) := by decide +kernel
theorem dX10_told_0 : decode cX10_told 0 = .ok (.iload_n 1, 1) := by decide +kernel
theorem dX10_told_1 : decode cX10_told 1 = .ok (.i2l, 1) := by decide +kernel
theorem dX10_told_2 : decode cX10_told 2 = .ok (.ldc2_w 111, 3) := by decide +kernel
theorem dX10_told_5 : decode cX10_told 5 = .ok (.ldc2_w 113, 3) := by decide +kernel
theorem dX10_told_8 : decode cX10_told 8 = .ok (.invokestatic 77, 3) := by decide +kernel
theorem dX10_told_11 : decode cX10_told 11 = .ok (.ifCond .eq 13, 3) := by decide +kernel
theorem dX10_told_14 : decode cX10_told 14 = .ok (.aload_n 0, 1) := by decide +kernel
theorem dX10_told_15 : decode cX10_told 15 = .ok (.getfield 25, 3) := by decide +kernel
theorem dX10_told_18 : decode cX10_told 18 = .ok (.iload_n 1, 1) := by decide +kernel
theorem dX10_told_19 : decode cX10_told 19 = .ok (.bipush 10, 2) := by decide +kernel
theorem dX10_told_21 : decode cX10_told 21 = .ok (.isub, 1) := by decide +kernel
theorem dX10_told_22 : decode cX10_told 22 = .ok (.iaload, 1) := by decide +kernel
theorem dX10_told_23 : decode cX10_told 23 = .ok (.ireturn, 1) := by decide +kernel
theorem dX10_told_24 : decode cX10_told 24 = .ok (.iload_n 1, 1) := by decide +kernel
theorem dX10_told_25 : decode cX10_told 25 = .ok (.i2l, 1) := by decide +kernel
theorem dX10_told_26 : decode cX10_told 26 = .ok (.ldc2_w 288, 3) := by decide +kernel
theorem dX10_told_29 : decode cX10_told 29 = .ok (.ldc2_w 290, 3) := by decide +kernel
theorem dX10_told_32 : decode cX10_told 32 = .ok (.invokestatic 77, 3) := by decide +kernel
theorem dX10_told_35 : decode cX10_told 35 = .ok (.ifCond .eq 13, 3) := by decide +kernel
theorem dX10_told_38 : decode cX10_told 38 = .ok (.aload_n 0, 1) := by decide +kernel
theorem dX10_told_39 : decode cX10_told 39 = .ok (.getfield 28, 3) := by decide +kernel
theorem dX10_told_42 : decode cX10_told 42 = .ok (.iload_n 1, 1) := by decide +kernel
theorem dX10_told_43 : decode cX10_told 43 = .ok (.bipush 20, 2) := by decide +kernel
theorem dX10_told_45 : decode cX10_told 45 = .ok (.isub, 1) := by decide +kernel
theorem dX10_told_46 : decode cX10_told 46 = .ok (.iaload, 1) := by decide +kernel
theorem dX10_told_47 : decode cX10_told 47 = .ok (.ireturn, 1) := by decide +kernel
theorem dX10_told_48 : decode cX10_told 48 = .ok (.iload_n 1, 1) := by decide +kernel
theorem dX10_told_49 : decode cX10_told 49 = .ok (.i2l, 1) := by decide +kernel
theorem dX10_told_50 : decode cX10_told 50 = .ok (.ldc2_w 292, 3) := by decide +kernel
theorem dX10_told_53 : decode cX10_told 53 = .ok (.ldc2_w 294, 3) := by decide +kernel
theorem dX10_told_56 : decode cX10_told 56 = .ok (.invokestatic 77, 3) := by decide +kernel
theorem dX10_told_59 : decode cX10_told 59 = .ok (.ifCond .eq 48, 3) := by decide +kernel
theorem dX10_told_62 : decode cX10_told 62 = .ok (.iload_n 1, 1) := by decide +kernel
theorem dX10_told_63 : decode cX10_told 63 = .ok (.bipush 30, 2) := by decide +kernel
theorem dX10_told_65 : decode cX10_told 65 = .ok (.isub, 1) := by decide +kernel
theorem dX10_told_66 : decode cX10_told 66 = .ok (.istore_n 2, 1) := by decide +kernel
theorem dX10_told_67 : decode cX10_told 67 = .ok (.iload_n 2, 1) := by decide +kernel
theorem dX10_told_68 : decode cX10_told 68 = .ok (.aload_n 0, 1) := by decide +kernel
theorem dX10_told_69 : decode cX10_told 69 = .ok (.getfield 104, 3) := by decide +kernel
theorem dX10_told_72 : decode cX10_told 72 = .ok (.if_icmp .ge 32, 3) := by decide +kernel
theorem dX10_told_75 : decode cX10_told 75 = .ok (.bipush 100, 2) := by decide +kernel
theorem dX10_told_77 : decode cX10_told 77 = .ok (.aload_n 0, 1) := by decide +kernel
theorem dX10_told_78 : decode cX10_told 78 = .ok (.getfield 31, 3) := by decide +kernel
theorem dX10_told_81 : decode cX10_told 81 = .ok (.iload_n 2, 1) := by decide +kernel
theorem dX10_told_82 : decode cX10_told 82 = .ok (.iaload, 1) := by decide +kernel
theorem dX10_told_83 : decode cX10_told 83 = .ok (.imul, 1) := by decide +kernel
theorem dX10_told_84 : decode cX10_told 84 = .ok (.bipush 10, 2) := by decide +kernel
theorem dX10_told_86 : decode cX10_told 86 = .ok (.aload_n 0, 1) := by decide +kernel
theorem dX10_told_87 : decode cX10_told 87 = .ok (.getfield 34, 3) := by decide +kernel
theorem dX10_told_90 : decode cX10_told 90 = .ok (.iload_n 2, 1) := by decide +kernel
theorem dX10_told_91 : decode cX10_told 91 = .ok (.iaload, 1) := by decide +kernel
theorem dX10_told_92 : decode cX10_told 92 = .ok (.imul, 1) := by decide +kernel
theorem dX10_told_93 : decode cX10_told 93 = .ok (.iadd, 1) := by decide +kernel
theorem dX10_told_94 : decode cX10_told 94 = .ok (.aload_n 0, 1) := by decide +kernel
theorem dX10_told_95 : decode cX10_told 95 = .ok (.getfield 37, 3) := by decide +kernel
theorem dX10_told_98 : decode cX10_told 98 = .ok (.iload_n 2, 1) := by decide +kernel
theorem dX10_told_99 : decode cX10_told 99 = .ok (.iaload, 1) := by decide +kernel
theorem dX10_told_100 : decode cX10_told 100 = .ok (.iadd, 1) := by decide +kernel
theorem dX10_told_101 : decode cX10_told 101 = .ok (.goto 5, 3) := by decide +kernel
theorem dX10_told_104 : decode cX10_told 104 = .ok (.bipush (-6), 2) := by decide +kernel
theorem dX10_told_106 : decode cX10_told 106 = .ok (.ireturn, 1) := by decide +kernel
theorem dX10_told_107 : decode cX10_told 107 = .ok (.iload_n 1, 1) := by decide +kernel
theorem dX10_told_108 : decode cX10_told 108 = .ok (.ifCond .ne 10, 3) := by decide +kernel
theorem dX10_told_111 : decode cX10_told 111 = .ok (.aload_n 0, 1) := by decide +kernel
theorem dX10_told_112 : decode cX10_told 112 = .ok (.getfield 85, 3) := by decide +kernel
theorem dX10_told_115 : decode cX10_told 115 = .ok (.goto 41, 3) := by decide +kernel
theorem dX10_told_118 : decode cX10_told 118 = .ok (.iload_n 1, 1) := by decide +kernel
theorem dX10_told_119 : decode cX10_told 119 = .ok (.iconst 1, 1) := by decide +kernel
theorem dX10_told_120 : decode cX10_told 120 = .ok (.if_icmp .ne 10, 3) := by decide +kernel
theorem dX10_told_123 : decode cX10_told 123 = .ok (.aload_n 0, 1) := by decide +kernel
theorem dX10_told_124 : decode cX10_told 124 = .ok (.getfield 104, 3) := by decide +kernel
theorem dX10_told_127 : decode cX10_told 127 = .ok (.goto 29, 3) := by decide +kernel
theorem dX10_told_130 : decode cX10_told 130 = .ok (.iload_n 1, 1) := by decide +kernel
theorem dX10_told_131 : decode cX10_told 131 = .ok (.iconst 2, 1) := by decide +kernel
theorem dX10_told_132 : decode cX10_told 132 = .ok (.if_icmp .ne 10, 3) := by decide +kernel
theorem dX10_told_135 : decode cX10_told 135 = .ok (.aload_n 0, 1) := by decide +kernel
theorem dX10_told_136 : decode cX10_told 136 = .ok (.getfield 124, 3) := by decide +kernel
theorem dX10_told_139 : decode cX10_told 139 = .ok (.goto 17, 3) := by decide +kernel
theorem dX10_told_142 : decode cX10_told 142 = .ok (.iload_n 1, 1) := by decide +kernel
theorem dX10_told_143 : decode cX10_told 143 = .ok (.iconst 3, 1) := by decide +kernel
theorem dX10_told_144 : decode cX10_told 144 = .ok (.if_icmp .ne 10, 3) := by decide +kernel
theorem dX10_told_147 : decode cX10_told 147 = .ok (.aload_n 0, 1) := by decide +kernel
theorem dX10_told_148 : decode cX10_told 148 = .ok (.getfield 127, 3) := by decide +kernel
theorem dX10_told_151 : decode cX10_told 151 = .ok (.goto 5, 3) := by decide +kernel
theorem dX10_told_154 : decode cX10_told 154 = .ok (.bipush (-2), 2) := by decide +kernel
theorem dX10_told_156 : decode cX10_told 156 = .ok (.ireturn, 1) := by decide +kernel
theorem dJ6_bitCount_0f7a4_0 : decode cJ6_bitCount_0f7a4 0 = .ok (.iload_n 0, 1) := by decide +kernel
theorem dJ6_bitCount_0f7a4_1 : decode cJ6_bitCount_0f7a4 1 = .ok (.iload_n 0, 1) := by decide +kernel
theorem dJ6_bitCount_0f7a4_2 : decode cJ6_bitCount_0f7a4 2 = .ok (.iconst 1, 1) := by decide +kernel
theorem dJ6_bitCount_0f7a4_3 : decode cJ6_bitCount_0f7a4 3 = .ok (.iushr, 1) := by decide +kernel
theorem dJ6_bitCount_0f7a4_4 : decode cJ6_bitCount_0f7a4 4 = .ok (.ldc_w 265, 3) := by decide +kernel
theorem dJ6_bitCount_0f7a4_7 : decode cJ6_bitCount_0f7a4 7 = .ok (.iand, 1) := by decide +kernel
theorem dJ6_bitCount_0f7a4_8 : decode cJ6_bitCount_0f7a4 8 = .ok (.isub, 1) := by decide +kernel
theorem dJ6_bitCount_0f7a4_9 : decode cJ6_bitCount_0f7a4 9 = .ok (.istore_n 0, 1) := by decide +kernel
theorem dJ6_bitCount_0f7a4_10 : decode cJ6_bitCount_0f7a4 10 = .ok (.iload_n 0, 1) := by decide +kernel
theorem dJ6_bitCount_0f7a4_11 : decode cJ6_bitCount_0f7a4 11 = .ok (.ldc_w 266, 3) := by decide +kernel
theorem dJ6_bitCount_0f7a4_14 : decode cJ6_bitCount_0f7a4 14 = .ok (.iand, 1) := by decide +kernel
theorem dJ6_bitCount_0f7a4_15 : decode cJ6_bitCount_0f7a4 15 = .ok (.iload_n 0, 1) := by decide +kernel
theorem dJ6_bitCount_0f7a4_16 : decode cJ6_bitCount_0f7a4 16 = .ok (.iconst 2, 1) := by decide +kernel
theorem dJ6_bitCount_0f7a4_17 : decode cJ6_bitCount_0f7a4 17 = .ok (.iushr, 1) := by decide +kernel
theorem dJ6_bitCount_0f7a4_18 : decode cJ6_bitCount_0f7a4 18 = .ok (.ldc_w 266, 3) := by decide +kernel
theorem dJ6_bitCount_0f7a4_21 : decode cJ6_bitCount_0f7a4 21 = .ok (.iand, 1) := by decide +kernel
theorem dJ6_bitCount_0f7a4_22 : decode cJ6_bitCount_0f7a4 22 = .ok (.iadd, 1) := by decide +kernel
theorem dJ6_bitCount_0f7a4_23 : decode cJ6_bitCount_0f7a4 23 = .ok (.istore_n 0, 1) := by decide +kernel
theorem dJ6_bitCount_0f7a4_24 : decode cJ6_bitCount_0f7a4 24 = .ok (.iload_n 0, 1) := by decide +kernel
theorem dJ6_bitCount_0f7a4_25 : decode cJ6_bitCount_0f7a4 25 = .ok (.iload_n 0, 1) := by decide +kernel
theorem dJ6_bitCount_0f7a4_26 : decode cJ6_bitCount_0f7a4 26 = .ok (.iconst 4, 1) := by decide +kernel
theorem dJ6_bitCount_0f7a4_27 : decode cJ6_bitCount_0f7a4 27 = .ok (.iushr, 1) := by decide +kernel
theorem dJ6_bitCount_0f7a4_28 : decode cJ6_bitCount_0f7a4 28 = .ok (.iadd, 1) := by decide +kernel
theorem dJ6_bitCount_0f7a4_29 : decode cJ6_bitCount_0f7a4 29 = .ok (.ldc_w 267, 3) := by decide +kernel
theorem dJ6_bitCount_0f7a4_32 : decode cJ6_bitCount_0f7a4 32 = .ok (.iand, 1) := by decide +kernel
theorem dJ6_bitCount_0f7a4_33 : decode cJ6_bitCount_0f7a4 33 = .ok (.istore_n 0, 1) := by decide +kernel
theorem dJ6_bitCount_0f7a4_34 : decode cJ6_bitCount_0f7a4 34 = .ok (.iload_n 0, 1) := by decide +kernel
theorem dJ6_bitCount_0f7a4_35 : decode cJ6_bitCount_0f7a4 35 = .ok (.iload_n 0, 1) := by decide +kernel
theorem dJ6_bitCount_0f7a4_36 : decode cJ6_bitCount_0f7a4 36 = .ok (.bipush 8, 2) := by decide +kernel
theorem dJ6_bitCount_0f7a4_38 : decode cJ6_bitCount_0f7a4 38 = .ok (.iushr, 1) := by decide +kernel
theorem dJ6_bitCount_0f7a4_39 : decode cJ6_bitCount_0f7a4 39 = .ok (.iadd, 1) := by decide +kernel
theorem dJ6_bitCount_0f7a4_40 : decode cJ6_bitCount_0f7a4 40 = .ok (.istore_n 0, 1) := by decide +kernel
theorem dJ6_bitCount_0f7a4_41 : decode cJ6_bitCount_0f7a4 41 = .ok (.iload_n 0, 1) := by decide +kernel
theorem dJ6_bitCount_0f7a4_42 : decode cJ6_bitCount_0f7a4 42 = .ok (.iload_n 0, 1) := by decide +kernel
theorem dJ6_bitCount_0f7a4_43 : decode cJ6_bitCount_0f7a4 43 = .ok (.bipush 16, 2) := by decide +kernel
theorem dJ6_bitCount_0f7a4_45 : decode cJ6_bitCount_0f7a4 45 = .ok (.iushr, 1) := by decide +kernel
theorem dJ6_bitCount_0f7a4_46 : decode cJ6_bitCount_0f7a4 46 = .ok (.iadd, 1) := by decide +kernel
theorem dJ6_bitCount_0f7a4_47 : decode cJ6_bitCount_0f7a4 47 = .ok (.istore_n 0, 1) := by decide +kernel
theorem dJ6_bitCount_0f7a4_48 : decode cJ6_bitCount_0f7a4 48 = .ok (.iload_n 0, 1) := by decide +kernel
theorem dJ6_bitCount_0f7a4_49 : decode cJ6_bitCount_0f7a4 49 = .ok (.bipush 63, 2) := by decide +kernel
theorem dJ6_bitCount_0f7a4_51 : decode cJ6_bitCount_0f7a4 51 = .ok (.iand, 1) := by decide +kernel
theorem dJ6_bitCount_0f7a4_52 : decode cJ6_bitCount_0f7a4 52 = .ok (.ireturn, 1) := by decide +kernel
theorem dJ9_max_7cf53_0 : decode cJ9_max_7cf53 0 = .ok (.iload_n 0, 1) := by decide +kernel
theorem dJ9_max_7cf53_1 : decode cJ9_max_7cf53 1 = .ok (.iload_n 1, 1) := by decide +kernel
theorem dJ9_max_7cf53_2 : decode cJ9_max_7cf53 2 = .ok (.if_icmp .lt 7, 3) := by decide +kernel
theorem dJ9_max_7cf53_5 : decode cJ9_max_7cf53 5 = .ok (.iload_n 0, 1) := by decide +kernel
theorem dJ9_max_7cf53_6 : decode cJ9_max_7cf53 6 = .ok (.goto 4, 3) := by decide +kernel
theorem dJ9_max_7cf53_9 : decode cJ9_max_7cf53 9 = .ok (.iload_n 1, 1) := by decide +kernel
theorem dJ9_max_7cf53_10 : decode cJ9_max_7cf53 10 = .ok (.ireturn, 1) := by decide +kernel
theorem dJ9_min_7cf53_0 : decode cJ9_min_7cf53 0 = .ok (.iload_n 0, 1) := by decide +kernel
theorem dJ9_min_7cf53_1 : decode cJ9_min_7cf53 1 = .ok (.iload_n 1, 1) := by decide +kernel
theorem dJ9_min_7cf53_2 : decode cJ9_min_7cf53 2 = .ok (.if_icmp .gt 7, 3) := by decide +kernel
theorem dJ9_min_7cf53_5 : decode cJ9_min_7cf53 5 = .ok (.iload_n 0, 1) := by decide +kernel
theorem dJ9_min_7cf53_6 : decode cJ9_min_7cf53 6 = .ok (.goto 4, 3) := by decide +kernel
theorem dJ9_min_7cf53_9 : decode cJ9_min_7cf53 9 = .ok (.iload_n 1, 1) := by decide +kernel
theorem dJ9_min_7cf53_10 : decode cJ9_min_7cf53 10 = .ok (.ireturn, 1) := by decide +kernel
theorem dL_law_0 : decode cL_law 0 = .ok (.new 7, 3) := by decide +kernel
theorem dL_law_3 : decode cL_law 3 = .ok (.dup, 1) := by decide +kernel
theorem dL_law_4 : decode cL_law 4 = .ok (.invokespecial 9, 3) := by decide +kernel
theorem dL_law_7 : decode cL_law 7 = .ok (.astore_n 1, 1) := by decide +kernel
theorem dL_law_8 : decode cL_law 8 = .ok (.new 10, 3) := by decide +kernel
theorem dL_law_11 : decode cL_law 11 = .ok (.dup, 1) := by decide +kernel
theorem dL_law_12 : decode cL_law 12 = .ok (.invokespecial 12, 3) := by decide +kernel
theorem dL_law_15 : decode cL_law 15 = .ok (.astore_n 2, 1) := by decide +kernel
theorem dL_law_16 : decode cL_law 16 = .ok (.iconst 0, 1) := by decide +kernel
theorem dL_law_17 : decode cL_law 17 = .ok (.istore_n 3, 1) := by decide +kernel
theorem dL_law_18 : decode cL_law 18 = .ok (.iload_n 3, 1) := by decide +kernel
theorem dL_law_19 : decode cL_law 19 = .ok (.aload_n 0, 1) := by decide +kernel
theorem dL_law_20 : decode cL_law 20 = .ok (.arraylength, 1) := by decide +kernel
theorem dL_law_21 : decode cL_law 21 = .ok (.iconst 5, 1) := by decide +kernel
theorem dL_law_22 : decode cL_law 22 = .ok (.isub, 1) := by decide +kernel
theorem dL_law_23 : decode cL_law 23 = .ok (.if_icmp .gt 836, 3) := by decide +kernel
theorem dL_law_26 : decode cL_law 26 = .ok (.aload_n 0, 1) := by decide +kernel
theorem dL_law_27 : decode cL_law 27 = .ok (.iload_n 3, 1) := by decide +kernel
theorem dL_law_28 : decode cL_law 28 = .ok (.iaload, 1) := by decide +kernel
theorem dL_law_29 : decode cL_law 29 = .ok (.bipush 31, 2) := by decide +kernel
theorem dL_law_31 : decode cL_law 31 = .ok (.iand, 1) := by decide +kernel
theorem dL_law_32 : decode cL_law 32 = .ok (.tableswitch 821 0 24 #[116, 139, 152, 175, 198, 231, 264, 297, 340, 363, 396, 419, 442, 475, 518, 571, 624, 637, 660, 673, 696, 719, 752, 775, 798], 116) := by decide +kernel
theorem dL_law_148 : decode cL_law 148 = .ok (.aload_n 1, 1) := by decide +kernel
theorem dL_law_149 : decode cL_law 149 = .ok (.aload_n 0, 1) := by decide +kernel
theorem dL_law_150 : decode cL_law 150 = .ok (.iload_n 3, 1) := by decide +kernel
theorem dL_law_151 : decode cL_law 151 = .ok (.iconst 1, 1) := by decide +kernel
theorem dL_law_152 : decode cL_law 152 = .ok (.iadd, 1) := by decide +kernel
theorem dL_law_153 : decode cL_law 153 = .ok (.iaload, 1) := by decide +kernel
theorem dL_law_154 : decode cL_law 154 = .ok (.invokevirtual 13, 3) := by decide +kernel
theorem dL_law_157 : decode cL_law 157 = .ok (.pop, 1) := by decide +kernel
theorem dL_law_158 : decode cL_law 158 = .ok (.aload_n 2, 1) := by decide +kernel
theorem dL_law_159 : decode cL_law 159 = .ok (.aload_n 0, 1) := by decide +kernel
theorem dL_law_160 : decode cL_law 160 = .ok (.iload_n 3, 1) := by decide +kernel
theorem dL_law_161 : decode cL_law 161 = .ok (.iconst 1, 1) := by decide +kernel
theorem dL_law_162 : decode cL_law 162 = .ok (.iadd, 1) := by decide +kernel
theorem dL_law_163 : decode cL_law 163 = .ok (.iaload, 1) := by decide +kernel
theorem dL_law_164 : decode cL_law 164 = .ok (.invokevirtual 17, 3) := by decide +kernel
theorem dL_law_167 : decode cL_law 167 = .ok (.pop, 1) := by decide +kernel
theorem dL_law_168 : decode cL_law 168 = .ok (.goto 685, 3) := by decide +kernel
theorem dL_law_171 : decode cL_law 171 = .ok (.aload_n 1, 1) := by decide +kernel
theorem dL_law_172 : decode cL_law 172 = .ok (.invokevirtual 18, 3) := by decide +kernel
theorem dL_law_175 : decode cL_law 175 = .ok (.pop, 1) := by decide +kernel
theorem dL_law_176 : decode cL_law 176 = .ok (.aload_n 2, 1) := by decide +kernel
theorem dL_law_177 : decode cL_law 177 = .ok (.invokevirtual 22, 3) := by decide +kernel
theorem dL_law_180 : decode cL_law 180 = .ok (.pop, 1) := by decide +kernel
theorem dL_law_181 : decode cL_law 181 = .ok (.goto 672, 3) := by decide +kernel
theorem dL_law_184 : decode cL_law 184 = .ok (.aload_n 1, 1) := by decide +kernel
theorem dL_law_185 : decode cL_law 185 = .ok (.aload_n 0, 1) := by decide +kernel
theorem dL_law_186 : decode cL_law 186 = .ok (.iload_n 3, 1) := by decide +kernel
theorem dL_law_187 : decode cL_law 187 = .ok (.iconst 1, 1) := by decide +kernel
theorem dL_law_188 : decode cL_law 188 = .ok (.iadd, 1) := by decide +kernel
theorem dL_law_189 : decode cL_law 189 = .ok (.iaload, 1) := by decide +kernel
theorem dL_law_190 : decode cL_law 190 = .ok (.invokevirtual 23, 3) := by decide +kernel
theorem dL_law_193 : decode cL_law 193 = .ok (.pop, 1) := by decide +kernel
theorem dL_law_194 : decode cL_law 194 = .ok (.aload_n 2, 1) := by decide +kernel
theorem dL_law_195 : decode cL_law 195 = .ok (.aload_n 0, 1) := by decide +kernel
theorem dL_law_196 : decode cL_law 196 = .ok (.iload_n 3, 1) := by decide +kernel
theorem dL_law_197 : decode cL_law 197 = .ok (.iconst 1, 1) := by decide +kernel
theorem dL_law_198 : decode cL_law 198 = .ok (.iadd, 1) := by decide +kernel
theorem dL_law_199 : decode cL_law 199 = .ok (.iaload, 1) := by decide +kernel
theorem dL_law_200 : decode cL_law 200 = .ok (.invokevirtual 26, 3) := by decide +kernel
theorem dL_law_203 : decode cL_law 203 = .ok (.pop, 1) := by decide +kernel
theorem dL_law_204 : decode cL_law 204 = .ok (.goto 649, 3) := by decide +kernel
theorem dL_law_207 : decode cL_law 207 = .ok (.aload_n 1, 1) := by decide +kernel
theorem dL_law_208 : decode cL_law 208 = .ok (.aload_n 0, 1) := by decide +kernel
theorem dL_law_209 : decode cL_law 209 = .ok (.iload_n 3, 1) := by decide +kernel
theorem dL_law_210 : decode cL_law 210 = .ok (.iconst 1, 1) := by decide +kernel
theorem dL_law_211 : decode cL_law 211 = .ok (.iadd, 1) := by decide +kernel
theorem dL_law_212 : decode cL_law 212 = .ok (.iaload, 1) := by decide +kernel
theorem dL_law_213 : decode cL_law 213 = .ok (.invokevirtual 27, 3) := by decide +kernel
theorem dL_law_216 : decode cL_law 216 = .ok (.pop, 1) := by decide +kernel
theorem dL_law_217 : decode cL_law 217 = .ok (.aload_n 2, 1) := by decide +kernel
theorem dL_law_218 : decode cL_law 218 = .ok (.aload_n 0, 1) := by decide +kernel
theorem dL_law_219 : decode cL_law 219 = .ok (.iload_n 3, 1) := by decide +kernel
theorem dL_law_220 : decode cL_law 220 = .ok (.iconst 1, 1) := by decide +kernel
theorem dL_law_221 : decode cL_law 221 = .ok (.iadd, 1) := by decide +kernel
theorem dL_law_222 : decode cL_law 222 = .ok (.iaload, 1) := by decide +kernel
theorem dL_law_223 : decode cL_law 223 = .ok (.invokevirtual 30, 3) := by decide +kernel
theorem dL_law_226 : decode cL_law 226 = .ok (.pop, 1) := by decide +kernel
theorem dL_law_227 : decode cL_law 227 = .ok (.goto 626, 3) := by decide +kernel
theorem dL_law_230 : decode cL_law 230 = .ok (.aload_n 1, 1) := by decide +kernel
theorem dL_law_231 : decode cL_law 231 = .ok (.aload_n 0, 1) := by decide +kernel
theorem dL_law_232 : decode cL_law 232 = .ok (.iload_n 3, 1) := by decide +kernel
theorem dL_law_233 : decode cL_law 233 = .ok (.iconst 1, 1) := by decide +kernel
theorem dL_law_234 : decode cL_law 234 = .ok (.iadd, 1) := by decide +kernel
theorem dL_law_235 : decode cL_law 235 = .ok (.iaload, 1) := by decide +kernel
theorem dL_law_236 : decode cL_law 236 = .ok (.aload_n 0, 1) := by decide +kernel
theorem dL_law_237 : decode cL_law 237 = .ok (.iload_n 3, 1) := by decide +kernel
theorem dL_law_238 : decode cL_law 238 = .ok (.iconst 2, 1) := by decide +kernel
theorem dL_law_239 : decode cL_law 239 = .ok (.iadd, 1) := by decide +kernel
theorem dL_law_240 : decode cL_law 240 = .ok (.iaload, 1) := by decide +kernel
theorem dL_law_241 : decode cL_law 241 = .ok (.invokevirtual 31, 3) := by decide +kernel
theorem dL_law_244 : decode cL_law 244 = .ok (.pop, 1) := by decide +kernel
theorem dL_law_245 : decode cL_law 245 = .ok (.aload_n 2, 1) := by decide +kernel
theorem dL_law_246 : decode cL_law 246 = .ok (.aload_n 0, 1) := by decide +kernel
theorem dL_law_247 : decode cL_law 247 = .ok (.iload_n 3, 1) := by decide +kernel
theorem dL_law_248 : decode cL_law 248 = .ok (.iconst 1, 1) := by decide +kernel
theorem dL_law_249 : decode cL_law 249 = .ok (.iadd, 1) := by decide +kernel
theorem dL_law_250 : decode cL_law 250 = .ok (.iaload, 1) := by decide +kernel
theorem dL_law_251 : decode cL_law 251 = .ok (.aload_n 0, 1) := by decide +kernel
theorem dL_law_252 : decode cL_law 252 = .ok (.iload_n 3, 1) := by decide +kernel
theorem dL_law_253 : decode cL_law 253 = .ok (.iconst 2, 1) := by decide +kernel
theorem dL_law_254 : decode cL_law 254 = .ok (.iadd, 1) := by decide +kernel
theorem dL_law_255 : decode cL_law 255 = .ok (.iaload, 1) := by decide +kernel
theorem dL_law_256 : decode cL_law 256 = .ok (.invokevirtual 35, 3) := by decide +kernel
theorem dL_law_259 : decode cL_law 259 = .ok (.pop, 1) := by decide +kernel
theorem dL_law_260 : decode cL_law 260 = .ok (.goto 593, 3) := by decide +kernel
theorem dL_law_263 : decode cL_law 263 = .ok (.aload_n 1, 1) := by decide +kernel
theorem dL_law_264 : decode cL_law 264 = .ok (.aload_n 0, 1) := by decide +kernel
theorem dL_law_265 : decode cL_law 265 = .ok (.iload_n 3, 1) := by decide +kernel
theorem dL_law_266 : decode cL_law 266 = .ok (.iconst 1, 1) := by decide +kernel
theorem dL_law_267 : decode cL_law 267 = .ok (.iadd, 1) := by decide +kernel
theorem dL_law_268 : decode cL_law 268 = .ok (.iaload, 1) := by decide +kernel
theorem dL_law_269 : decode cL_law 269 = .ok (.aload_n 0, 1) := by decide +kernel
theorem dL_law_270 : decode cL_law 270 = .ok (.iload_n 3, 1) := by decide +kernel
theorem dL_law_271 : decode cL_law 271 = .ok (.iconst 2, 1) := by decide +kernel
theorem dL_law_272 : decode cL_law 272 = .ok (.iadd, 1) := by decide +kernel
theorem dL_law_273 : decode cL_law 273 = .ok (.iaload, 1) := by decide +kernel
theorem dL_law_274 : decode cL_law 274 = .ok (.invokevirtual 36, 3) := by decide +kernel
theorem dL_law_277 : decode cL_law 277 = .ok (.pop, 1) := by decide +kernel
theorem dL_law_278 : decode cL_law 278 = .ok (.aload_n 2, 1) := by decide +kernel
theorem dL_law_279 : decode cL_law 279 = .ok (.aload_n 0, 1) := by decide +kernel
theorem dL_law_280 : decode cL_law 280 = .ok (.iload_n 3, 1) := by decide +kernel
theorem dL_law_281 : decode cL_law 281 = .ok (.iconst 1, 1) := by decide +kernel
theorem dL_law_282 : decode cL_law 282 = .ok (.iadd, 1) := by decide +kernel
theorem dL_law_283 : decode cL_law 283 = .ok (.iaload, 1) := by decide +kernel
theorem dL_law_284 : decode cL_law 284 = .ok (.aload_n 0, 1) := by decide +kernel
theorem dL_law_285 : decode cL_law 285 = .ok (.iload_n 3, 1) := by decide +kernel
theorem dL_law_286 : decode cL_law 286 = .ok (.iconst 2, 1) := by decide +kernel
theorem dL_law_287 : decode cL_law 287 = .ok (.iadd, 1) := by decide +kernel
theorem dL_law_288 : decode cL_law 288 = .ok (.iaload, 1) := by decide +kernel
theorem dL_law_289 : decode cL_law 289 = .ok (.invokevirtual 39, 3) := by decide +kernel
theorem dL_law_292 : decode cL_law 292 = .ok (.pop, 1) := by decide +kernel
theorem dL_law_293 : decode cL_law 293 = .ok (.goto 560, 3) := by decide +kernel
theorem dL_law_296 : decode cL_law 296 = .ok (.aload_n 1, 1) := by decide +kernel
theorem dL_law_297 : decode cL_law 297 = .ok (.aload_n 0, 1) := by decide +kernel
theorem dL_law_298 : decode cL_law 298 = .ok (.iload_n 3, 1) := by decide +kernel
theorem dL_law_299 : decode cL_law 299 = .ok (.iconst 1, 1) := by decide +kernel
theorem dL_law_300 : decode cL_law 300 = .ok (.iadd, 1) := by decide +kernel
theorem dL_law_301 : decode cL_law 301 = .ok (.iaload, 1) := by decide +kernel
theorem dL_law_302 : decode cL_law 302 = .ok (.aload_n 0, 1) := by decide +kernel
theorem dL_law_303 : decode cL_law 303 = .ok (.iload_n 3, 1) := by decide +kernel
theorem dL_law_304 : decode cL_law 304 = .ok (.iconst 2, 1) := by decide +kernel
theorem dL_law_305 : decode cL_law 305 = .ok (.iadd, 1) := by decide +kernel
theorem dL_law_306 : decode cL_law 306 = .ok (.iaload, 1) := by decide +kernel
theorem dL_law_307 : decode cL_law 307 = .ok (.invokevirtual 40, 3) := by decide +kernel
theorem dL_law_310 : decode cL_law 310 = .ok (.pop, 1) := by decide +kernel
theorem dL_law_311 : decode cL_law 311 = .ok (.aload_n 2, 1) := by decide +kernel
theorem dL_law_312 : decode cL_law 312 = .ok (.aload_n 0, 1) := by decide +kernel
theorem dL_law_313 : decode cL_law 313 = .ok (.iload_n 3, 1) := by decide +kernel
theorem dL_law_314 : decode cL_law 314 = .ok (.iconst 1, 1) := by decide +kernel
theorem dL_law_315 : decode cL_law 315 = .ok (.iadd, 1) := by decide +kernel
theorem dL_law_316 : decode cL_law 316 = .ok (.iaload, 1) := by decide +kernel
theorem dL_law_317 : decode cL_law 317 = .ok (.aload_n 0, 1) := by decide +kernel
theorem dL_law_318 : decode cL_law 318 = .ok (.iload_n 3, 1) := by decide +kernel
theorem dL_law_319 : decode cL_law 319 = .ok (.iconst 2, 1) := by decide +kernel
theorem dL_law_320 : decode cL_law 320 = .ok (.iadd, 1) := by decide +kernel
theorem dL_law_321 : decode cL_law 321 = .ok (.iaload, 1) := by decide +kernel
theorem dL_law_322 : decode cL_law 322 = .ok (.invokevirtual 43, 3) := by decide +kernel
theorem dL_law_325 : decode cL_law 325 = .ok (.pop, 1) := by decide +kernel
theorem dL_law_326 : decode cL_law 326 = .ok (.goto 527, 3) := by decide +kernel
theorem dL_law_329 : decode cL_law 329 = .ok (.aload_n 1, 1) := by decide +kernel
theorem dL_law_330 : decode cL_law 330 = .ok (.aload_n 0, 1) := by decide +kernel
theorem dL_law_331 : decode cL_law 331 = .ok (.iload_n 3, 1) := by decide +kernel
theorem dL_law_332 : decode cL_law 332 = .ok (.iconst 1, 1) := by decide +kernel
theorem dL_law_333 : decode cL_law 333 = .ok (.iadd, 1) := by decide +kernel
theorem dL_law_334 : decode cL_law 334 = .ok (.iaload, 1) := by decide +kernel
theorem dL_law_335 : decode cL_law 335 = .ok (.aload_n 0, 1) := by decide +kernel
theorem dL_law_336 : decode cL_law 336 = .ok (.iload_n 3, 1) := by decide +kernel
theorem dL_law_337 : decode cL_law 337 = .ok (.iconst 2, 1) := by decide +kernel
theorem dL_law_338 : decode cL_law 338 = .ok (.iadd, 1) := by decide +kernel
theorem dL_law_339 : decode cL_law 339 = .ok (.iaload, 1) := by decide +kernel
theorem dL_law_340 : decode cL_law 340 = .ok (.aload_n 0, 1) := by decide +kernel
theorem dL_law_341 : decode cL_law 341 = .ok (.iload_n 3, 1) := by decide +kernel
theorem dL_law_342 : decode cL_law 342 = .ok (.iconst 3, 1) := by decide +kernel
theorem dL_law_343 : decode cL_law 343 = .ok (.iadd, 1) := by decide +kernel
theorem dL_law_344 : decode cL_law 344 = .ok (.iaload, 1) := by decide +kernel
theorem dL_law_345 : decode cL_law 345 = .ok (.invokevirtual 44, 3) := by decide +kernel
theorem dL_law_348 : decode cL_law 348 = .ok (.pop, 1) := by decide +kernel
theorem dL_law_349 : decode cL_law 349 = .ok (.aload_n 2, 1) := by decide +kernel
theorem dL_law_350 : decode cL_law 350 = .ok (.aload_n 0, 1) := by decide +kernel
theorem dL_law_351 : decode cL_law 351 = .ok (.iload_n 3, 1) := by decide +kernel
theorem dL_law_352 : decode cL_law 352 = .ok (.iconst 1, 1) := by decide +kernel
theorem dL_law_353 : decode cL_law 353 = .ok (.iadd, 1) := by decide +kernel
theorem dL_law_354 : decode cL_law 354 = .ok (.iaload, 1) := by decide +kernel
theorem dL_law_355 : decode cL_law 355 = .ok (.aload_n 0, 1) := by decide +kernel
theorem dL_law_356 : decode cL_law 356 = .ok (.iload_n 3, 1) := by decide +kernel
theorem dL_law_357 : decode cL_law 357 = .ok (.iconst 2, 1) := by decide +kernel
theorem dL_law_358 : decode cL_law 358 = .ok (.iadd, 1) := by decide +kernel
theorem dL_law_359 : decode cL_law 359 = .ok (.iaload, 1) := by decide +kernel
theorem dL_law_360 : decode cL_law 360 = .ok (.aload_n 0, 1) := by decide +kernel
theorem dL_law_361 : decode cL_law 361 = .ok (.iload_n 3, 1) := by decide +kernel
theorem dL_law_362 : decode cL_law 362 = .ok (.iconst 3, 1) := by decide +kernel
theorem dL_law_363 : decode cL_law 363 = .ok (.iadd, 1) := by decide +kernel
theorem dL_law_364 : decode cL_law 364 = .ok (.iaload, 1) := by decide +kernel
theorem dL_law_365 : decode cL_law 365 = .ok (.invokevirtual 48, 3) := by decide +kernel
theorem dL_law_368 : decode cL_law 368 = .ok (.pop, 1) := by decide +kernel
theorem dL_law_369 : decode cL_law 369 = .ok (.goto 484, 3) := by decide +kernel
theorem dL_law_372 : decode cL_law 372 = .ok (.aload_n 1, 1) := by decide +kernel
theorem dL_law_373 : decode cL_law 373 = .ok (.aload_n 0, 1) := by decide +kernel
theorem dL_law_374 : decode cL_law 374 = .ok (.iload_n 3, 1) := by decide +kernel
theorem dL_law_375 : decode cL_law 375 = .ok (.iconst 1, 1) := by decide +kernel
theorem dL_law_376 : decode cL_law 376 = .ok (.iadd, 1) := by decide +kernel
theorem dL_law_377 : decode cL_law 377 = .ok (.iaload, 1) := by decide +kernel
theorem dL_law_378 : decode cL_law 378 = .ok (.invokevirtual 49, 3) := by decide +kernel
theorem dL_law_381 : decode cL_law 381 = .ok (.pop, 1) := by decide +kernel
theorem dL_law_382 : decode cL_law 382 = .ok (.aload_n 2, 1) := by decide +kernel
theorem dL_law_383 : decode cL_law 383 = .ok (.aload_n 0, 1) := by decide +kernel
theorem dL_law_384 : decode cL_law 384 = .ok (.iload_n 3, 1) := by decide +kernel
theorem dL_law_385 : decode cL_law 385 = .ok (.iconst 1, 1) := by decide +kernel
theorem dL_law_386 : decode cL_law 386 = .ok (.iadd, 1) := by decide +kernel
theorem dL_law_387 : decode cL_law 387 = .ok (.iaload, 1) := by decide +kernel
theorem dL_law_388 : decode cL_law 388 = .ok (.invokevirtual 52, 3) := by decide +kernel
theorem dL_law_391 : decode cL_law 391 = .ok (.pop, 1) := by decide +kernel
theorem dL_law_392 : decode cL_law 392 = .ok (.goto 461, 3) := by decide +kernel
theorem dL_law_395 : decode cL_law 395 = .ok (.aload_n 1, 1) := by decide +kernel
theorem dL_law_396 : decode cL_law 396 = .ok (.aload_n 0, 1) := by decide +kernel
theorem dL_law_397 : decode cL_law 397 = .ok (.iload_n 3, 1) := by decide +kernel
theorem dL_law_398 : decode cL_law 398 = .ok (.iconst 1, 1) := by decide +kernel
theorem dL_law_399 : decode cL_law 399 = .ok (.iadd, 1) := by decide +kernel
theorem dL_law_400 : decode cL_law 400 = .ok (.iaload, 1) := by decide +kernel
theorem dL_law_401 : decode cL_law 401 = .ok (.aload_n 0, 1) := by decide +kernel
theorem dL_law_402 : decode cL_law 402 = .ok (.iload_n 3, 1) := by decide +kernel
theorem dL_law_403 : decode cL_law 403 = .ok (.iconst 2, 1) := by decide +kernel
theorem dL_law_404 : decode cL_law 404 = .ok (.iadd, 1) := by decide +kernel
theorem dL_law_405 : decode cL_law 405 = .ok (.iaload, 1) := by decide +kernel
theorem dL_law_406 : decode cL_law 406 = .ok (.invokevirtual 53, 3) := by decide +kernel
theorem dL_law_409 : decode cL_law 409 = .ok (.pop, 1) := by decide +kernel
theorem dL_law_410 : decode cL_law 410 = .ok (.aload_n 2, 1) := by decide +kernel
theorem dL_law_411 : decode cL_law 411 = .ok (.aload_n 0, 1) := by decide +kernel
theorem dL_law_412 : decode cL_law 412 = .ok (.iload_n 3, 1) := by decide +kernel
theorem dL_law_413 : decode cL_law 413 = .ok (.iconst 1, 1) := by decide +kernel
theorem dL_law_414 : decode cL_law 414 = .ok (.iadd, 1) := by decide +kernel
theorem dL_law_415 : decode cL_law 415 = .ok (.iaload, 1) := by decide +kernel
theorem dL_law_416 : decode cL_law 416 = .ok (.aload_n 0, 1) := by decide +kernel
theorem dL_law_417 : decode cL_law 417 = .ok (.iload_n 3, 1) := by decide +kernel
theorem dL_law_418 : decode cL_law 418 = .ok (.iconst 2, 1) := by decide +kernel
theorem dL_law_419 : decode cL_law 419 = .ok (.iadd, 1) := by decide +kernel
theorem dL_law_420 : decode cL_law 420 = .ok (.iaload, 1) := by decide +kernel
theorem dL_law_421 : decode cL_law 421 = .ok (.invokevirtual 56, 3) := by decide +kernel
theorem dL_law_424 : decode cL_law 424 = .ok (.pop, 1) := by decide +kernel
theorem dL_law_425 : decode cL_law 425 = .ok (.goto 428, 3) := by decide +kernel
theorem dL_law_428 : decode cL_law 428 = .ok (.aload_n 1, 1) := by decide +kernel
theorem dL_law_429 : decode cL_law 429 = .ok (.aload_n 0, 1) := by decide +kernel
theorem dL_law_430 : decode cL_law 430 = .ok (.iload_n 3, 1) := by decide +kernel
theorem dL_law_431 : decode cL_law 431 = .ok (.iconst 1, 1) := by decide +kernel
theorem dL_law_432 : decode cL_law 432 = .ok (.iadd, 1) := by decide +kernel
theorem dL_law_433 : decode cL_law 433 = .ok (.iaload, 1) := by decide +kernel
theorem dL_law_434 : decode cL_law 434 = .ok (.invokevirtual 57, 3) := by decide +kernel
theorem dL_law_437 : decode cL_law 437 = .ok (.pop, 1) := by decide +kernel
theorem dL_law_438 : decode cL_law 438 = .ok (.aload_n 2, 1) := by decide +kernel
theorem dL_law_439 : decode cL_law 439 = .ok (.aload_n 0, 1) := by decide +kernel
theorem dL_law_440 : decode cL_law 440 = .ok (.iload_n 3, 1) := by decide +kernel
theorem dL_law_441 : decode cL_law 441 = .ok (.iconst 1, 1) := by decide +kernel
theorem dL_law_442 : decode cL_law 442 = .ok (.iadd, 1) := by decide +kernel
theorem dL_law_443 : decode cL_law 443 = .ok (.iaload, 1) := by decide +kernel
theorem dL_law_444 : decode cL_law 444 = .ok (.invokevirtual 60, 3) := by decide +kernel
theorem dL_law_447 : decode cL_law 447 = .ok (.pop, 1) := by decide +kernel
theorem dL_law_448 : decode cL_law 448 = .ok (.goto 405, 3) := by decide +kernel
theorem dL_law_451 : decode cL_law 451 = .ok (.aload_n 1, 1) := by decide +kernel
theorem dL_law_452 : decode cL_law 452 = .ok (.aload_n 0, 1) := by decide +kernel
theorem dL_law_453 : decode cL_law 453 = .ok (.iload_n 3, 1) := by decide +kernel
theorem dL_law_454 : decode cL_law 454 = .ok (.iconst 1, 1) := by decide +kernel
theorem dL_law_455 : decode cL_law 455 = .ok (.iadd, 1) := by decide +kernel
theorem dL_law_456 : decode cL_law 456 = .ok (.iaload, 1) := by decide +kernel
theorem dL_law_457 : decode cL_law 457 = .ok (.invokevirtual 61, 3) := by decide +kernel
theorem dL_law_460 : decode cL_law 460 = .ok (.pop, 1) := by decide +kernel
theorem dL_law_461 : decode cL_law 461 = .ok (.aload_n 2, 1) := by decide +kernel
theorem dL_law_462 : decode cL_law 462 = .ok (.aload_n 0, 1) := by decide +kernel
theorem dL_law_463 : decode cL_law 463 = .ok (.iload_n 3, 1) := by decide +kernel
theorem dL_law_464 : decode cL_law 464 = .ok (.iconst 1, 1) := by decide +kernel
theorem dL_law_465 : decode cL_law 465 = .ok (.iadd, 1) := by decide +kernel
theorem dL_law_466 : decode cL_law 466 = .ok (.iaload, 1) := by decide +kernel
theorem dL_law_467 : decode cL_law 467 = .ok (.invokevirtual 64, 3) := by decide +kernel
theorem dL_law_470 : decode cL_law 470 = .ok (.pop, 1) := by decide +kernel
theorem dL_law_471 : decode cL_law 471 = .ok (.goto 382, 3) := by decide +kernel
theorem dL_law_474 : decode cL_law 474 = .ok (.aload_n 1, 1) := by decide +kernel
theorem dL_law_475 : decode cL_law 475 = .ok (.aload_n 0, 1) := by decide +kernel
theorem dL_law_476 : decode cL_law 476 = .ok (.iload_n 3, 1) := by decide +kernel
theorem dL_law_477 : decode cL_law 477 = .ok (.iconst 1, 1) := by decide +kernel
theorem dL_law_478 : decode cL_law 478 = .ok (.iadd, 1) := by decide +kernel
theorem dL_law_479 : decode cL_law 479 = .ok (.iaload, 1) := by decide +kernel
theorem dL_law_480 : decode cL_law 480 = .ok (.aload_n 0, 1) := by decide +kernel
theorem dL_law_481 : decode cL_law 481 = .ok (.iload_n 3, 1) := by decide +kernel
theorem dL_law_482 : decode cL_law 482 = .ok (.iconst 2, 1) := by decide +kernel
theorem dL_law_483 : decode cL_law 483 = .ok (.iadd, 1) := by decide +kernel
theorem dL_law_484 : decode cL_law 484 = .ok (.iaload, 1) := by decide +kernel
theorem dL_law_485 : decode cL_law 485 = .ok (.invokevirtual 65, 3) := by decide +kernel
theorem dL_law_488 : decode cL_law 488 = .ok (.pop2, 1) := by decide +kernel
theorem dL_law_489 : decode cL_law 489 = .ok (.aload_n 2, 1) := by decide +kernel
theorem dL_law_490 : decode cL_law 490 = .ok (.aload_n 0, 1) := by decide +kernel
theorem dL_law_491 : decode cL_law 491 = .ok (.iload_n 3, 1) := by decide +kernel
theorem dL_law_492 : decode cL_law 492 = .ok (.iconst 1, 1) := by decide +kernel
theorem dL_law_493 : decode cL_law 493 = .ok (.iadd, 1) := by decide +kernel
theorem dL_law_494 : decode cL_law 494 = .ok (.iaload, 1) := by decide +kernel
theorem dL_law_495 : decode cL_law 495 = .ok (.aload_n 0, 1) := by decide +kernel
theorem dL_law_496 : decode cL_law 496 = .ok (.iload_n 3, 1) := by decide +kernel
theorem dL_law_497 : decode cL_law 497 = .ok (.iconst 2, 1) := by decide +kernel
theorem dL_law_498 : decode cL_law 498 = .ok (.iadd, 1) := by decide +kernel
theorem dL_law_499 : decode cL_law 499 = .ok (.iaload, 1) := by decide +kernel
theorem dL_law_500 : decode cL_law 500 = .ok (.invokevirtual 69, 3) := by decide +kernel
theorem dL_law_503 : decode cL_law 503 = .ok (.pop2, 1) := by decide +kernel
theorem dL_law_504 : decode cL_law 504 = .ok (.goto 349, 3) := by decide +kernel
theorem dL_law_507 : decode cL_law 507 = .ok (.aload_n 1, 1) := by decide +kernel
theorem dL_law_508 : decode cL_law 508 = .ok (.aload_n 0, 1) := by decide +kernel
theorem dL_law_509 : decode cL_law 509 = .ok (.iload_n 3, 1) := by decide +kernel
theorem dL_law_510 : decode cL_law 510 = .ok (.iconst 1, 1) := by decide +kernel
theorem dL_law_511 : decode cL_law 511 = .ok (.iadd, 1) := by decide +kernel
theorem dL_law_512 : decode cL_law 512 = .ok (.iaload, 1) := by decide +kernel
theorem dL_law_513 : decode cL_law 513 = .ok (.aload_n 0, 1) := by decide +kernel
theorem dL_law_514 : decode cL_law 514 = .ok (.iload_n 3, 1) := by decide +kernel
theorem dL_law_515 : decode cL_law 515 = .ok (.iconst 2, 1) := by decide +kernel
theorem dL_law_516 : decode cL_law 516 = .ok (.iadd, 1) := by decide +kernel
theorem dL_law_517 : decode cL_law 517 = .ok (.iaload, 1) := by decide +kernel
theorem dL_law_518 : decode cL_law 518 = .ok (.aload_n 0, 1) := by decide +kernel
theorem dL_law_519 : decode cL_law 519 = .ok (.iload_n 3, 1) := by decide +kernel
theorem dL_law_520 : decode cL_law 520 = .ok (.iconst 3, 1) := by decide +kernel
theorem dL_law_521 : decode cL_law 521 = .ok (.iadd, 1) := by decide +kernel
theorem dL_law_522 : decode cL_law 522 = .ok (.iaload, 1) := by decide +kernel
theorem dL_law_523 : decode cL_law 523 = .ok (.invokevirtual 70, 3) := by decide +kernel
theorem dL_law_526 : decode cL_law 526 = .ok (.pop, 1) := by decide +kernel
theorem dL_law_527 : decode cL_law 527 = .ok (.aload_n 2, 1) := by decide +kernel
theorem dL_law_528 : decode cL_law 528 = .ok (.aload_n 0, 1) := by decide +kernel
theorem dL_law_529 : decode cL_law 529 = .ok (.iload_n 3, 1) := by decide +kernel
theorem dL_law_530 : decode cL_law 530 = .ok (.iconst 1, 1) := by decide +kernel
theorem dL_law_531 : decode cL_law 531 = .ok (.iadd, 1) := by decide +kernel
theorem dL_law_532 : decode cL_law 532 = .ok (.iaload, 1) := by decide +kernel
theorem dL_law_533 : decode cL_law 533 = .ok (.aload_n 0, 1) := by decide +kernel
theorem dL_law_534 : decode cL_law 534 = .ok (.iload_n 3, 1) := by decide +kernel
theorem dL_law_535 : decode cL_law 535 = .ok (.iconst 2, 1) := by decide +kernel
theorem dL_law_536 : decode cL_law 536 = .ok (.iadd, 1) := by decide +kernel
theorem dL_law_537 : decode cL_law 537 = .ok (.iaload, 1) := by decide +kernel
theorem dL_law_538 : decode cL_law 538 = .ok (.aload_n 0, 1) := by decide +kernel
theorem dL_law_539 : decode cL_law 539 = .ok (.iload_n 3, 1) := by decide +kernel
theorem dL_law_540 : decode cL_law 540 = .ok (.iconst 3, 1) := by decide +kernel
theorem dL_law_541 : decode cL_law 541 = .ok (.iadd, 1) := by decide +kernel
theorem dL_law_542 : decode cL_law 542 = .ok (.iaload, 1) := by decide +kernel
theorem dL_law_543 : decode cL_law 543 = .ok (.invokevirtual 73, 3) := by decide +kernel
theorem dL_law_546 : decode cL_law 546 = .ok (.pop, 1) := by decide +kernel
theorem dL_law_547 : decode cL_law 547 = .ok (.goto 306, 3) := by decide +kernel
theorem dL_law_550 : decode cL_law 550 = .ok (.aload_n 1, 1) := by decide +kernel
theorem dL_law_551 : decode cL_law 551 = .ok (.aload_n 0, 1) := by decide +kernel
theorem dL_law_552 : decode cL_law 552 = .ok (.iload_n 3, 1) := by decide +kernel
theorem dL_law_553 : decode cL_law 553 = .ok (.iconst 1, 1) := by decide +kernel
theorem dL_law_554 : decode cL_law 554 = .ok (.iadd, 1) := by decide +kernel
theorem dL_law_555 : decode cL_law 555 = .ok (.iaload, 1) := by decide +kernel
theorem dL_law_556 : decode cL_law 556 = .ok (.aload_n 0, 1) := by decide +kernel
theorem dL_law_557 : decode cL_law 557 = .ok (.iload_n 3, 1) := by decide +kernel
theorem dL_law_558 : decode cL_law 558 = .ok (.iconst 2, 1) := by decide +kernel
theorem dL_law_559 : decode cL_law 559 = .ok (.iadd, 1) := by decide +kernel
theorem dL_law_560 : decode cL_law 560 = .ok (.iaload, 1) := by decide +kernel
theorem dL_law_561 : decode cL_law 561 = .ok (.aload_n 0, 1) := by decide +kernel
theorem dL_law_562 : decode cL_law 562 = .ok (.iload_n 3, 1) := by decide +kernel
theorem dL_law_563 : decode cL_law 563 = .ok (.iconst 3, 1) := by decide +kernel
theorem dL_law_564 : decode cL_law 564 = .ok (.iadd, 1) := by decide +kernel
theorem dL_law_565 : decode cL_law 565 = .ok (.iaload, 1) := by decide +kernel
theorem dL_law_566 : decode cL_law 566 = .ok (.aload_n 0, 1) := by decide +kernel
theorem dL_law_567 : decode cL_law 567 = .ok (.iload_n 3, 1) := by decide +kernel
theorem dL_law_568 : decode cL_law 568 = .ok (.iconst 4, 1) := by decide +kernel
theorem dL_law_569 : decode cL_law 569 = .ok (.iadd, 1) := by decide +kernel
theorem dL_law_570 : decode cL_law 570 = .ok (.iaload, 1) := by decide +kernel
theorem dL_law_571 : decode cL_law 571 = .ok (.invokevirtual 74, 3) := by decide +kernel
theorem dL_law_574 : decode cL_law 574 = .ok (.pop, 1) := by decide +kernel
theorem dL_law_575 : decode cL_law 575 = .ok (.aload_n 2, 1) := by decide +kernel
theorem dL_law_576 : decode cL_law 576 = .ok (.aload_n 0, 1) := by decide +kernel
theorem dL_law_577 : decode cL_law 577 = .ok (.iload_n 3, 1) := by decide +kernel
theorem dL_law_578 : decode cL_law 578 = .ok (.iconst 1, 1) := by decide +kernel
theorem dL_law_579 : decode cL_law 579 = .ok (.iadd, 1) := by decide +kernel
theorem dL_law_580 : decode cL_law 580 = .ok (.iaload, 1) := by decide +kernel
theorem dL_law_581 : decode cL_law 581 = .ok (.aload_n 0, 1) := by decide +kernel
theorem dL_law_582 : decode cL_law 582 = .ok (.iload_n 3, 1) := by decide +kernel
theorem dL_law_583 : decode cL_law 583 = .ok (.iconst 2, 1) := by decide +kernel
theorem dL_law_584 : decode cL_law 584 = .ok (.iadd, 1) := by decide +kernel
theorem dL_law_585 : decode cL_law 585 = .ok (.iaload, 1) := by decide +kernel
theorem dL_law_586 : decode cL_law 586 = .ok (.aload_n 0, 1) := by decide +kernel
theorem dL_law_587 : decode cL_law 587 = .ok (.iload_n 3, 1) := by decide +kernel
theorem dL_law_588 : decode cL_law 588 = .ok (.iconst 3, 1) := by decide +kernel
theorem dL_law_589 : decode cL_law 589 = .ok (.iadd, 1) := by decide +kernel
theorem dL_law_590 : decode cL_law 590 = .ok (.iaload, 1) := by decide +kernel
theorem dL_law_591 : decode cL_law 591 = .ok (.aload_n 0, 1) := by decide +kernel
theorem dL_law_592 : decode cL_law 592 = .ok (.iload_n 3, 1) := by decide +kernel
theorem dL_law_593 : decode cL_law 593 = .ok (.iconst 4, 1) := by decide +kernel
theorem dL_law_594 : decode cL_law 594 = .ok (.iadd, 1) := by decide +kernel
theorem dL_law_595 : decode cL_law 595 = .ok (.iaload, 1) := by decide +kernel
theorem dL_law_596 : decode cL_law 596 = .ok (.invokevirtual 78, 3) := by decide +kernel
theorem dL_law_599 : decode cL_law 599 = .ok (.pop, 1) := by decide +kernel
theorem dL_law_600 : decode cL_law 600 = .ok (.goto 253, 3) := by decide +kernel
theorem dL_law_603 : decode cL_law 603 = .ok (.aload_n 1, 1) := by decide +kernel
theorem dL_law_604 : decode cL_law 604 = .ok (.aload_n 0, 1) := by decide +kernel
theorem dL_law_605 : decode cL_law 605 = .ok (.iload_n 3, 1) := by decide +kernel
theorem dL_law_606 : decode cL_law 606 = .ok (.iconst 1, 1) := by decide +kernel
theorem dL_law_607 : decode cL_law 607 = .ok (.iadd, 1) := by decide +kernel
theorem dL_law_608 : decode cL_law 608 = .ok (.iaload, 1) := by decide +kernel
theorem dL_law_609 : decode cL_law 609 = .ok (.aload_n 0, 1) := by decide +kernel
theorem dL_law_610 : decode cL_law 610 = .ok (.iload_n 3, 1) := by decide +kernel
theorem dL_law_611 : decode cL_law 611 = .ok (.iconst 2, 1) := by decide +kernel
theorem dL_law_612 : decode cL_law 612 = .ok (.iadd, 1) := by decide +kernel
theorem dL_law_613 : decode cL_law 613 = .ok (.iaload, 1) := by decide +kernel
theorem dL_law_614 : decode cL_law 614 = .ok (.aload_n 0, 1) := by decide +kernel
theorem dL_law_615 : decode cL_law 615 = .ok (.iload_n 3, 1) := by decide +kernel
theorem dL_law_616 : decode cL_law 616 = .ok (.iconst 3, 1) := by decide +kernel
theorem dL_law_617 : decode cL_law 617 = .ok (.iadd, 1) := by decide +kernel
theorem dL_law_618 : decode cL_law 618 = .ok (.iaload, 1) := by decide +kernel
theorem dL_law_619 : decode cL_law 619 = .ok (.aload_n 0, 1) := by decide +kernel
theorem dL_law_620 : decode cL_law 620 = .ok (.iload_n 3, 1) := by decide +kernel
theorem dL_law_621 : decode cL_law 621 = .ok (.iconst 4, 1) := by decide +kernel
theorem dL_law_622 : decode cL_law 622 = .ok (.iadd, 1) := by decide +kernel
theorem dL_law_623 : decode cL_law 623 = .ok (.iaload, 1) := by decide +kernel
theorem dL_law_624 : decode cL_law 624 = .ok (.invokevirtual 79, 3) := by decide +kernel
theorem dL_law_627 : decode cL_law 627 = .ok (.pop, 1) := by decide +kernel
theorem dL_law_628 : decode cL_law 628 = .ok (.aload_n 2, 1) := by decide +kernel
theorem dL_law_629 : decode cL_law 629 = .ok (.aload_n 0, 1) := by decide +kernel
theorem dL_law_630 : decode cL_law 630 = .ok (.iload_n 3, 1) := by decide +kernel
theorem dL_law_631 : decode cL_law 631 = .ok (.iconst 1, 1) := by decide +kernel
theorem dL_law_632 : decode cL_law 632 = .ok (.iadd, 1) := by decide +kernel
theorem dL_law_633 : decode cL_law 633 = .ok (.iaload, 1) := by decide +kernel
theorem dL_law_634 : decode cL_law 634 = .ok (.aload_n 0, 1) := by decide +kernel
theorem dL_law_635 : decode cL_law 635 = .ok (.iload_n 3, 1) := by decide +kernel
theorem dL_law_636 : decode cL_law 636 = .ok (.iconst 2, 1) := by decide +kernel
theorem dL_law_637 : decode cL_law 637 = .ok (.iadd, 1) := by decide +kernel
theorem dL_law_638 : decode cL_law 638 = .ok (.iaload, 1) := by decide +kernel
theorem dL_law_639 : decode cL_law 639 = .ok (.aload_n 0, 1) := by decide +kernel
theorem dL_law_640 : decode cL_law 640 = .ok (.iload_n 3, 1) := by decide +kernel
theorem dL_law_641 : decode cL_law 641 = .ok (.iconst 3, 1) := by decide +kernel
theorem dL_law_642 : decode cL_law 642 = .ok (.iadd, 1) := by decide +kernel
theorem dL_law_643 : decode cL_law 643 = .ok (.iaload, 1) := by decide +kernel
theorem dL_law_644 : decode cL_law 644 = .ok (.aload_n 0, 1) := by decide +kernel
theorem dL_law_645 : decode cL_law 645 = .ok (.iload_n 3, 1) := by decide +kernel
theorem dL_law_646 : decode cL_law 646 = .ok (.iconst 4, 1) := by decide +kernel
theorem dL_law_647 : decode cL_law 647 = .ok (.iadd, 1) := by decide +kernel
theorem dL_law_648 : decode cL_law 648 = .ok (.iaload, 1) := by decide +kernel
theorem dL_law_649 : decode cL_law 649 = .ok (.invokevirtual 82, 3) := by decide +kernel
theorem dL_law_652 : decode cL_law 652 = .ok (.pop, 1) := by decide +kernel
theorem dL_law_653 : decode cL_law 653 = .ok (.goto 200, 3) := by decide +kernel
theorem dL_law_656 : decode cL_law 656 = .ok (.aload_n 1, 1) := by decide +kernel
theorem dL_law_657 : decode cL_law 657 = .ok (.invokevirtual 83, 3) := by decide +kernel
theorem dL_law_660 : decode cL_law 660 = .ok (.pop, 1) := by decide +kernel
theorem dL_law_661 : decode cL_law 661 = .ok (.aload_n 2, 1) := by decide +kernel
theorem dL_law_662 : decode cL_law 662 = .ok (.invokevirtual 86, 3) := by decide +kernel
theorem dL_law_665 : decode cL_law 665 = .ok (.pop, 1) := by decide +kernel
theorem dL_law_666 : decode cL_law 666 = .ok (.goto 187, 3) := by decide +kernel
theorem dL_law_669 : decode cL_law 669 = .ok (.aload_n 1, 1) := by decide +kernel
theorem dL_law_670 : decode cL_law 670 = .ok (.aload_n 0, 1) := by decide +kernel
theorem dL_law_671 : decode cL_law 671 = .ok (.iload_n 3, 1) := by decide +kernel
theorem dL_law_672 : decode cL_law 672 = .ok (.iconst 1, 1) := by decide +kernel
theorem dL_law_673 : decode cL_law 673 = .ok (.iadd, 1) := by decide +kernel
theorem dL_law_674 : decode cL_law 674 = .ok (.iaload, 1) := by decide +kernel
theorem dL_law_675 : decode cL_law 675 = .ok (.invokevirtual 87, 3) := by decide +kernel
theorem dL_law_678 : decode cL_law 678 = .ok (.pop, 1) := by decide +kernel
theorem dL_law_679 : decode cL_law 679 = .ok (.aload_n 2, 1) := by decide +kernel
theorem dL_law_680 : decode cL_law 680 = .ok (.aload_n 0, 1) := by decide +kernel
theorem dL_law_681 : decode cL_law 681 = .ok (.iload_n 3, 1) := by decide +kernel
theorem dL_law_682 : decode cL_law 682 = .ok (.iconst 1, 1) := by decide +kernel
theorem dL_law_683 : decode cL_law 683 = .ok (.iadd, 1) := by decide +kernel
theorem dL_law_684 : decode cL_law 684 = .ok (.iaload, 1) := by decide +kernel
theorem dL_law_685 : decode cL_law 685 = .ok (.invokevirtual 90, 3) := by decide +kernel
theorem dL_law_688 : decode cL_law 688 = .ok (.pop, 1) := by decide +kernel
theorem dL_law_689 : decode cL_law 689 = .ok (.goto 164, 3) := by decide +kernel
theorem dL_law_692 : decode cL_law 692 = .ok (.aload_n 1, 1) := by decide +kernel
theorem dL_law_693 : decode cL_law 693 = .ok (.invokevirtual 91, 3) := by decide +kernel
theorem dL_law_696 : decode cL_law 696 = .ok (.pop2, 1) := by decide +kernel
theorem dL_law_697 : decode cL_law 697 = .ok (.aload_n 2, 1) := by decide +kernel
theorem dL_law_698 : decode cL_law 698 = .ok (.invokevirtual 95, 3) := by decide +kernel
theorem dL_law_701 : decode cL_law 701 = .ok (.pop2, 1) := by decide +kernel
theorem dL_law_702 : decode cL_law 702 = .ok (.goto 151, 3) := by decide +kernel
theorem dL_law_705 : decode cL_law 705 = .ok (.aload_n 1, 1) := by decide +kernel
theorem dL_law_706 : decode cL_law 706 = .ok (.aload_n 0, 1) := by decide +kernel
theorem dL_law_707 : decode cL_law 707 = .ok (.iload_n 3, 1) := by decide +kernel
theorem dL_law_708 : decode cL_law 708 = .ok (.iconst 1, 1) := by decide +kernel
theorem dL_law_709 : decode cL_law 709 = .ok (.iadd, 1) := by decide +kernel
theorem dL_law_710 : decode cL_law 710 = .ok (.iaload, 1) := by decide +kernel
theorem dL_law_711 : decode cL_law 711 = .ok (.invokevirtual 96, 3) := by decide +kernel
theorem dL_law_714 : decode cL_law 714 = .ok (.pop, 1) := by decide +kernel
theorem dL_law_715 : decode cL_law 715 = .ok (.aload_n 2, 1) := by decide +kernel
theorem dL_law_716 : decode cL_law 716 = .ok (.aload_n 0, 1) := by decide +kernel
theorem dL_law_717 : decode cL_law 717 = .ok (.iload_n 3, 1) := by decide +kernel
theorem dL_law_718 : decode cL_law 718 = .ok (.iconst 1, 1) := by decide +kernel
theorem dL_law_719 : decode cL_law 719 = .ok (.iadd, 1) := by decide +kernel
theorem dL_law_720 : decode cL_law 720 = .ok (.iaload, 1) := by decide +kernel
theorem dL_law_721 : decode cL_law 721 = .ok (.invokevirtual 99, 3) := by decide +kernel
theorem dL_law_724 : decode cL_law 724 = .ok (.pop, 1) := by decide +kernel
theorem dL_law_725 : decode cL_law 725 = .ok (.goto 128, 3) := by decide +kernel
theorem dL_law_728 : decode cL_law 728 = .ok (.aload_n 1, 1) := by decide +kernel
theorem dL_law_729 : decode cL_law 729 = .ok (.aload_n 0, 1) := by decide +kernel
theorem dL_law_730 : decode cL_law 730 = .ok (.iload_n 3, 1) := by decide +kernel
theorem dL_law_731 : decode cL_law 731 = .ok (.iconst 1, 1) := by decide +kernel
theorem dL_law_732 : decode cL_law 732 = .ok (.iadd, 1) := by decide +kernel
theorem dL_law_733 : decode cL_law 733 = .ok (.iaload, 1) := by decide +kernel
theorem dL_law_734 : decode cL_law 734 = .ok (.invokevirtual 100, 3) := by decide +kernel
theorem dL_law_737 : decode cL_law 737 = .ok (.pop, 1) := by decide +kernel
theorem dL_law_738 : decode cL_law 738 = .ok (.aload_n 2, 1) := by decide +kernel
theorem dL_law_739 : decode cL_law 739 = .ok (.aload_n 0, 1) := by decide +kernel
theorem dL_law_740 : decode cL_law 740 = .ok (.iload_n 3, 1) := by decide +kernel
theorem dL_law_741 : decode cL_law 741 = .ok (.iconst 1, 1) := by decide +kernel
theorem dL_law_742 : decode cL_law 742 = .ok (.iadd, 1) := by decide +kernel
theorem dL_law_743 : decode cL_law 743 = .ok (.iaload, 1) := by decide +kernel
theorem dL_law_744 : decode cL_law 744 = .ok (.invokevirtual 103, 3) := by decide +kernel
theorem dL_law_747 : decode cL_law 747 = .ok (.pop, 1) := by decide +kernel
theorem dL_law_748 : decode cL_law 748 = .ok (.goto 105, 3) := by decide +kernel
theorem dL_law_751 : decode cL_law 751 = .ok (.aload_n 1, 1) := by decide +kernel
theorem dL_law_752 : decode cL_law 752 = .ok (.aload_n 0, 1) := by decide +kernel
theorem dL_law_753 : decode cL_law 753 = .ok (.iload_n 3, 1) := by decide +kernel
theorem dL_law_754 : decode cL_law 754 = .ok (.iconst 1, 1) := by decide +kernel
theorem dL_law_755 : decode cL_law 755 = .ok (.iadd, 1) := by decide +kernel
theorem dL_law_756 : decode cL_law 756 = .ok (.iaload, 1) := by decide +kernel
theorem dL_law_757 : decode cL_law 757 = .ok (.aload_n 0, 1) := by decide +kernel
theorem dL_law_758 : decode cL_law 758 = .ok (.iload_n 3, 1) := by decide +kernel
theorem dL_law_759 : decode cL_law 759 = .ok (.iconst 2, 1) := by decide +kernel
theorem dL_law_760 : decode cL_law 760 = .ok (.iadd, 1) := by decide +kernel
theorem dL_law_761 : decode cL_law 761 = .ok (.iaload, 1) := by decide +kernel
theorem dL_law_762 : decode cL_law 762 = .ok (.invokevirtual 104, 3) := by decide +kernel
theorem dL_law_765 : decode cL_law 765 = .ok (.pop, 1) := by decide +kernel
theorem dL_law_766 : decode cL_law 766 = .ok (.aload_n 2, 1) := by decide +kernel
theorem dL_law_767 : decode cL_law 767 = .ok (.aload_n 0, 1) := by decide +kernel
theorem dL_law_768 : decode cL_law 768 = .ok (.iload_n 3, 1) := by decide +kernel
theorem dL_law_769 : decode cL_law 769 = .ok (.iconst 1, 1) := by decide +kernel
theorem dL_law_770 : decode cL_law 770 = .ok (.iadd, 1) := by decide +kernel
theorem dL_law_771 : decode cL_law 771 = .ok (.iaload, 1) := by decide +kernel
theorem dL_law_772 : decode cL_law 772 = .ok (.aload_n 0, 1) := by decide +kernel
theorem dL_law_773 : decode cL_law 773 = .ok (.iload_n 3, 1) := by decide +kernel
theorem dL_law_774 : decode cL_law 774 = .ok (.iconst 2, 1) := by decide +kernel
theorem dL_law_775 : decode cL_law 775 = .ok (.iadd, 1) := by decide +kernel
theorem dL_law_776 : decode cL_law 776 = .ok (.iaload, 1) := by decide +kernel
theorem dL_law_777 : decode cL_law 777 = .ok (.invokevirtual 107, 3) := by decide +kernel
theorem dL_law_780 : decode cL_law 780 = .ok (.pop, 1) := by decide +kernel
theorem dL_law_781 : decode cL_law 781 = .ok (.goto 72, 3) := by decide +kernel
theorem dL_law_784 : decode cL_law 784 = .ok (.aload_n 1, 1) := by decide +kernel
theorem dL_law_785 : decode cL_law 785 = .ok (.aload_n 0, 1) := by decide +kernel
theorem dL_law_786 : decode cL_law 786 = .ok (.iload_n 3, 1) := by decide +kernel
theorem dL_law_787 : decode cL_law 787 = .ok (.iconst 1, 1) := by decide +kernel
theorem dL_law_788 : decode cL_law 788 = .ok (.iadd, 1) := by decide +kernel
theorem dL_law_789 : decode cL_law 789 = .ok (.iaload, 1) := by decide +kernel
theorem dL_law_790 : decode cL_law 790 = .ok (.invokevirtual 108, 3) := by decide +kernel
theorem dL_law_793 : decode cL_law 793 = .ok (.pop, 1) := by decide +kernel
theorem dL_law_794 : decode cL_law 794 = .ok (.aload_n 2, 1) := by decide +kernel
theorem dL_law_795 : decode cL_law 795 = .ok (.aload_n 0, 1) := by decide +kernel
theorem dL_law_796 : decode cL_law 796 = .ok (.iload_n 3, 1) := by decide +kernel
theorem dL_law_797 : decode cL_law 797 = .ok (.iconst 1, 1) := by decide +kernel
theorem dL_law_798 : decode cL_law 798 = .ok (.iadd, 1) := by decide +kernel
theorem dL_law_799 : decode cL_law 799 = .ok (.iaload, 1) := by decide +kernel
theorem dL_law_800 : decode cL_law 800 = .ok (.invokevirtual 111, 3) := by decide +kernel
theorem dL_law_803 : decode cL_law 803 = .ok (.pop, 1) := by decide +kernel
theorem dL_law_804 : decode cL_law 804 = .ok (.goto 49, 3) := by decide +kernel
theorem dL_law_807 : decode cL_law 807 = .ok (.aload_n 1, 1) := by decide +kernel
theorem dL_law_808 : decode cL_law 808 = .ok (.aload_n 0, 1) := by decide +kernel
theorem dL_law_809 : decode cL_law 809 = .ok (.iload_n 3, 1) := by decide +kernel
theorem dL_law_810 : decode cL_law 810 = .ok (.iconst 1, 1) := by decide +kernel
theorem dL_law_811 : decode cL_law 811 = .ok (.iadd, 1) := by decide +kernel
theorem dL_law_812 : decode cL_law 812 = .ok (.iaload, 1) := by decide +kernel
theorem dL_law_813 : decode cL_law 813 = .ok (.invokevirtual 112, 3) := by decide +kernel
theorem dL_law_816 : decode cL_law 816 = .ok (.pop, 1) := by decide +kernel
theorem dL_law_817 : decode cL_law 817 = .ok (.aload_n 2, 1) := by decide +kernel
theorem dL_law_818 : decode cL_law 818 = .ok (.aload_n 0, 1) := by decide +kernel
theorem dL_law_819 : decode cL_law 819 = .ok (.iload_n 3, 1) := by decide +kernel
theorem dL_law_820 : decode cL_law 820 = .ok (.iconst 1, 1) := by decide +kernel
theorem dL_law_821 : decode cL_law 821 = .ok (.iadd, 1) := by decide +kernel
theorem dL_law_822 : decode cL_law 822 = .ok (.iaload, 1) := by decide +kernel
theorem dL_law_823 : decode cL_law 823 = .ok (.invokevirtual 115, 3) := by decide +kernel
theorem dL_law_826 : decode cL_law 826 = .ok (.pop, 1) := by decide +kernel
theorem dL_law_827 : decode cL_law 827 = .ok (.goto 26, 3) := by decide +kernel
theorem dL_law_830 : decode cL_law 830 = .ok (.aload_n 1, 1) := by decide +kernel
theorem dL_law_831 : decode cL_law 831 = .ok (.aload_n 0, 1) := by decide +kernel
theorem dL_law_832 : decode cL_law 832 = .ok (.iload_n 3, 1) := by decide +kernel
theorem dL_law_833 : decode cL_law 833 = .ok (.iconst 1, 1) := by decide +kernel
theorem dL_law_834 : decode cL_law 834 = .ok (.iadd, 1) := by decide +kernel
theorem dL_law_835 : decode cL_law 835 = .ok (.iaload, 1) := by decide +kernel
theorem dL_law_836 : decode cL_law 836 = .ok (.invokevirtual 116, 3) := by decide +kernel
theorem dL_law_839 : decode cL_law 839 = .ok (.aload_n 2, 1) := by decide +kernel
theorem dL_law_840 : decode cL_law 840 = .ok (.aload_n 0, 1) := by decide +kernel
theorem dL_law_841 : decode cL_law 841 = .ok (.iload_n 3, 1) := by decide +kernel
theorem dL_law_842 : decode cL_law 842 = .ok (.iconst 1, 1) := by decide +kernel
