theorem dX0_init_0 : decode cX0_init 0 = .ok (.aload_n 0, 1) := by decide +kernel
theorem dX0_init_1 : decode cX0_init 1 = .ok (.invokespecial 3, 3) := by decide +kernel
theorem dX0_init_4 : decode cX0_init 4 = .ok (.aload_n 0, 1) := by decide +kernel
theorem dX0_init_5 : decode cX0_init 5 = .ok (.iconst 4, 1) := by decide +kernel
theorem dX0_init_6 : decode cX0_init 6 = .ok (.newarray .int, 2) := by decide +kernel
theorem dX0_init_8 : decode cX0_init 8 = .ok (.putfield 9, 3) := by decide +kernel
theorem dX0_init_11 : decode cX0_init 11 = .ok (.aload_n 0, 1) := by decide +kernel
theorem dX0_init_12 : decode cX0_init 12 = .ok (.bipush 16, 2) := by decide +kernel
theorem dX0_init_14 : decode cX0_init 14 = .ok (.newarray .int, 2) := by decide +kernel
theorem dX0_init_16 : decode cX0_init 16 = .ok (.putfield 15, 3) := by decide +kernel
theorem dX0_init_19 : decode cX0_init 19 = .ok (.aload_n 0, 1) := by decide +kernel
theorem dX0_init_20 : decode cX0_init 20 = .ok (.iconst 4, 1) := by decide +kernel
theorem dX0_init_21 : decode cX0_init 21 = .ok (.newarray .int, 2) := by decide +kernel
theorem dX0_init_23 : decode cX0_init 23 = .ok (.putfield 18, 3) := by decide +kernel
theorem dX0_init_26 : decode cX0_init 26 = .ok (.aload_n 0, 1) := by decide +kernel
theorem dX0_init_27 : decode cX0_init 27 = .ok (.iconst 4, 1) := by decide +kernel
theorem dX0_init_28 : decode cX0_init 28 = .ok (.newarray .int, 2) := by decide +kernel
theorem dX0_init_30 : decode cX0_init 30 = .ok (.putfield 21, 3) := by decide +kernel
theorem dX0_init_33 : decode cX0_init 33 = .ok (.aload_n 0, 1) := by decide +kernel
theorem dX0_init_34 : decode cX0_init 34 = .ok (.iconst 4, 1) := by decide +kernel
theorem dX0_init_35 : decode cX0_init 35 = .ok (.newarray .int, 2) := by decide +kernel
theorem dX0_init_37 : decode cX0_init 37 = .ok (.putfield 24, 3) := by decide +kernel
theorem dX0_init_40 : decode cX0_init 40 = .ok (.aload_n 0, 1) := by decide +kernel
theorem dX0_init_41 : decode cX0_init 41 = .ok (.bipush 6, 2) := by decide +kernel
theorem dX0_init_43 : decode cX0_init 43 = .ok (.newarray .int, 2) := by decide +kernel
theorem dX0_init_45 : decode cX0_init 45 = .ok (.putfield 27, 3) := by decide +kernel
theorem dX0_init_48 : decode cX0_init 48 = .ok (.aload_n 0, 1) := by decide +kernel
theorem dX0_init_49 : decode cX0_init 49 = .ok (.bipush 16, 2) := by decide +kernel
theorem dX0_init_51 : decode cX0_init 51 = .ok (.newarray .int, 2) := by decide +kernel
theorem dX0_init_53 : decode cX0_init 53 = .ok (.putfield 30, 3) := by decide +kernel
theorem dX0_init_56 : decode cX0_init 56 = .ok (.iconst 0, 1) := by decide +kernel
theorem dX0_init_57 : decode cX0_init 57 = .ok (.istore_n 1, 1) := by decide +kernel
theorem dX0_init_58 : decode cX0_init 58 = .ok (.iload_n 1, 1) := by decide +kernel
theorem dX0_init_59 : decode cX0_init 59 = .ok (.iconst 4, 1) := by decide +kernel
theorem dX0_init_60 : decode cX0_init 60 = .ok (.if_icmp .ge 41, 3) := by decide +kernel
theorem dX0_init_63 : decode cX0_init 63 = .ok (.aload_n 0, 1) := by decide +kernel
theorem dX0_init_64 : decode cX0_init 64 = .ok (.getfield 9, 3) := by decide +kernel
theorem dX0_init_67 : decode cX0_init 67 = .ok (.iload_n 1, 1) := by decide +kernel
theorem dX0_init_68 : decode cX0_init 68 = .ok (.iconst 1, 1) := by decide +kernel
theorem dX0_init_69 : decode cX0_init 69 = .ok (.iastore, 1) := by decide +kernel
theorem dX0_init_70 : decode cX0_init 70 = .ok (.aload_n 0, 1) := by decide +kernel
theorem dX0_init_71 : decode cX0_init 71 = .ok (.getfield 15, 3) := by decide +kernel
theorem dX0_init_74 : decode cX0_init 74 = .ok (.iload_n 1, 1) := by decide +kernel
theorem dX0_init_75 : decode cX0_init 75 = .ok (.iconst 4, 1) := by decide +kernel
theorem dX0_init_76 : decode cX0_init 76 = .ok (.imul, 1) := by decide +kernel
theorem dX0_init_77 : decode cX0_init 77 = .ok (.iconst 1, 1) := by decide +kernel
theorem dX0_init_78 : decode cX0_init 78 = .ok (.iastore, 1) := by decide +kernel
theorem dX0_init_79 : decode cX0_init 79 = .ok (.aload_n 0, 1) := by decide +kernel
theorem dX0_init_80 : decode cX0_init 80 = .ok (.getfield 21, 3) := by decide +kernel
theorem dX0_init_83 : decode cX0_init 83 = .ok (.iload_n 1, 1) := by decide +kernel
theorem dX0_init_84 : decode cX0_init 84 = .ok (.iload_n 1, 1) := by decide +kernel
theorem dX0_init_85 : decode cX0_init 85 = .ok (.iastore, 1) := by decide +kernel
theorem dX0_init_86 : decode cX0_init 86 = .ok (.aload_n 0, 1) := by decide +kernel
theorem dX0_init_87 : decode cX0_init 87 = .ok (.getfield 24, 3) := by decide +kernel
theorem dX0_init_90 : decode cX0_init 90 = .ok (.iload_n 1, 1) := by decide +kernel
theorem dX0_init_91 : decode cX0_init 91 = .ok (.iconst 1, 1) := by decide +kernel
theorem dX0_init_92 : decode cX0_init 92 = .ok (.iload_n 1, 1) := by decide +kernel
theorem dX0_init_93 : decode cX0_init 93 = .ok (.ishl, 1) := by decide +kernel
theorem dX0_init_94 : decode cX0_init 94 = .ok (.iastore, 1) := by decide +kernel
theorem dX0_init_95 : decode cX0_init 95 = .ok (.iinc 1 1, 3) := by decide +kernel
theorem dX0_init_98 : decode cX0_init 98 = .ok (.goto (-40), 3) := by decide +kernel
theorem dX0_init_101 : decode cX0_init 101 = .ok (.aload_n 0, 1) := by decide +kernel
theorem dX0_init_102 : decode cX0_init 102 = .ok (.iconst 0, 1) := by decide +kernel
theorem dX0_init_103 : decode cX0_init 103 = .ok (.putfield 33, 3) := by decide +kernel
theorem dX0_init_106 : decode cX0_init 106 = .ok (.return_, 1) := by decide +kernel
theorem dX0_copy_0 : decode cX0_copy 0 = .ok (.iconst 0, 1) := by decide +kernel
theorem dX0_copy_1 : decode cX0_copy 1 = .ok (.istore_n 2, 1) := by decide +kernel
theorem dX0_copy_2 : decode cX0_copy 2 = .ok (.iload_n 2, 1) := by decide +kernel
theorem dX0_copy_3 : decode cX0_copy 3 = .ok (.iconst 4, 1) := by decide +kernel
theorem dX0_copy_4 : decode cX0_copy 4 = .ok (.if_icmp .ge 57, 3) := by decide +kernel
theorem dX0_copy_7 : decode cX0_copy 7 = .ok (.aload_n 0, 1) := by decide +kernel
theorem dX0_copy_8 : decode cX0_copy 8 = .ok (.getfield 9, 3) := by decide +kernel
theorem dX0_copy_11 : decode cX0_copy 11 = .ok (.iload_n 2, 1) := by decide +kernel
theorem dX0_copy_12 : decode cX0_copy 12 = .ok (.aload_n 1, 1) := by decide +kernel
theorem dX0_copy_13 : decode cX0_copy 13 = .ok (.getfield 9, 3) := by decide +kernel
theorem dX0_copy_16 : decode cX0_copy 16 = .ok (.iload_n 2, 1) := by decide +kernel
theorem dX0_copy_17 : decode cX0_copy 17 = .ok (.iaload, 1) := by decide +kernel
theorem dX0_copy_18 : decode cX0_copy 18 = .ok (.iastore, 1) := by decide +kernel
theorem dX0_copy_19 : decode cX0_copy 19 = .ok (.aload_n 0, 1) := by decide +kernel
theorem dX0_copy_20 : decode cX0_copy 20 = .ok (.getfield 18, 3) := by decide +kernel
theorem dX0_copy_23 : decode cX0_copy 23 = .ok (.iload_n 2, 1) := by decide +kernel
theorem dX0_copy_24 : decode cX0_copy 24 = .ok (.aload_n 1, 1) := by decide +kernel
theorem dX0_copy_25 : decode cX0_copy 25 = .ok (.getfield 18, 3) := by decide +kernel
theorem dX0_copy_28 : decode cX0_copy 28 = .ok (.iload_n 2, 1) := by decide +kernel
theorem dX0_copy_29 : decode cX0_copy 29 = .ok (.iaload, 1) := by decide +kernel
theorem dX0_copy_30 : decode cX0_copy 30 = .ok (.iastore, 1) := by decide +kernel
theorem dX0_copy_31 : decode cX0_copy 31 = .ok (.aload_n 0, 1) := by decide +kernel
theorem dX0_copy_32 : decode cX0_copy 32 = .ok (.getfield 21, 3) := by decide +kernel
theorem dX0_copy_35 : decode cX0_copy 35 = .ok (.iload_n 2, 1) := by decide +kernel
theorem dX0_copy_36 : decode cX0_copy 36 = .ok (.aload_n 1, 1) := by decide +kernel
theorem dX0_copy_37 : decode cX0_copy 37 = .ok (.getfield 21, 3) := by decide +kernel
theorem dX0_copy_40 : decode cX0_copy 40 = .ok (.iload_n 2, 1) := by decide +kernel
theorem dX0_copy_41 : decode cX0_copy 41 = .ok (.iaload, 1) := by decide +kernel
theorem dX0_copy_42 : decode cX0_copy 42 = .ok (.iastore, 1) := by decide +kernel
theorem dX0_copy_43 : decode cX0_copy 43 = .ok (.aload_n 0, 1) := by decide +kernel
theorem dX0_copy_44 : decode cX0_copy 44 = .ok (.getfield 24, 3) := by decide +kernel
theorem dX0_copy_47 : decode cX0_copy 47 = .ok (.iload_n 2, 1) := by decide +kernel
theorem dX0_copy_48 : decode cX0_copy 48 = .ok (.aload_n 1, 1) := by decide +kernel
theorem dX0_copy_49 : decode cX0_copy 49 = .ok (.getfield 24, 3) := by decide +kernel
theorem dX0_copy_52 : decode cX0_copy 52 = .ok (.iload_n 2, 1) := by decide +kernel
theorem dX0_copy_53 : decode cX0_copy 53 = .ok (.iaload, 1) := by decide +kernel
theorem dX0_copy_54 : decode cX0_copy 54 = .ok (.iastore, 1) := by decide +kernel
theorem dX0_copy_55 : decode cX0_copy 55 = .ok (.iinc 2 1, 3) := by decide +kernel
theorem dX0_copy_58 : decode cX0_copy 58 = .ok (.goto (-56), 3) := by decide +kernel
theorem dX0_copy_61 : decode cX0_copy 61 = .ok (.iconst 0, 1) := by decide +kernel
theorem dX0_copy_62 : decode cX0_copy 62 = .ok (.istore_n 2, 1) := by decide +kernel
theorem dX0_copy_63 : decode cX0_copy 63 = .ok (.iload_n 2, 1) := by decide +kernel
theorem dX0_copy_64 : decode cX0_copy 64 = .ok (.bipush 16, 2) := by decide +kernel
theorem dX0_copy_66 : decode cX0_copy 66 = .ok (.if_icmp .ge 33, 3) := by decide +kernel
theorem dX0_copy_69 : decode cX0_copy 69 = .ok (.aload_n 0, 1) := by decide +kernel
theorem dX0_copy_70 : decode cX0_copy 70 = .ok (.getfield 15, 3) := by decide +kernel
theorem dX0_copy_73 : decode cX0_copy 73 = .ok (.iload_n 2, 1) := by decide +kernel
theorem dX0_copy_74 : decode cX0_copy 74 = .ok (.aload_n 1, 1) := by decide +kernel
theorem dX0_copy_75 : decode cX0_copy 75 = .ok (.getfield 15, 3) := by decide +kernel
theorem dX0_copy_78 : decode cX0_copy 78 = .ok (.iload_n 2, 1) := by decide +kernel
theorem dX0_copy_79 : decode cX0_copy 79 = .ok (.iaload, 1) := by decide +kernel
theorem dX0_copy_80 : decode cX0_copy 80 = .ok (.iastore, 1) := by decide +kernel
theorem dX0_copy_81 : decode cX0_copy 81 = .ok (.aload_n 0, 1) := by decide +kernel
theorem dX0_copy_82 : decode cX0_copy 82 = .ok (.getfield 30, 3) := by decide +kernel
theorem dX0_copy_85 : decode cX0_copy 85 = .ok (.iload_n 2, 1) := by decide +kernel
theorem dX0_copy_86 : decode cX0_copy 86 = .ok (.aload_n 1, 1) := by decide +kernel
theorem dX0_copy_87 : decode cX0_copy 87 = .ok (.getfield 30, 3) := by decide +kernel
theorem dX0_copy_90 : decode cX0_copy 90 = .ok (.iload_n 2, 1) := by decide +kernel
theorem dX0_copy_91 : decode cX0_copy 91 = .ok (.iaload, 1) := by decide +kernel
theorem dX0_copy_92 : decode cX0_copy 92 = .ok (.iastore, 1) := by decide +kernel
theorem dX0_copy_93 : decode cX0_copy 93 = .ok (.iinc 2 1, 3) := by decide +kernel
theorem dX0_copy_96 : decode cX0_copy 96 = .ok (.goto (-33), 3) := by decide +kernel
theorem dX0_copy_99 : decode cX0_copy 99 = .ok (.iconst 0, 1) := by decide +kernel
theorem dX0_copy_100 : decode cX0_copy 100 = .ok (.istore_n 2, 1) := by decide +kernel
theorem dX0_copy_101 : decode cX0_copy 101 = .ok (.iload_n 2, 1) := by decide +kernel
theorem dX0_copy_102 : decode cX0_copy 102 = .ok (.bipush 6, 2) := by decide +kernel
theorem dX0_copy_104 : decode cX0_copy 104 = .ok (.if_icmp .ge 21, 3) := by decide +kernel
theorem dX0_copy_107 : decode cX0_copy 107 = .ok (.aload_n 0, 1) := by decide +kernel
theorem dX0_copy_108 : decode cX0_copy 108 = .ok (.getfield 27, 3) := by decide +kernel
theorem dX0_copy_111 : decode cX0_copy 111 = .ok (.iload_n 2, 1) := by decide +kernel
theorem dX0_copy_112 : decode cX0_copy 112 = .ok (.aload_n 1, 1) := by decide +kernel
theorem dX0_copy_113 : decode cX0_copy 113 = .ok (.getfield 27, 3) := by decide +kernel
theorem dX0_copy_116 : decode cX0_copy 116 = .ok (.iload_n 2, 1) := by decide +kernel
theorem dX0_copy_117 : decode cX0_copy 117 = .ok (.iaload, 1) := by decide +kernel
theorem dX0_copy_118 : decode cX0_copy 118 = .ok (.iastore, 1) := by decide +kernel
theorem dX0_copy_119 : decode cX0_copy 119 = .ok (.iinc 2 1, 3) := by decide +kernel
theorem dX0_copy_122 : decode cX0_copy 122 = .ok (.goto (-21), 3) := by decide +kernel
theorem dX0_copy_125 : decode cX0_copy 125 = .ok (.aload_n 0, 1) := by decide +kernel
theorem dX0_copy_126 : decode cX0_copy 126 = .ok (.aload_n 1, 1) := by decide +kernel
theorem dX0_copy_127 : decode cX0_copy 127 = .ok (.getfield 37, 3) := by decide +kernel
theorem dX0_copy_130 : decode cX0_copy 130 = .ok (.putfield 37, 3) := by decide +kernel
theorem dX0_copy_133 : decode cX0_copy 133 = .ok (.aload_n 0, 1) := by decide +kernel
theorem dX0_copy_134 : decode cX0_copy 134 = .ok (.aload_n 1, 1) := by decide +kernel
theorem dX0_copy_135 : decode cX0_copy 135 = .ok (.getfield 33, 3) := by decide +kernel
theorem dX0_copy_138 : decode cX0_copy 138 = .ok (.putfield 33, 3) := by decide +kernel
theorem dX0_copy_141 : decode cX0_copy 141 = .ok (.aload_n 0, 1) := by decide +kernel
theorem dX0_copy_142 : decode cX0_copy 142 = .ok (.aload_n 1, 1) := by decide +kernel
theorem dX0_copy_143 : decode cX0_copy 143 = .ok (.getfield 40, 3) := by decide +kernel
theorem dX0_copy_146 : decode cX0_copy 146 = .ok (.putfield 40, 3) := by decide +kernel
theorem dX0_copy_149 : decode cX0_copy 149 = .ok (.return_, 1) := by decide +kernel
theorem dX0_write_0 : decode cX0_write 0 = .ok (.iconst 0, 1) := by decide +kernel
theorem dX0_write_1 : decode cX0_write 1 = .ok (.istore_n 3, 1) := by decide +kernel
theorem dX0_write_2 : decode cX0_write 2 = .ok (.iconst 0, 1) := by decide +kernel
theorem dX0_write_3 : decode cX0_write 3 = .ok (.istore 4, 2) := by decide +kernel
theorem dX0_write_5 : decode cX0_write 5 = .ok (.iconst 0, 1) := by decide +kernel
theorem dX0_write_6 : decode cX0_write 6 = .ok (.istore 5, 2) := by decide +kernel
theorem dX0_write_8 : decode cX0_write 8 = .ok (.iload 5, 2) := by decide +kernel
theorem dX0_write_10 : decode cX0_write 10 = .ok (.aload_n 2, 1) := by decide +kernel
theorem dX0_write_11 : decode cX0_write 11 = .ok (.getfield 43, 3) := by decide +kernel
theorem dX0_write_14 : decode cX0_write 14 = .ok (.if_icmp .ge 60, 3) := by decide +kernel
theorem dX0_write_17 : decode cX0_write 17 = .ok (.aload_n 2, 1) := by decide +kernel
theorem dX0_write_18 : decode cX0_write 18 = .ok (.iload 5, 2) := by decide +kernel
theorem dX0_write_20 : decode cX0_write 20 = .ok (.invokevirtual 48, 3) := by decide +kernel
theorem dX0_write_23 : decode cX0_write 23 = .ok (.istore 6, 2) := by decide +kernel
theorem dX0_write_25 : decode cX0_write 25 = .ok (.iload 6, 2) := by decide +kernel
theorem dX0_write_27 : decode cX0_write 27 = .ok (.bipush 58, 2) := by decide +kernel
theorem dX0_write_29 : decode cX0_write 29 = .ok (.if_icmp .ne 16, 3) := by decide +kernel
theorem dX0_write_32 : decode cX0_write 32 = .ok (.iload 4, 2) := by decide +kernel
theorem dX0_write_34 : decode cX0_write 34 = .ok (.iconst 1, 1) := by decide +kernel
theorem dX0_write_35 : decode cX0_write 35 = .ok (.iload_n 3, 1) := by decide +kernel
theorem dX0_write_36 : decode cX0_write 36 = .ok (.iconst 1, 1) := by decide +kernel
theorem dX0_write_37 : decode cX0_write 37 = .ok (.isub, 1) := by decide +kernel
theorem dX0_write_38 : decode cX0_write 38 = .ok (.ishl, 1) := by decide +kernel
theorem dX0_write_39 : decode cX0_write 39 = .ok (.ior, 1) := by decide +kernel
theorem dX0_write_40 : decode cX0_write 40 = .ok (.istore 4, 2) := by decide +kernel
theorem dX0_write_42 : decode cX0_write 42 = .ok (.goto 26, 3) := by decide +kernel
theorem dX0_write_45 : decode cX0_write 45 = .ok (.iload_n 3, 1) := by decide +kernel
theorem dX0_write_46 : decode cX0_write 46 = .ok (.iconst 4, 1) := by decide +kernel
theorem dX0_write_47 : decode cX0_write 47 = .ok (.if_icmp .ge 21, 3) := by decide +kernel
theorem dX0_write_50 : decode cX0_write 50 = .ok (.aload_n 0, 1) := by decide +kernel
theorem dX0_write_51 : decode cX0_write 51 = .ok (.getfield 15, 3) := by decide +kernel
theorem dX0_write_54 : decode cX0_write 54 = .ok (.iload_n 1, 1) := by decide +kernel
theorem dX0_write_55 : decode cX0_write 55 = .ok (.iconst 4, 1) := by decide +kernel
theorem dX0_write_56 : decode cX0_write 56 = .ok (.imul, 1) := by decide +kernel
theorem dX0_write_57 : decode cX0_write 57 = .ok (.iload_n 3, 1) := by decide +kernel
theorem dX0_write_58 : decode cX0_write 58 = .ok (.iadd, 1) := by decide +kernel
theorem dX0_write_59 : decode cX0_write 59 = .ok (.iload 6, 2) := by decide +kernel
theorem dX0_write_61 : decode cX0_write 61 = .ok (.bipush 48, 2) := by decide +kernel
theorem dX0_write_63 : decode cX0_write 63 = .ok (.isub, 1) := by decide +kernel
theorem dX0_write_64 : decode cX0_write 64 = .ok (.iastore, 1) := by decide +kernel
theorem dX0_write_65 : decode cX0_write 65 = .ok (.iinc 3 1, 3) := by decide +kernel
theorem dX0_write_68 : decode cX0_write 68 = .ok (.iinc 5 1, 3) := by decide +kernel
theorem dX0_write_71 : decode cX0_write 71 = .ok (.goto (-63), 3) := by decide +kernel
theorem dX0_write_74 : decode cX0_write 74 = .ok (.aload_n 0, 1) := by decide +kernel
theorem dX0_write_75 : decode cX0_write 75 = .ok (.getfield 9, 3) := by decide +kernel
theorem dX0_write_78 : decode cX0_write 78 = .ok (.iload_n 1, 1) := by decide +kernel
theorem dX0_write_79 : decode cX0_write 79 = .ok (.iload_n 3, 1) := by decide +kernel
theorem dX0_write_80 : decode cX0_write 80 = .ok (.iastore, 1) := by decide +kernel
theorem dX0_write_81 : decode cX0_write 81 = .ok (.aload_n 0, 1) := by decide +kernel
theorem dX0_write_82 : decode cX0_write 82 = .ok (.getfield 18, 3) := by decide +kernel
theorem dX0_write_85 : decode cX0_write 85 = .ok (.iload_n 1, 1) := by decide +kernel
theorem dX0_write_86 : decode cX0_write 86 = .ok (.iload 4, 2) := by decide +kernel
theorem dX0_write_88 : decode cX0_write 88 = .ok (.iastore, 1) := by decide +kernel
theorem dX0_write_89 : decode cX0_write 89 = .ok (.aload_n 0, 1) := by decide +kernel
theorem dX0_write_90 : decode cX0_write 90 = .ok (.iload_n 1, 1) := by decide +kernel
theorem dX0_write_91 : decode cX0_write 91 = .ok (.iload_n 3, 1) := by decide +kernel
theorem dX0_write_92 : decode cX0_write 92 = .ok (.invokevirtual 52, 3) := by decide +kernel
theorem dX0_write_95 : decode cX0_write 95 = .ok (.return_, 1) := by decide +kernel
theorem dX0_minutesAt_0 : decode cX0_minutesAt 0 = .ok (.iload_n 2, 1) := by decide +kernel
theorem dX0_minutesAt_1 : decode cX0_minutesAt 1 = .ok (.iconst 0, 1) := by decide +kernel
theorem dX0_minutesAt_2 : decode cX0_minutesAt 2 = .ok (.iconst 3, 1) := by decide +kernel
theorem dX0_minutesAt_3 : decode cX0_minutesAt 3 = .ok (.invokestatic 56, 3) := by decide +kernel
theorem dX0_minutesAt_6 : decode cX0_minutesAt 6 = .ok (.ifCond .eq 16, 3) := by decide +kernel
theorem dX0_minutesAt_9 : decode cX0_minutesAt 9 = .ok (.aload_n 0, 1) := by decide +kernel
theorem dX0_minutesAt_10 : decode cX0_minutesAt 10 = .ok (.getfield 15, 3) := by decide +kernel
theorem dX0_minutesAt_13 : decode cX0_minutesAt 13 = .ok (.iload_n 1, 1) := by decide +kernel
theorem dX0_minutesAt_14 : decode cX0_minutesAt 14 = .ok (.iconst 4, 1) := by decide +kernel
theorem dX0_minutesAt_15 : decode cX0_minutesAt 15 = .ok (.imul, 1) := by decide +kernel
theorem dX0_minutesAt_16 : decode cX0_minutesAt 16 = .ok (.iload_n 2, 1) := by decide +kernel
theorem dX0_minutesAt_17 : decode cX0_minutesAt 17 = .ok (.iadd, 1) := by decide +kernel
theorem dX0_minutesAt_18 : decode cX0_minutesAt 18 = .ok (.iaload, 1) := by decide +kernel
theorem dX0_minutesAt_19 : decode cX0_minutesAt 19 = .ok (.goto 4, 3) := by decide +kernel
theorem dX0_minutesAt_22 : decode cX0_minutesAt 22 = .ok (.iconst 0, 1) := by decide +kernel
theorem dX0_minutesAt_23 : decode cX0_minutesAt 23 = .ok (.ireturn, 1) := by decide +kernel
theorem dX0_minutesOf_0 : decode cX0_minutesOf 0 = .ok (.iconst 0, 1) := by decide +kernel
theorem dX0_minutesOf_1 : decode cX0_minutesOf 1 = .ok (.istore_n 3, 1) := by decide +kernel
theorem dX0_minutesOf_2 : decode cX0_minutesOf 2 = .ok (.iconst 0, 1) := by decide +kernel
theorem dX0_minutesOf_3 : decode cX0_minutesOf 3 = .ok (.istore 4, 2) := by decide +kernel
theorem dX0_minutesOf_5 : decode cX0_minutesOf 5 = .ok (.iload 4, 2) := by decide +kernel
theorem dX0_minutesOf_7 : decode cX0_minutesOf 7 = .ok (.iload_n 2, 1) := by decide +kernel
theorem dX0_minutesOf_8 : decode cX0_minutesOf 8 = .ok (.if_icmp .ge 19, 3) := by decide +kernel
theorem dX0_minutesOf_11 : decode cX0_minutesOf 11 = .ok (.iload_n 3, 1) := by decide +kernel
theorem dX0_minutesOf_12 : decode cX0_minutesOf 12 = .ok (.aload_n 0, 1) := by decide +kernel
theorem dX0_minutesOf_13 : decode cX0_minutesOf 13 = .ok (.iload_n 1, 1) := by decide +kernel
theorem dX0_minutesOf_14 : decode cX0_minutesOf 14 = .ok (.iload 4, 2) := by decide +kernel
theorem dX0_minutesOf_16 : decode cX0_minutesOf 16 = .ok (.invokevirtual 60, 3) := by decide +kernel
theorem dX0_minutesOf_19 : decode cX0_minutesOf 19 = .ok (.iadd, 1) := by decide +kernel
theorem dX0_minutesOf_20 : decode cX0_minutesOf 20 = .ok (.istore_n 3, 1) := by decide +kernel
theorem dX0_minutesOf_21 : decode cX0_minutesOf 21 = .ok (.iinc 4 1, 3) := by decide +kernel
theorem dX0_minutesOf_24 : decode cX0_minutesOf 24 = .ok (.goto (-19), 3) := by decide +kernel
theorem dX0_minutesOf_27 : decode cX0_minutesOf 27 = .ok (.iload_n 3, 1) := by decide +kernel
theorem dX0_minutesOf_28 : decode cX0_minutesOf 28 = .ok (.ireturn, 1) := by decide +kernel
theorem dX0_toldBy_0 : decode cX0_toldBy 0 = .ok (.iconst 0, 1) := by decide +kernel
theorem dX0_toldBy_1 : decode cX0_toldBy 1 = .ok (.istore_n 2, 1) := by decide +kernel
theorem dX0_toldBy_2 : decode cX0_toldBy 2 = .ok (.iconst 0, 1) := by decide +kernel
theorem dX0_toldBy_3 : decode cX0_toldBy 3 = .ok (.istore_n 3, 1) := by decide +kernel
theorem dX0_toldBy_4 : decode cX0_toldBy 4 = .ok (.iload_n 3, 1) := by decide +kernel
theorem dX0_toldBy_5 : decode cX0_toldBy 5 = .ok (.iconst 4, 1) := by decide +kernel
theorem dX0_toldBy_6 : decode cX0_toldBy 6 = .ok (.if_icmp .ge 25, 3) := by decide +kernel
theorem dX0_toldBy_9 : decode cX0_toldBy 9 = .ok (.aload_n 0, 1) := by decide +kernel
theorem dX0_toldBy_10 : decode cX0_toldBy 10 = .ok (.getfield 21, 3) := by decide +kernel
theorem dX0_toldBy_13 : decode cX0_toldBy 13 = .ok (.iload_n 3, 1) := by decide +kernel
theorem dX0_toldBy_14 : decode cX0_toldBy 14 = .ok (.iaload, 1) := by decide +kernel
theorem dX0_toldBy_15 : decode cX0_toldBy 15 = .ok (.iload_n 1, 1) := by decide +kernel
theorem dX0_toldBy_16 : decode cX0_toldBy 16 = .ok (.if_icmp .ne 9, 3) := by decide +kernel
theorem dX0_toldBy_19 : decode cX0_toldBy 19 = .ok (.iload_n 2, 1) := by decide +kernel
theorem dX0_toldBy_20 : decode cX0_toldBy 20 = .ok (.iconst 1, 1) := by decide +kernel
theorem dX0_toldBy_21 : decode cX0_toldBy 21 = .ok (.iload_n 3, 1) := by decide +kernel
theorem dX0_toldBy_22 : decode cX0_toldBy 22 = .ok (.ishl, 1) := by decide +kernel
theorem dX0_toldBy_23 : decode cX0_toldBy 23 = .ok (.ior, 1) := by decide +kernel
theorem dX0_toldBy_24 : decode cX0_toldBy 24 = .ok (.istore_n 2, 1) := by decide +kernel
theorem dX0_toldBy_25 : decode cX0_toldBy 25 = .ok (.iinc 3 1, 3) := by decide +kernel
theorem dX0_toldBy_28 : decode cX0_toldBy 28 = .ok (.goto (-24), 3) := by decide +kernel
theorem dX0_toldBy_31 : decode cX0_toldBy 31 = .ok (.iload_n 2, 1) := by decide +kernel
theorem dX0_toldBy_32 : decode cX0_toldBy 32 = .ok (.ireturn, 1) := by decide +kernel
theorem dX0_hasWait_0 : decode cX0_hasWait 0 = .ok (.iconst 0, 1) := by decide +kernel
theorem dX0_hasWait_1 : decode cX0_hasWait 1 = .ok (.istore 4, 2) := by decide +kernel
theorem dX0_hasWait_3 : decode cX0_hasWait 3 = .ok (.iload 4, 2) := by decide +kernel
theorem dX0_hasWait_5 : decode cX0_hasWait 5 = .ok (.aload_n 0, 1) := by decide +kernel
theorem dX0_hasWait_6 : decode cX0_hasWait 6 = .ok (.getfield 37, 3) := by decide +kernel
theorem dX0_hasWait_9 : decode cX0_hasWait 9 = .ok (.if_icmp .ge 32, 3) := by decide +kernel
theorem dX0_hasWait_12 : decode cX0_hasWait 12 = .ok (.aload_n 0, 1) := by decide +kernel
theorem dX0_hasWait_13 : decode cX0_hasWait 13 = .ok (.getfield 27, 3) := by decide +kernel
theorem dX0_hasWait_16 : decode cX0_hasWait 16 = .ok (.iload 4, 2) := by decide +kernel
theorem dX0_hasWait_18 : decode cX0_hasWait 18 = .ok (.iaload, 1) := by decide +kernel
theorem dX0_hasWait_19 : decode cX0_hasWait 19 = .ok (.bipush 100, 2) := by decide +kernel
theorem dX0_hasWait_21 : decode cX0_hasWait 21 = .ok (.iload_n 1, 1) := by decide +kernel
theorem dX0_hasWait_22 : decode cX0_hasWait 22 = .ok (.imul, 1) := by decide +kernel
theorem dX0_hasWait_23 : decode cX0_hasWait 23 = .ok (.bipush 10, 2) := by decide +kernel
theorem dX0_hasWait_25 : decode cX0_hasWait 25 = .ok (.iload_n 2, 1) := by decide +kernel
theorem dX0_hasWait_26 : decode cX0_hasWait 26 = .ok (.imul, 1) := by decide +kernel
theorem dX0_hasWait_27 : decode cX0_hasWait 27 = .ok (.iadd, 1) := by decide +kernel
theorem dX0_hasWait_28 : decode cX0_hasWait 28 = .ok (.iload_n 3, 1) := by decide +kernel
theorem dX0_hasWait_29 : decode cX0_hasWait 29 = .ok (.iadd, 1) := by decide +kernel
theorem dX0_hasWait_30 : decode cX0_hasWait 30 = .ok (.if_icmp .ne 5, 3) := by decide +kernel
theorem dX0_hasWait_33 : decode cX0_hasWait 33 = .ok (.iconst 1, 1) := by decide +kernel
theorem dX0_hasWait_34 : decode cX0_hasWait 34 = .ok (.ireturn, 1) := by decide +kernel
theorem dX0_hasWait_35 : decode cX0_hasWait 35 = .ok (.iinc 4 1, 3) := by decide +kernel
theorem dX0_hasWait_38 : decode cX0_hasWait 38 = .ok (.goto (-35), 3) := by decide +kernel
theorem dX0_hasWait_41 : decode cX0_hasWait 41 = .ok (.iconst 0, 1) := by decide +kernel
theorem dX0_hasWait_42 : decode cX0_hasWait 42 = .ok (.ireturn, 1) := by decide +kernel
theorem dX0_addWait_0 : decode cX0_addWait 0 = .ok (.aload_n 0, 1) := by decide +kernel
theorem dX0_addWait_1 : decode cX0_addWait 1 = .ok (.getfield 37, 3) := by decide +kernel
theorem dX0_addWait_4 : decode cX0_addWait 4 = .ok (.istore 4, 2) := by decide +kernel
theorem dX0_addWait_6 : decode cX0_addWait 6 = .ok (.iload 4, 2) := by decide +kernel
theorem dX0_addWait_8 : decode cX0_addWait 8 = .ok (.bipush 6, 2) := by decide +kernel
theorem dX0_addWait_10 : decode cX0_addWait 10 = .ok (.if_icmp .ge 35, 3) := by decide +kernel
theorem dX0_addWait_13 : decode cX0_addWait 13 = .ok (.aload_n 0, 1) := by decide +kernel
theorem dX0_addWait_14 : decode cX0_addWait 14 = .ok (.getfield 27, 3) := by decide +kernel
theorem dX0_addWait_17 : decode cX0_addWait 17 = .ok (.iload 4, 2) := by decide +kernel
theorem dX0_addWait_19 : decode cX0_addWait 19 = .ok (.bipush 100, 2) := by decide +kernel
theorem dX0_addWait_21 : decode cX0_addWait 21 = .ok (.iload_n 1, 1) := by decide +kernel
theorem dX0_addWait_22 : decode cX0_addWait 22 = .ok (.imul, 1) := by decide +kernel
theorem dX0_addWait_23 : decode cX0_addWait 23 = .ok (.bipush 10, 2) := by decide +kernel
theorem dX0_addWait_25 : decode cX0_addWait 25 = .ok (.iload_n 2, 1) := by decide +kernel
theorem dX0_addWait_26 : decode cX0_addWait 26 = .ok (.imul, 1) := by decide +kernel
theorem dX0_addWait_27 : decode cX0_addWait 27 = .ok (.iadd, 1) := by decide +kernel
theorem dX0_addWait_28 : decode cX0_addWait 28 = .ok (.iload_n 3, 1) := by decide +kernel
theorem dX0_addWait_29 : decode cX0_addWait 29 = .ok (.iadd, 1) := by decide +kernel
theorem dX0_addWait_30 : decode cX0_addWait 30 = .ok (.iastore, 1) := by decide +kernel
theorem dX0_addWait_31 : decode cX0_addWait 31 = .ok (.aload_n 0, 1) := by decide +kernel
theorem dX0_addWait_32 : decode cX0_addWait 32 = .ok (.dup, 1) := by decide +kernel
theorem dX0_addWait_33 : decode cX0_addWait 33 = .ok (.getfield 37, 3) := by decide +kernel
theorem dX0_addWait_36 : decode cX0_addWait 36 = .ok (.iconst 1, 1) := by decide +kernel
theorem dX0_addWait_37 : decode cX0_addWait 37 = .ok (.iadd, 1) := by decide +kernel
theorem dX0_addWait_38 : decode cX0_addWait 38 = .ok (.putfield 37, 3) := by decide +kernel
theorem dX0_addWait_41 : decode cX0_addWait 41 = .ok (.aload_n 0, 1) := by decide +kernel
theorem dX0_addWait_42 : decode cX0_addWait 42 = .ok (.invokevirtual 64, 3) := by decide +kernel
theorem dX0_addWait_45 : decode cX0_addWait 45 = .ok (.iload 4, 2) := by decide +kernel
theorem dX0_addWait_47 : decode cX0_addWait 47 = .ok (.ireturn, 1) := by decide +kernel
theorem dX0_removeWait_0 : decode cX0_removeWait 0 = .ok (.iload_n 1, 1) := by decide +kernel
theorem dX0_removeWait_1 : decode cX0_removeWait 1 = .ok (.istore_n 2, 1) := by decide +kernel
theorem dX0_removeWait_2 : decode cX0_removeWait 2 = .ok (.iload_n 2, 1) := by decide +kernel
theorem dX0_removeWait_3 : decode cX0_removeWait 3 = .ok (.aload_n 0, 1) := by decide +kernel
theorem dX0_removeWait_4 : decode cX0_removeWait 4 = .ok (.getfield 37, 3) := by decide +kernel
theorem dX0_removeWait_7 : decode cX0_removeWait 7 = .ok (.iconst 1, 1) := by decide +kernel
theorem dX0_removeWait_8 : decode cX0_removeWait 8 = .ok (.isub, 1) := by decide +kernel
theorem dX0_removeWait_9 : decode cX0_removeWait 9 = .ok (.if_icmp .ge 23, 3) := by decide +kernel
theorem dX0_removeWait_12 : decode cX0_removeWait 12 = .ok (.aload_n 0, 1) := by decide +kernel
theorem dX0_removeWait_13 : decode cX0_removeWait 13 = .ok (.getfield 27, 3) := by decide +kernel
theorem dX0_removeWait_16 : decode cX0_removeWait 16 = .ok (.iload_n 2, 1) := by decide +kernel
theorem dX0_removeWait_17 : decode cX0_removeWait 17 = .ok (.aload_n 0, 1) := by decide +kernel
theorem dX0_removeWait_18 : decode cX0_removeWait 18 = .ok (.getfield 27, 3) := by decide +kernel
theorem dX0_removeWait_21 : decode cX0_removeWait 21 = .ok (.iload_n 2, 1) := by decide +kernel
theorem dX0_removeWait_22 : decode cX0_removeWait 22 = .ok (.iconst 1, 1) := by decide +kernel
theorem dX0_removeWait_23 : decode cX0_removeWait 23 = .ok (.iadd, 1) := by decide +kernel
theorem dX0_removeWait_24 : decode cX0_removeWait 24 = .ok (.iaload, 1) := by decide +kernel
theorem dX0_removeWait_25 : decode cX0_removeWait 25 = .ok (.iastore, 1) := by decide +kernel
theorem dX0_removeWait_26 : decode cX0_removeWait 26 = .ok (.iinc 2 1, 3) := by decide +kernel
theorem dX0_removeWait_29 : decode cX0_removeWait 29 = .ok (.goto (-27), 3) := by decide +kernel
theorem dX0_removeWait_32 : decode cX0_removeWait 32 = .ok (.aload_n 0, 1) := by decide +kernel
theorem dX0_removeWait_33 : decode cX0_removeWait 33 = .ok (.dup, 1) := by decide +kernel
theorem dX0_removeWait_34 : decode cX0_removeWait 34 = .ok (.getfield 37, 3) := by decide +kernel
theorem dX0_removeWait_37 : decode cX0_removeWait 37 = .ok (.iconst 1, 1) := by decide +kernel
theorem dX0_removeWait_38 : decode cX0_removeWait 38 = .ok (.isub, 1) := by decide +kernel
theorem dX0_removeWait_39 : decode cX0_removeWait 39 = .ok (.putfield 37, 3) := by decide +kernel
theorem dX0_removeWait_42 : decode cX0_removeWait 42 = .ok (.aload_n 0, 1) := by decide +kernel
theorem dX0_removeWait_43 : decode cX0_removeWait 43 = .ok (.invokevirtual 64, 3) := by decide +kernel
theorem dX0_removeWait_46 : decode cX0_removeWait 46 = .ok (.aload_n 0, 1) := by decide +kernel
theorem dX0_removeWait_47 : decode cX0_removeWait 47 = .ok (.getfield 37, 3) := by decide +kernel
theorem dX0_removeWait_50 : decode cX0_removeWait 50 = .ok (.ireturn, 1) := by decide +kernel
theorem dX0_dropWaitsBeyond_0 : decode cX0_dropWaitsBeyond 0 = .ok (.iconst 0, 1) := by decide +kernel
theorem dX0_dropWaitsBeyond_1 : decode cX0_dropWaitsBeyond 1 = .ok (.istore_n 3, 1) := by decide +kernel
theorem dX0_dropWaitsBeyond_2 : decode cX0_dropWaitsBeyond 2 = .ok (.iconst 0, 1) := by decide +kernel
theorem dX0_dropWaitsBeyond_3 : decode cX0_dropWaitsBeyond 3 = .ok (.istore 4, 2) := by decide +kernel
theorem dX0_dropWaitsBeyond_5 : decode cX0_dropWaitsBeyond 5 = .ok (.iload 4, 2) := by decide +kernel
theorem dX0_dropWaitsBeyond_7 : decode cX0_dropWaitsBeyond 7 = .ok (.aload_n 0, 1) := by decide +kernel
theorem dX0_dropWaitsBeyond_8 : decode cX0_dropWaitsBeyond 8 = .ok (.getfield 37, 3) := by decide +kernel
theorem dX0_dropWaitsBeyond_11 : decode cX0_dropWaitsBeyond 11 = .ok (.if_icmp .ge 57, 3) := by decide +kernel
theorem dX0_dropWaitsBeyond_14 : decode cX0_dropWaitsBeyond 14 = .ok (.aload_n 0, 1) := by decide +kernel
theorem dX0_dropWaitsBeyond_15 : decode cX0_dropWaitsBeyond 15 = .ok (.iload 4, 2) := by decide +kernel
theorem dX0_dropWaitsBeyond_17 : decode cX0_dropWaitsBeyond 17 = .ok (.invokevirtual 67, 3) := by decide +kernel
theorem dX0_dropWaitsBeyond_20 : decode cX0_dropWaitsBeyond 20 = .ok (.iload_n 1, 1) := by decide +kernel
theorem dX0_dropWaitsBeyond_21 : decode cX0_dropWaitsBeyond 21 = .ok (.if_icmp .ne 17, 3) := by decide +kernel
theorem dX0_dropWaitsBeyond_24 : decode cX0_dropWaitsBeyond 24 = .ok (.aload_n 0, 1) := by decide +kernel
theorem dX0_dropWaitsBeyond_25 : decode cX0_dropWaitsBeyond 25 = .ok (.iload 4, 2) := by decide +kernel
theorem dX0_dropWaitsBeyond_27 : decode cX0_dropWaitsBeyond 27 = .ok (.invokevirtual 70, 3) := by decide +kernel
theorem dX0_dropWaitsBeyond_30 : decode cX0_dropWaitsBeyond 30 = .ok (.iload_n 2, 1) := by decide +kernel
theorem dX0_dropWaitsBeyond_31 : decode cX0_dropWaitsBeyond 31 = .ok (.if_icmp .lt 7, 3) := by decide +kernel
theorem dX0_dropWaitsBeyond_34 : decode cX0_dropWaitsBeyond 34 = .ok (.iconst 1, 1) := by decide +kernel
theorem dX0_dropWaitsBeyond_35 : decode cX0_dropWaitsBeyond 35 = .ok (.goto 4, 3) := by decide +kernel
theorem dX0_dropWaitsBeyond_38 : decode cX0_dropWaitsBeyond 38 = .ok (.iconst 0, 1) := by decide +kernel
theorem dX0_dropWaitsBeyond_39 : decode cX0_dropWaitsBeyond 39 = .ok (.istore 5, 2) := by decide +kernel
theorem dX0_dropWaitsBeyond_41 : decode cX0_dropWaitsBeyond 41 = .ok (.iload 5, 2) := by decide +kernel
theorem dX0_dropWaitsBeyond_43 : decode cX0_dropWaitsBeyond 43 = .ok (.ifCond .ne 19, 3) := by decide +kernel
theorem dX0_dropWaitsBeyond_46 : decode cX0_dropWaitsBeyond 46 = .ok (.aload_n 0, 1) := by decide +kernel
theorem dX0_dropWaitsBeyond_47 : decode cX0_dropWaitsBeyond 47 = .ok (.getfield 27, 3) := by decide +kernel
theorem dX0_dropWaitsBeyond_50 : decode cX0_dropWaitsBeyond 50 = .ok (.iload_n 3, 1) := by decide +kernel
theorem dX0_dropWaitsBeyond_51 : decode cX0_dropWaitsBeyond 51 = .ok (.aload_n 0, 1) := by decide +kernel
theorem dX0_dropWaitsBeyond_52 : decode cX0_dropWaitsBeyond 52 = .ok (.getfield 27, 3) := by decide +kernel
theorem dX0_dropWaitsBeyond_55 : decode cX0_dropWaitsBeyond 55 = .ok (.iload 4, 2) := by decide +kernel
theorem dX0_dropWaitsBeyond_57 : decode cX0_dropWaitsBeyond 57 = .ok (.iaload, 1) := by decide +kernel
theorem dX0_dropWaitsBeyond_58 : decode cX0_dropWaitsBeyond 58 = .ok (.iastore, 1) := by decide +kernel
theorem dX0_dropWaitsBeyond_59 : decode cX0_dropWaitsBeyond 59 = .ok (.iinc 3 1, 3) := by decide +kernel
theorem dX0_dropWaitsBeyond_62 : decode cX0_dropWaitsBeyond 62 = .ok (.iinc 4 1, 3) := by decide +kernel
theorem dX0_dropWaitsBeyond_65 : decode cX0_dropWaitsBeyond 65 = .ok (.goto (-60), 3) := by decide +kernel
theorem dX0_dropWaitsBeyond_68 : decode cX0_dropWaitsBeyond 68 = .ok (.aload_n 0, 1) := by decide +kernel
theorem dX0_dropWaitsBeyond_69 : decode cX0_dropWaitsBeyond 69 = .ok (.iload_n 3, 1) := by decide +kernel
theorem dX0_dropWaitsBeyond_70 : decode cX0_dropWaitsBeyond 70 = .ok (.putfield 37, 3) := by decide +kernel
theorem dX0_dropWaitsBeyond_73 : decode cX0_dropWaitsBeyond 73 = .ok (.aload_n 0, 1) := by decide +kernel
theorem dX0_dropWaitsBeyond_74 : decode cX0_dropWaitsBeyond 74 = .ok (.invokevirtual 64, 3) := by decide +kernel
theorem dX0_dropWaitsBeyond_77 : decode cX0_dropWaitsBeyond 77 = .ok (.return_, 1) := by decide +kernel
theorem dX0_gatherNeeds_0 : decode cX0_gatherNeeds 0 = .ok (.iconst 0, 1) := by decide +kernel
theorem dX0_gatherNeeds_1 : decode cX0_gatherNeeds 1 = .ok (.istore_n 1, 1) := by decide +kernel
theorem dX0_gatherNeeds_2 : decode cX0_gatherNeeds 2 = .ok (.iload_n 1, 1) := by decide +kernel
theorem dX0_gatherNeeds_3 : decode cX0_gatherNeeds 3 = .ok (.bipush 16, 2) := by decide +kernel
theorem dX0_gatherNeeds_5 : decode cX0_gatherNeeds 5 = .ok (.if_icmp .ge 16, 3) := by decide +kernel
theorem dX0_gatherNeeds_8 : decode cX0_gatherNeeds 8 = .ok (.aload_n 0, 1) := by decide +kernel
theorem dX0_gatherNeeds_9 : decode cX0_gatherNeeds 9 = .ok (.getfield 30, 3) := by decide +kernel
theorem dX0_gatherNeeds_12 : decode cX0_gatherNeeds 12 = .ok (.iload_n 1, 1) := by decide +kernel
theorem dX0_gatherNeeds_13 : decode cX0_gatherNeeds 13 = .ok (.iconst 0, 1) := by decide +kernel
theorem dX0_gatherNeeds_14 : decode cX0_gatherNeeds 14 = .ok (.iastore, 1) := by decide +kernel
theorem dX0_gatherNeeds_15 : decode cX0_gatherNeeds 15 = .ok (.iinc 1 1, 3) := by decide +kernel
theorem dX0_gatherNeeds_18 : decode cX0_gatherNeeds 18 = .ok (.goto (-16), 3) := by decide +kernel
theorem dX0_gatherNeeds_21 : decode cX0_gatherNeeds 21 = .ok (.iconst 0, 1) := by decide +kernel
theorem dX0_gatherNeeds_22 : decode cX0_gatherNeeds 22 = .ok (.istore_n 1, 1) := by decide +kernel
theorem dX0_gatherNeeds_23 : decode cX0_gatherNeeds 23 = .ok (.iload_n 1, 1) := by decide +kernel
theorem dX0_gatherNeeds_24 : decode cX0_gatherNeeds 24 = .ok (.aload_n 0, 1) := by decide +kernel
theorem dX0_gatherNeeds_25 : decode cX0_gatherNeeds 25 = .ok (.getfield 37, 3) := by decide +kernel
theorem dX0_gatherNeeds_28 : decode cX0_gatherNeeds 28 = .ok (.if_icmp .ge 37, 3) := by decide +kernel
theorem dX0_gatherNeeds_31 : decode cX0_gatherNeeds 31 = .ok (.aload_n 0, 1) := by decide +kernel
theorem dX0_gatherNeeds_32 : decode cX0_gatherNeeds 32 = .ok (.getfield 30, 3) := by decide +kernel
theorem dX0_gatherNeeds_35 : decode cX0_gatherNeeds 35 = .ok (.aload_n 0, 1) := by decide +kernel
theorem dX0_gatherNeeds_36 : decode cX0_gatherNeeds 36 = .ok (.iload_n 1, 1) := by decide +kernel
theorem dX0_gatherNeeds_37 : decode cX0_gatherNeeds 37 = .ok (.invokevirtual 67, 3) := by decide +kernel
theorem dX0_gatherNeeds_40 : decode cX0_gatherNeeds 40 = .ok (.iconst 4, 1) := by decide +kernel
theorem dX0_gatherNeeds_41 : decode cX0_gatherNeeds 41 = .ok (.imul, 1) := by decide +kernel
theorem dX0_gatherNeeds_42 : decode cX0_gatherNeeds 42 = .ok (.aload_n 0, 1) := by decide +kernel
theorem dX0_gatherNeeds_43 : decode cX0_gatherNeeds 43 = .ok (.iload_n 1, 1) := by decide +kernel
theorem dX0_gatherNeeds_44 : decode cX0_gatherNeeds 44 = .ok (.invokevirtual 70, 3) := by decide +kernel
theorem dX0_gatherNeeds_47 : decode cX0_gatherNeeds 47 = .ok (.iadd, 1) := by decide +kernel
theorem dX0_gatherNeeds_48 : decode cX0_gatherNeeds 48 = .ok (.dup2, 1) := by decide +kernel
theorem dX0_gatherNeeds_49 : decode cX0_gatherNeeds 49 = .ok (.iaload, 1) := by decide +kernel
theorem dX0_gatherNeeds_50 : decode cX0_gatherNeeds 50 = .ok (.iconst 1, 1) := by decide +kernel
theorem dX0_gatherNeeds_51 : decode cX0_gatherNeeds 51 = .ok (.aload_n 0, 1) := by decide +kernel
theorem dX0_gatherNeeds_52 : decode cX0_gatherNeeds 52 = .ok (.iload_n 1, 1) := by decide +kernel
theorem dX0_gatherNeeds_53 : decode cX0_gatherNeeds 53 = .ok (.invokevirtual 73, 3) := by decide +kernel
theorem dX0_gatherNeeds_56 : decode cX0_gatherNeeds 56 = .ok (.ishl, 1) := by decide +kernel
theorem dX0_gatherNeeds_57 : decode cX0_gatherNeeds 57 = .ok (.ior, 1) := by decide +kernel
theorem dX0_gatherNeeds_58 : decode cX0_gatherNeeds 58 = .ok (.iastore, 1) := by decide +kernel
theorem dX0_gatherNeeds_59 : decode cX0_gatherNeeds 59 = .ok (.iinc 1 1, 3) := by decide +kernel
theorem dX0_gatherNeeds_62 : decode cX0_gatherNeeds 62 = .ok (.goto (-39), 3) := by decide +kernel
theorem dX0_gatherNeeds_65 : decode cX0_gatherNeeds 65 = .ok (.return_, 1) := by decide +kernel
theorem dX0_storyOf_0 : decode cX0_storyOf 0 = .ok (.aload_n 0, 1) := by decide +kernel
theorem dX0_storyOf_1 : decode cX0_storyOf 1 = .ok (.getfield 27, 3) := by decide +kernel
theorem dX0_storyOf_4 : decode cX0_storyOf 4 = .ok (.iload_n 1, 1) := by decide +kernel
theorem dX0_storyOf_5 : decode cX0_storyOf 5 = .ok (.iaload, 1) := by decide +kernel
theorem dX0_storyOf_6 : decode cX0_storyOf 6 = .ok (.bipush 100, 2) := by decide +kernel
theorem dX0_storyOf_8 : decode cX0_storyOf 8 = .ok (.idiv, 1) := by decide +kernel
theorem dX0_storyOf_9 : decode cX0_storyOf 9 = .ok (.ireturn, 1) := by decide +kernel
theorem dX0_partOf_0 : decode cX0_partOf 0 = .ok (.aload_n 0, 1) := by decide +kernel
theorem dX0_partOf_1 : decode cX0_partOf 1 = .ok (.getfield 27, 3) := by decide +kernel
theorem dX0_partOf_4 : decode cX0_partOf 4 = .ok (.iload_n 1, 1) := by decide +kernel
theorem dX0_partOf_5 : decode cX0_partOf 5 = .ok (.iaload, 1) := by decide +kernel
theorem dX0_partOf_6 : decode cX0_partOf 6 = .ok (.bipush 10, 2) := by decide +kernel
theorem dX0_partOf_8 : decode cX0_partOf 8 = .ok (.idiv, 1) := by decide +kernel
theorem dX0_partOf_9 : decode cX0_partOf 9 = .ok (.bipush 10, 2) := by decide +kernel
theorem dX0_partOf_11 : decode cX0_partOf 11 = .ok (.irem, 1) := by decide +kernel
theorem dX0_partOf_12 : decode cX0_partOf 12 = .ok (.ireturn, 1) := by decide +kernel
theorem dX0_otherOf_0 : decode cX0_otherOf 0 = .ok (.aload_n 0, 1) := by decide +kernel
theorem dX0_otherOf_1 : decode cX0_otherOf 1 = .ok (.getfield 27, 3) := by decide +kernel
theorem dX0_otherOf_4 : decode cX0_otherOf 4 = .ok (.iload_n 1, 1) := by decide +kernel
theorem dX0_otherOf_5 : decode cX0_otherOf 5 = .ok (.iaload, 1) := by decide +kernel
theorem dX0_otherOf_6 : decode cX0_otherOf 6 = .ok (.bipush 10, 2) := by decide +kernel
theorem dX0_otherOf_8 : decode cX0_otherOf 8 = .ok (.irem, 1) := by decide +kernel
theorem dX0_otherOf_9 : decode cX0_otherOf 9 = .ok (.ireturn, 1) := by decide +kernel
theorem dX1_init_0 : decode cX1_init 0 = .ok (.aload_n 0, 1) := by decide +kernel
theorem dX1_init_1 : decode cX1_init 1 = .ok (.invokespecial 3, 3) := by decide +kernel
theorem dX1_init_4 : decode cX1_init 4 = .ok (.aload_n 0, 1) := by decide +kernel
theorem dX1_init_5 : decode cX1_init 5 = .ok (.aload_n 1, 1) := by decide +kernel
theorem dX1_init_6 : decode cX1_init 6 = .ok (.putfield 9, 3) := by decide +kernel
theorem dX1_init_9 : decode cX1_init 9 = .ok (.aload_n 0, 1) := by decide +kernel
theorem dX1_init_10 : decode cX1_init 10 = .ok (.aload_n 2, 1) := by decide +kernel
theorem dX1_init_11 : decode cX1_init 11 = .ok (.putfield 15, 3) := by decide +kernel
theorem dX1_init_14 : decode cX1_init 14 = .ok (.aload_n 0, 1) := by decide +kernel
theorem dX1_init_15 : decode cX1_init 15 = .ok (.new 19, 3) := by decide +kernel
theorem dX1_init_18 : decode cX1_init 18 = .ok (.dup, 1) := by decide +kernel
theorem dX1_init_19 : decode cX1_init 19 = .ok (.aload_n 1, 1) := by decide +kernel
theorem dX1_init_20 : decode cX1_init 20 = .ok (.invokespecial 21, 3) := by decide +kernel
theorem dX1_init_23 : decode cX1_init 23 = .ok (.putfield 24, 3) := by decide +kernel
theorem dX1_init_26 : decode cX1_init 26 = .ok (.return_, 1) := by decide +kernel
theorem dX1_isGood_0 : decode cX1_isGood 0 = .ok (.aload_n 0, 1) := by decide +kernel
theorem dX1_isGood_1 : decode cX1_isGood 1 = .ok (.iconst 0, 1) := by decide +kernel
theorem dX1_isGood_2 : decode cX1_isGood 2 = .ok (.putfield 28, 3) := by decide +kernel
theorem dX1_isGood_5 : decode cX1_isGood 5 = .ok (.aload_n 0, 1) := by decide +kernel
theorem dX1_isGood_6 : decode cX1_isGood 6 = .ok (.iconst 0, 1) := by decide +kernel
theorem dX1_isGood_7 : decode cX1_isGood 7 = .ok (.putfield 32, 3) := by decide +kernel
theorem dX1_isGood_10 : decode cX1_isGood 10 = .ok (.aload_n 0, 1) := by decide +kernel
theorem dX1_isGood_11 : decode cX1_isGood 11 = .ok (.iconst 0, 1) := by decide +kernel
theorem dX1_isGood_12 : decode cX1_isGood 12 = .ok (.putfield 35, 3) := by decide +kernel
theorem dX1_isGood_15 : decode cX1_isGood 15 = .ok (.aload_n 0, 1) := by decide +kernel
theorem dX1_isGood_16 : decode cX1_isGood 16 = .ok (.iconst 0, 1) := by decide +kernel
theorem dX1_isGood_17 : decode cX1_isGood 17 = .ok (.putfield 38, 3) := by decide +kernel
theorem dX1_isGood_20 : decode cX1_isGood 20 = .ok (.aload_n 0, 1) := by decide +kernel
theorem dX1_isGood_21 : decode cX1_isGood 21 = .ok (.getfield 24, 3) := by decide +kernel
theorem dX1_isGood_24 : decode cX1_isGood 24 = .ok (.iconst 0, 1) := by decide +kernel
theorem dX1_isGood_25 : decode cX1_isGood 25 = .ok (.invokevirtual 41, 3) := by decide +kernel
theorem dX1_isGood_28 : decode cX1_isGood 28 = .ok (.bipush (-6), 2) := by decide +kernel
theorem dX1_isGood_30 : decode cX1_isGood 30 = .ok (.istore_n 1, 1) := by decide +kernel
theorem dX1_isGood_31 : decode cX1_isGood 31 = .ok (.iconst 0, 1) := by decide +kernel
theorem dX1_isGood_32 : decode cX1_isGood 32 = .ok (.istore_n 2, 1) := by decide +kernel
theorem dX1_isGood_33 : decode cX1_isGood 33 = .ok (.iload_n 2, 1) := by decide +kernel
theorem dX1_isGood_34 : decode cX1_isGood 34 = .ok (.aload_n 0, 1) := by decide +kernel
theorem dX1_isGood_35 : decode cX1_isGood 35 = .ok (.getfield 15, 3) := by decide +kernel
theorem dX1_isGood_38 : decode cX1_isGood 38 = .ok (.getfield 45, 3) := by decide +kernel
theorem dX1_isGood_41 : decode cX1_isGood 41 = .ok (.if_icmp .ge 66, 3) := by decide +kernel
theorem dX1_isGood_44 : decode cX1_isGood 44 = .ok (.aload_n 0, 1) := by decide +kernel
theorem dX1_isGood_45 : decode cX1_isGood 45 = .ok (.getfield 15, 3) := by decide +kernel
theorem dX1_isGood_48 : decode cX1_isGood 48 = .ok (.iload_n 2, 1) := by decide +kernel
theorem dX1_isGood_49 : decode cX1_isGood 49 = .ok (.invokevirtual 50, 3) := by decide +kernel
theorem dX1_isGood_52 : decode cX1_isGood 52 = .ok (.bipush 97, 2) := by decide +kernel
theorem dX1_isGood_54 : decode cX1_isGood 54 = .ok (.isub, 1) := by decide +kernel
theorem dX1_isGood_55 : decode cX1_isGood 55 = .ok (.istore_n 3, 1) := by decide +kernel
theorem dX1_isGood_56 : decode cX1_isGood 56 = .ok (.iload_n 3, 1) := by decide +kernel
theorem dX1_isGood_57 : decode cX1_isGood 57 = .ok (.invokestatic 54, 3) := by decide +kernel
theorem dX1_isGood_60 : decode cX1_isGood 60 = .ok (.ifCond .ne 5, 3) := by decide +kernel
theorem dX1_isGood_63 : decode cX1_isGood 63 = .ok (.iconst 0, 1) := by decide +kernel
theorem dX1_isGood_64 : decode cX1_isGood 64 = .ok (.ireturn, 1) := by decide +kernel
theorem dX1_isGood_65 : decode cX1_isGood 65 = .ok (.aload_n 0, 1) := by decide +kernel
theorem dX1_isGood_66 : decode cX1_isGood 66 = .ok (.iload_n 2, 1) := by decide +kernel
theorem dX1_isGood_67 : decode cX1_isGood 67 = .ok (.putfield 28, 3) := by decide +kernel
theorem dX1_isGood_70 : decode cX1_isGood 70 = .ok (.aload_n 0, 1) := by decide +kernel
theorem dX1_isGood_71 : decode cX1_isGood 71 = .ok (.aload_n 0, 1) := by decide +kernel
theorem dX1_isGood_72 : decode cX1_isGood 72 = .ok (.getfield 24, 3) := by decide +kernel
theorem dX1_isGood_75 : decode cX1_isGood 75 = .ok (.iload_n 3, 1) := by decide +kernel
theorem dX1_isGood_76 : decode cX1_isGood 76 = .ok (.bipush 15, 2) := by decide +kernel
theorem dX1_isGood_78 : decode cX1_isGood 78 = .ok (.invokevirtual 58, 3) := by decide +kernel
theorem dX1_isGood_81 : decode cX1_isGood 81 = .ok (.putfield 32, 3) := by decide +kernel
theorem dX1_isGood_84 : decode cX1_isGood 84 = .ok (.aload_n 0, 1) := by decide +kernel
theorem dX1_isGood_85 : decode cX1_isGood 85 = .ok (.getfield 32, 3) := by decide +kernel
theorem dX1_isGood_88 : decode cX1_isGood 88 = .ok (.ifCond .eq 5, 3) := by decide +kernel
theorem dX1_isGood_91 : decode cX1_isGood 91 = .ok (.iconst 0, 1) := by decide +kernel
theorem dX1_isGood_92 : decode cX1_isGood 92 = .ok (.ireturn, 1) := by decide +kernel
theorem dX1_isGood_93 : decode cX1_isGood 93 = .ok (.aload_n 0, 1) := by decide +kernel
theorem dX1_isGood_94 : decode cX1_isGood 94 = .ok (.iload_n 3, 1) := by decide +kernel
theorem dX1_isGood_95 : decode cX1_isGood 95 = .ok (.iload_n 1, 1) := by decide +kernel
theorem dX1_isGood_96 : decode cX1_isGood 96 = .ok (.invokevirtual 62, 3) := by decide +kernel
theorem dX1_isGood_99 : decode cX1_isGood 99 = .ok (.iload_n 3, 1) := by decide +kernel
theorem dX1_isGood_100 : decode cX1_isGood 100 = .ok (.istore_n 1, 1) := by decide +kernel
theorem dX1_isGood_101 : decode cX1_isGood 101 = .ok (.iinc 2 1, 3) := by decide +kernel
theorem dX1_isGood_104 : decode cX1_isGood 104 = .ok (.goto (-71), 3) := by decide +kernel
theorem dX1_isGood_107 : decode cX1_isGood 107 = .ok (.aload_n 0, 1) := by decide +kernel
theorem dX1_isGood_108 : decode cX1_isGood 108 = .ok (.aload_n 0, 1) := by decide +kernel
theorem dX1_isGood_109 : decode cX1_isGood 109 = .ok (.getfield 24, 3) := by decide +kernel
theorem dX1_isGood_112 : decode cX1_isGood 112 = .ok (.getfield 66, 3) := by decide +kernel
theorem dX1_isGood_115 : decode cX1_isGood 115 = .ok (.putfield 69, 3) := by decide +kernel
theorem dX1_isGood_118 : decode cX1_isGood 118 = .ok (.iconst 1, 1) := by decide +kernel
theorem dX1_isGood_119 : decode cX1_isGood 119 = .ok (.ireturn, 1) := by decide +kernel
theorem dX1_tellPart_0 : decode cX1_tellPart 0 = .ok (.aload_n 0, 1) := by decide +kernel
theorem dX1_tellPart_1 : decode cX1_tellPart 1 = .ok (.aload_n 0, 1) := by decide +kernel
theorem dX1_tellPart_2 : decode cX1_tellPart 2 = .ok (.getfield 35, 3) := by decide +kernel
theorem dX1_tellPart_5 : decode cX1_tellPart 5 = .ok (.aload_n 0, 1) := by decide +kernel
theorem dX1_tellPart_6 : decode cX1_tellPart 6 = .ok (.getfield 24, 3) := by decide +kernel
theorem dX1_tellPart_9 : decode cX1_tellPart 9 = .ok (.iload_n 1, 1) := by decide +kernel
theorem dX1_tellPart_10 : decode cX1_tellPart 10 = .ok (.invokevirtual 70, 3) := by decide +kernel
theorem dX1_tellPart_13 : decode cX1_tellPart 13 = .ok (.invokestatic 73, 3) := by decide +kernel
theorem dX1_tellPart_16 : decode cX1_tellPart 16 = .ok (.putfield 35, 3) := by decide +kernel
theorem dX1_tellPart_19 : decode cX1_tellPart 19 = .ok (.aload_n 0, 1) := by decide +kernel
theorem dX1_tellPart_20 : decode cX1_tellPart 20 = .ok (.dup, 1) := by decide +kernel
theorem dX1_tellPart_21 : decode cX1_tellPart 21 = .ok (.getfield 38, 3) := by decide +kernel
theorem dX1_tellPart_24 : decode cX1_tellPart 24 = .ok (.aload_n 0, 1) := by decide +kernel
theorem dX1_tellPart_25 : decode cX1_tellPart 25 = .ok (.getfield 9, 3) := by decide +kernel
theorem dX1_tellPart_28 : decode cX1_tellPart 28 = .ok (.iload_n 1, 1) := by decide +kernel
theorem dX1_tellPart_29 : decode cX1_tellPart 29 = .ok (.aload_n 0, 1) := by decide +kernel
theorem dX1_tellPart_30 : decode cX1_tellPart 30 = .ok (.getfield 24, 3) := by decide +kernel
theorem dX1_tellPart_33 : decode cX1_tellPart 33 = .ok (.getfield 78, 3) := by decide +kernel
theorem dX1_tellPart_36 : decode cX1_tellPart 36 = .ok (.iload_n 1, 1) := by decide +kernel
theorem dX1_tellPart_37 : decode cX1_tellPart 37 = .ok (.invokestatic 81, 3) := by decide +kernel
theorem dX1_tellPart_40 : decode cX1_tellPart 40 = .ok (.invokevirtual 84, 3) := by decide +kernel
theorem dX1_tellPart_43 : decode cX1_tellPart 43 = .ok (.iadd, 1) := by decide +kernel
theorem dX1_tellPart_44 : decode cX1_tellPart 44 = .ok (.putfield 38, 3) := by decide +kernel
theorem dX1_tellPart_47 : decode cX1_tellPart 47 = .ok (.iload_n 2, 1) := by decide +kernel
theorem dX1_tellPart_48 : decode cX1_tellPart 48 = .ok (.invokestatic 54, 3) := by decide +kernel
theorem dX1_tellPart_51 : decode cX1_tellPart 51 = .ok (.ifCond .eq 40, 3) := by decide +kernel
theorem dX1_tellPart_54 : decode cX1_tellPart 54 = .ok (.aload_n 0, 1) := by decide +kernel
theorem dX1_tellPart_55 : decode cX1_tellPart 55 = .ok (.getfield 9, 3) := by decide +kernel
theorem dX1_tellPart_58 : decode cX1_tellPart 58 = .ok (.getfield 89, 3) := by decide +kernel
theorem dX1_tellPart_61 : decode cX1_tellPart 61 = .ok (.iload_n 2, 1) := by decide +kernel
theorem dX1_tellPart_62 : decode cX1_tellPart 62 = .ok (.iaload, 1) := by decide +kernel
theorem dX1_tellPart_63 : decode cX1_tellPart 63 = .ok (.aload_n 0, 1) := by decide +kernel
theorem dX1_tellPart_64 : decode cX1_tellPart 64 = .ok (.getfield 9, 3) := by decide +kernel
theorem dX1_tellPart_67 : decode cX1_tellPart 67 = .ok (.getfield 89, 3) := by decide +kernel
theorem dX1_tellPart_70 : decode cX1_tellPart 70 = .ok (.iload_n 1, 1) := by decide +kernel
theorem dX1_tellPart_71 : decode cX1_tellPart 71 = .ok (.iaload, 1) := by decide +kernel
theorem dX1_tellPart_72 : decode cX1_tellPart 72 = .ok (.if_icmp .eq 19, 3) := by decide +kernel
theorem dX1_tellPart_75 : decode cX1_tellPart 75 = .ok (.aload_n 0, 1) := by decide +kernel
theorem dX1_tellPart_76 : decode cX1_tellPart 76 = .ok (.dup, 1) := by decide +kernel
theorem dX1_tellPart_77 : decode cX1_tellPart 77 = .ok (.getfield 38, 3) := by decide +kernel
theorem dX1_tellPart_80 : decode cX1_tellPart 80 = .ok (.aload_n 0, 1) := by decide +kernel
theorem dX1_tellPart_81 : decode cX1_tellPart 81 = .ok (.getfield 9, 3) := by decide +kernel
theorem dX1_tellPart_84 : decode cX1_tellPart 84 = .ok (.getfield 93, 3) := by decide +kernel
theorem dX1_tellPart_87 : decode cX1_tellPart 87 = .ok (.iadd, 1) := by decide +kernel
theorem dX1_tellPart_88 : decode cX1_tellPart 88 = .ok (.putfield 38, 3) := by decide +kernel
theorem dX1_tellPart_91 : decode cX1_tellPart 91 = .ok (.aload_n 0, 1) := by decide +kernel
theorem dX1_tellPart_92 : decode cX1_tellPart 92 = .ok (.getfield 24, 3) := by decide +kernel
theorem dX1_tellPart_95 : decode cX1_tellPart 95 = .ok (.aload_n 0, 1) := by decide +kernel
theorem dX1_tellPart_96 : decode cX1_tellPart 96 = .ok (.getfield 24, 3) := by decide +kernel
theorem dX1_tellPart_99 : decode cX1_tellPart 99 = .ok (.iload_n 1, 1) := by decide +kernel
theorem dX1_tellPart_100 : decode cX1_tellPart 100 = .ok (.invokevirtual 96, 3) := by decide +kernel
theorem dX1_tellPart_103 : decode cX1_tellPart 103 = .ok (.invokevirtual 41, 3) := by decide +kernel
theorem dX1_tellPart_106 : decode cX1_tellPart 106 = .ok (.return_, 1) := by decide +kernel
theorem dX2_init_0 : decode cX2_init 0 = .ok (.aload_n 0, 1) := by decide +kernel
theorem dX2_init_1 : decode cX2_init 1 = .ok (.invokespecial 3, 3) := by decide +kernel
theorem dX2_init_4 : decode cX2_init 4 = .ok (.aload_n 0, 1) := by decide +kernel
theorem dX2_init_5 : decode cX2_init 5 = .ok (.aload_n 1, 1) := by decide +kernel
theorem dX2_init_6 : decode cX2_init 6 = .ok (.putfield 9, 3) := by decide +kernel
theorem dX2_init_9 : decode cX2_init 9 = .ok (.return_, 1) := by decide +kernel
theorem dX2_play_0 : decode cX2_play 0 = .ok (.aload_n 0, 1) := by decide +kernel
theorem dX2_play_1 : decode cX2_play 1 = .ok (.getfield 9, 3) := by decide +kernel
theorem dX2_play_4 : decode cX2_play 4 = .ok (.getfield 15, 3) := by decide +kernel
theorem dX2_play_7 : decode cX2_play 7 = .ok (.iconst 1, 1) := by decide +kernel
theorem dX2_play_8 : decode cX2_play 8 = .ok (.isub, 1) := by decide +kernel
theorem dX2_play_9 : decode cX2_play 9 = .ok (.istore_n 3, 1) := by decide +kernel
theorem dX2_play_10 : decode cX2_play 10 = .ok (.iload_n 3, 1) := by decide +kernel
theorem dX2_play_11 : decode cX2_play 11 = .ok (.ifCond .lt 67, 3) := by decide +kernel
theorem dX2_play_14 : decode cX2_play 14 = .ok (.aload_n 0, 1) := by decide +kernel
theorem dX2_play_15 : decode cX2_play 15 = .ok (.getfield 9, 3) := by decide +kernel
theorem dX2_play_18 : decode cX2_play 18 = .ok (.iload_n 3, 1) := by decide +kernel
theorem dX2_play_19 : decode cX2_play 19 = .ok (.iload_n 1, 1) := by decide +kernel
theorem dX2_play_20 : decode cX2_play 20 = .ok (.invokevirtual 21, 3) := by decide +kernel
theorem dX2_play_23 : decode cX2_play 23 = .ok (.ifCond .eq 23, 3) := by decide +kernel
theorem dX2_play_26 : decode cX2_play 26 = .ok (.aload_n 0, 1) := by decide +kernel
theorem dX2_play_27 : decode cX2_play 27 = .ok (.getfield 9, 3) := by decide +kernel
theorem dX2_play_30 : decode cX2_play 30 = .ok (.iload_n 3, 1) := by decide +kernel
theorem dX2_play_31 : decode cX2_play 31 = .ok (.invokevirtual 25, 3) := by decide +kernel
theorem dX2_play_34 : decode cX2_play 34 = .ok (.iload_n 2, 1) := by decide +kernel
theorem dX2_play_35 : decode cX2_play 35 = .ok (.if_icmp .ne 7, 3) := by decide +kernel
theorem dX2_play_38 : decode cX2_play 38 = .ok (.iconst 1, 1) := by decide +kernel
theorem dX2_play_39 : decode cX2_play 39 = .ok (.goto 12, 3) := by decide +kernel
theorem dX2_play_42 : decode cX2_play 42 = .ok (.iconst 0, 1) := by decide +kernel
theorem dX2_play_43 : decode cX2_play 43 = .ok (.goto 8, 3) := by decide +kernel
theorem dX2_play_46 : decode cX2_play 46 = .ok (.aload_n 0, 1) := by decide +kernel
theorem dX2_play_47 : decode cX2_play 47 = .ok (.iload_n 3, 1) := by decide +kernel
theorem dX2_play_48 : decode cX2_play 48 = .ok (.invokevirtual 29, 3) := by decide +kernel
theorem dX2_play_51 : decode cX2_play 51 = .ok (.istore 4, 2) := by decide +kernel
theorem dX2_play_53 : decode cX2_play 53 = .ok (.aload_n 0, 1) := by decide +kernel
theorem dX2_play_54 : decode cX2_play 54 = .ok (.getfield 9, 3) := by decide +kernel
theorem dX2_play_57 : decode cX2_play 57 = .ok (.getfield 33, 3) := by decide +kernel
theorem dX2_play_60 : decode cX2_play 60 = .ok (.iload_n 3, 1) := by decide +kernel
theorem dX2_play_61 : decode cX2_play 61 = .ok (.iload 4, 2) := by decide +kernel
theorem dX2_play_63 : decode cX2_play 63 = .ok (.ifCond .eq 7, 3) := by decide +kernel
theorem dX2_play_66 : decode cX2_play 66 = .ok (.lconst 1, 1) := by decide +kernel
theorem dX2_play_67 : decode cX2_play 67 = .ok (.goto 4, 3) := by decide +kernel
theorem dX2_play_70 : decode cX2_play 70 = .ok (.lconst 0, 1) := by decide +kernel
theorem dX2_play_71 : decode cX2_play 71 = .ok (.lastore, 1) := by decide +kernel
theorem dX2_play_72 : decode cX2_play 72 = .ok (.iinc 3 (-1), 3) := by decide +kernel
theorem dX2_play_75 : decode cX2_play 75 = .ok (.goto (-65), 3) := by decide +kernel
theorem dX2_play_78 : decode cX2_play 78 = .ok (.return_, 1) := by decide +kernel
theorem dX2_canWin_0 : decode cX2_canWin 0 = .ok (.iconst 0, 1) := by decide +kernel
theorem dX2_canWin_1 : decode cX2_canWin 1 = .ok (.istore_n 2, 1) := by decide +kernel
theorem dX2_canWin_2 : decode cX2_canWin 2 = .ok (.iconst 0, 1) := by decide +kernel
theorem dX2_canWin_3 : decode cX2_canWin 3 = .ok (.istore_n 3, 1) := by decide +kernel
theorem dX2_canWin_4 : decode cX2_canWin 4 = .ok (.iconst 0, 1) := by decide +kernel
theorem dX2_canWin_5 : decode cX2_canWin 5 = .ok (.istore 4, 2) := by decide +kernel
theorem dX2_canWin_7 : decode cX2_canWin 7 = .ok (.iload 4, 2) := by decide +kernel
theorem dX2_canWin_9 : decode cX2_canWin 9 = .ok (.iconst 4, 1) := by decide +kernel
theorem dX2_canWin_10 : decode cX2_canWin 10 = .ok (.if_icmp .ge 54, 3) := by decide +kernel
theorem dX2_canWin_13 : decode cX2_canWin 13 = .ok (.aload_n 0, 1) := by decide +kernel
theorem dX2_canWin_14 : decode cX2_canWin 14 = .ok (.getfield 9, 3) := by decide +kernel
theorem dX2_canWin_17 : decode cX2_canWin 17 = .ok (.iload_n 1, 1) := by decide +kernel
theorem dX2_canWin_18 : decode cX2_canWin 18 = .ok (.iload 4, 2) := by decide +kernel
theorem dX2_canWin_20 : decode cX2_canWin 20 = .ok (.invokevirtual 37, 3) := by decide +kernel
theorem dX2_canWin_23 : decode cX2_canWin 23 = .ok (.istore 5, 2) := by decide +kernel
theorem dX2_canWin_25 : decode cX2_canWin 25 = .ok (.iload 5, 2) := by decide +kernel
theorem dX2_canWin_27 : decode cX2_canWin 27 = .ok (.bipush (-6), 2) := by decide +kernel
theorem dX2_canWin_29 : decode cX2_canWin 29 = .ok (.if_icmp .eq 29, 3) := by decide +kernel
theorem dX2_canWin_32 : decode cX2_canWin 32 = .ok (.iinc 2 1, 3) := by decide +kernel
theorem dX2_canWin_35 : decode cX2_canWin 35 = .ok (.iload_n 3, 1) := by decide +kernel
theorem dX2_canWin_36 : decode cX2_canWin 36 = .ok (.aload_n 0, 1) := by decide +kernel
theorem dX2_canWin_37 : decode cX2_canWin 37 = .ok (.getfield 9, 3) := by decide +kernel
theorem dX2_canWin_40 : decode cX2_canWin 40 = .ok (.getfield 33, 3) := by decide +kernel
theorem dX2_canWin_43 : decode cX2_canWin 43 = .ok (.iload 5, 2) := by decide +kernel
theorem dX2_canWin_45 : decode cX2_canWin 45 = .ok (.laload, 1) := by decide +kernel
theorem dX2_canWin_46 : decode cX2_canWin 46 = .ok (.lconst 0, 1) := by decide +kernel
theorem dX2_canWin_47 : decode cX2_canWin 47 = .ok (.lcmp, 1) := by decide +kernel
theorem dX2_canWin_48 : decode cX2_canWin 48 = .ok (.ifCond .le 7, 3) := by decide +kernel
theorem dX2_canWin_51 : decode cX2_canWin 51 = .ok (.iconst 1, 1) := by decide +kernel
theorem dX2_canWin_52 : decode cX2_canWin 52 = .ok (.goto 4, 3) := by decide +kernel
theorem dX2_canWin_55 : decode cX2_canWin 55 = .ok (.iconst 0, 1) := by decide +kernel
theorem dX2_canWin_56 : decode cX2_canWin 56 = .ok (.iadd, 1) := by decide +kernel
theorem dX2_canWin_57 : decode cX2_canWin 57 = .ok (.istore_n 3, 1) := by decide +kernel
theorem dX2_canWin_58 : decode cX2_canWin 58 = .ok (.iinc 4 1, 3) := by decide +kernel
theorem dX2_canWin_61 : decode cX2_canWin 61 = .ok (.goto (-54), 3) := by decide +kernel
theorem dX2_canWin_64 : decode cX2_canWin 64 = .ok (.aload_n 0, 1) := by decide +kernel
theorem dX2_canWin_65 : decode cX2_canWin 65 = .ok (.getfield 9, 3) := by decide +kernel
theorem dX2_canWin_68 : decode cX2_canWin 68 = .ok (.getfield 41, 3) := by decide +kernel
theorem dX2_canWin_71 : decode cX2_canWin 71 = .ok (.iload_n 1, 1) := by decide +kernel
theorem dX2_canWin_72 : decode cX2_canWin 72 = .ok (.iaload, 1) := by decide +kernel
theorem dX2_canWin_73 : decode cX2_canWin 73 = .ok (.invokestatic 44, 3) := by decide +kernel
theorem dX2_canWin_76 : decode cX2_canWin 76 = .ok (.iconst 2, 1) := by decide +kernel
theorem dX2_canWin_77 : decode cX2_canWin 77 = .ok (.irem, 1) := by decide +kernel
theorem dX2_canWin_78 : decode cX2_canWin 78 = .ok (.ifCond .ne 7, 3) := by decide +kernel
theorem dX2_canWin_81 : decode cX2_canWin 81 = .ok (.iconst 1, 1) := by decide +kernel
theorem dX2_canWin_82 : decode cX2_canWin 82 = .ok (.goto 4, 3) := by decide +kernel
theorem dX2_canWin_85 : decode cX2_canWin 85 = .ok (.iconst 0, 1) := by decide +kernel
theorem dX2_canWin_86 : decode cX2_canWin 86 = .ok (.istore 4, 2) := by decide +kernel
theorem dX2_canWin_88 : decode cX2_canWin 88 = .ok (.iload_n 3, 1) := by decide +kernel
theorem dX2_canWin_89 : decode cX2_canWin 89 = .ok (.ifCond .le 17, 3) := by decide +kernel
theorem dX2_canWin_92 : decode cX2_canWin 92 = .ok (.iload 4, 2) := by decide +kernel
theorem dX2_canWin_94 : decode cX2_canWin 94 = .ok (.ifCond .ne 8, 3) := by decide +kernel
theorem dX2_canWin_97 : decode cX2_canWin 97 = .ok (.iload_n 3, 1) := by decide +kernel
theorem dX2_canWin_98 : decode cX2_canWin 98 = .ok (.iload_n 2, 1) := by decide +kernel
theorem dX2_canWin_99 : decode cX2_canWin 99 = .ok (.if_icmp .ne 7, 3) := by decide +kernel
theorem dX2_canWin_102 : decode cX2_canWin 102 = .ok (.iconst 1, 1) := by decide +kernel
theorem dX2_canWin_103 : decode cX2_canWin 103 = .ok (.goto 4, 3) := by decide +kernel
theorem dX2_canWin_106 : decode cX2_canWin 106 = .ok (.iconst 0, 1) := by decide +kernel
theorem dX2_canWin_107 : decode cX2_canWin 107 = .ok (.ireturn, 1) := by decide +kernel
theorem dX2_winningBegin_0 : decode cX2_winningBegin 0 = .ok (.iconst 0, 1) := by decide +kernel
theorem dX2_winningBegin_1 : decode cX2_winningBegin 1 = .ok (.istore_n 1, 1) := by decide +kernel
theorem dX2_winningBegin_2 : decode cX2_winningBegin 2 = .ok (.iload_n 1, 1) := by decide +kernel
theorem dX2_winningBegin_3 : decode cX2_winningBegin 3 = .ok (.iconst 4, 1) := by decide +kernel
theorem dX2_winningBegin_4 : decode cX2_winningBegin 4 = .ok (.if_icmp .ge 41, 3) := by decide +kernel
theorem dX2_winningBegin_7 : decode cX2_winningBegin 7 = .ok (.aload_n 0, 1) := by decide +kernel
theorem dX2_winningBegin_8 : decode cX2_winningBegin 8 = .ok (.getfield 9, 3) := by decide +kernel
theorem dX2_winningBegin_11 : decode cX2_winningBegin 11 = .ok (.iconst 0, 1) := by decide +kernel
theorem dX2_winningBegin_12 : decode cX2_winningBegin 12 = .ok (.iload_n 1, 1) := by decide +kernel
theorem dX2_winningBegin_13 : decode cX2_winningBegin 13 = .ok (.invokevirtual 37, 3) := by decide +kernel
theorem dX2_winningBegin_16 : decode cX2_winningBegin 16 = .ok (.istore_n 2, 1) := by decide +kernel
theorem dX2_winningBegin_17 : decode cX2_winningBegin 17 = .ok (.iload_n 2, 1) := by decide +kernel
theorem dX2_winningBegin_18 : decode cX2_winningBegin 18 = .ok (.bipush (-6), 2) := by decide +kernel
theorem dX2_winningBegin_20 : decode cX2_winningBegin 20 = .ok (.if_icmp .eq 19, 3) := by decide +kernel
theorem dX2_winningBegin_23 : decode cX2_winningBegin 23 = .ok (.aload_n 0, 1) := by decide +kernel
theorem dX2_winningBegin_24 : decode cX2_winningBegin 24 = .ok (.getfield 9, 3) := by decide +kernel
theorem dX2_winningBegin_27 : decode cX2_winningBegin 27 = .ok (.getfield 33, 3) := by decide +kernel
theorem dX2_winningBegin_30 : decode cX2_winningBegin 30 = .ok (.iload_n 2, 1) := by decide +kernel
theorem dX2_winningBegin_31 : decode cX2_winningBegin 31 = .ok (.laload, 1) := by decide +kernel
theorem dX2_winningBegin_32 : decode cX2_winningBegin 32 = .ok (.lconst 0, 1) := by decide +kernel
theorem dX2_winningBegin_33 : decode cX2_winningBegin 33 = .ok (.lcmp, 1) := by decide +kernel
theorem dX2_winningBegin_34 : decode cX2_winningBegin 34 = .ok (.ifCond .le 5, 3) := by decide +kernel
theorem dX2_winningBegin_37 : decode cX2_winningBegin 37 = .ok (.iload_n 1, 1) := by decide +kernel
theorem dX2_winningBegin_38 : decode cX2_winningBegin 38 = .ok (.ireturn, 1) := by decide +kernel
theorem dX2_winningBegin_39 : decode cX2_winningBegin 39 = .ok (.iinc 1 1, 3) := by decide +kernel
theorem dX2_winningBegin_42 : decode cX2_winningBegin 42 = .ok (.goto (-40), 3) := by decide +kernel
theorem dX2_winningBegin_45 : decode cX2_winningBegin 45 = .ok (.bipush (-6), 2) := by decide +kernel
theorem dX2_winningBegin_47 : decode cX2_winningBegin 47 = .ok (.ireturn, 1) := by decide +kernel
theorem dX3_init_0 : decode cX3_init 0 = .ok (.aload_n 0, 1) := by decide +kernel
theorem dX3_init_1 : decode cX3_init 1 = .ok (.invokespecial 3, 3) := by decide +kernel
theorem dX3_init_4 : decode cX3_init 4 = .ok (.aload_n 0, 1) := by decide +kernel
theorem dX3_init_5 : decode cX3_init 5 = .ok (.aload_n 1, 1) := by decide +kernel
theorem dX3_init_6 : decode cX3_init 6 = .ok (.putfield 9, 3) := by decide +kernel
theorem dX3_init_9 : decode cX3_init 9 = .ok (.return_, 1) := by decide +kernel
theorem dX3_partsTold_0 : decode cX3_partsTold 0 = .ok (.iload_n 0, 1) := by decide +kernel
theorem dX3_partsTold_1 : decode cX3_partsTold 1 = .ok (.iconst 3, 1) := by decide +kernel
theorem dX3_partsTold_2 : decode cX3_partsTold 2 = .ok (.iload_n 1, 1) := by decide +kernel
theorem dX3_partsTold_3 : decode cX3_partsTold 3 = .ok (.imul, 1) := by decide +kernel
theorem dX3_partsTold_4 : decode cX3_partsTold 4 = .ok (.ishr, 1) := by decide +kernel
theorem dX3_partsTold_5 : decode cX3_partsTold 5 = .ok (.bipush 7, 2) := by decide +kernel
theorem dX3_partsTold_7 : decode cX3_partsTold 7 = .ok (.iand, 1) := by decide +kernel
theorem dX3_partsTold_8 : decode cX3_partsTold 8 = .ok (.ireturn, 1) := by decide +kernel
theorem dX3_allPartsTold_0 : decode cX3_allPartsTold 0 = .ok (.iload_n 0, 1) := by decide +kernel
theorem dX3_allPartsTold_1 : decode cX3_allPartsTold 1 = .ok (.iconst 0, 1) := by decide +kernel
theorem dX3_allPartsTold_2 : decode cX3_allPartsTold 2 = .ok (.invokestatic 15, 3) := by decide +kernel
theorem dX3_allPartsTold_5 : decode cX3_allPartsTold 5 = .ok (.iload_n 0, 1) := by decide +kernel
theorem dX3_allPartsTold_6 : decode cX3_allPartsTold 6 = .ok (.iconst 1, 1) := by decide +kernel
theorem dX3_allPartsTold_7 : decode cX3_allPartsTold 7 = .ok (.invokestatic 15, 3) := by decide +kernel
theorem dX3_allPartsTold_10 : decode cX3_allPartsTold 10 = .ok (.iadd, 1) := by decide +kernel
theorem dX3_allPartsTold_11 : decode cX3_allPartsTold 11 = .ok (.iload_n 0, 1) := by decide +kernel
theorem dX3_allPartsTold_12 : decode cX3_allPartsTold 12 = .ok (.iconst 2, 1) := by decide +kernel
theorem dX3_allPartsTold_13 : decode cX3_allPartsTold 13 = .ok (.invokestatic 15, 3) := by decide +kernel
theorem dX3_allPartsTold_16 : decode cX3_allPartsTold 16 = .ok (.iadd, 1) := by decide +kernel
theorem dX3_allPartsTold_17 : decode cX3_allPartsTold 17 = .ok (.iload_n 0, 1) := by decide +kernel
theorem dX3_allPartsTold_18 : decode cX3_allPartsTold 18 = .ok (.iconst 3, 1) := by decide +kernel
theorem dX3_allPartsTold_19 : decode cX3_allPartsTold 19 = .ok (.invokestatic 15, 3) := by decide +kernel
theorem dX3_allPartsTold_22 : decode cX3_allPartsTold 22 = .ok (.iadd, 1) := by decide +kernel
theorem dX3_allPartsTold_23 : decode cX3_allPartsTold 23 = .ok (.ireturn, 1) := by decide +kernel
theorem dX3_look_0 : decode cX3_look 0 = .ok (.aload_n 0, 1) := by decide +kernel
theorem dX3_look_1 : decode cX3_look 1 = .ok (.iload_n 1, 1) := by decide +kernel
theorem dX3_look_2 : decode cX3_look 2 = .ok (.putfield 19, 3) := by decide +kernel
theorem dX3_look_5 : decode cX3_look 5 = .ok (.aload_n 0, 1) := by decide +kernel
theorem dX3_look_6 : decode cX3_look 6 = .ok (.iconst 0, 1) := by decide +kernel
theorem dX3_look_7 : decode cX3_look 7 = .ok (.putfield 23, 3) := by decide +kernel
theorem dX3_look_10 : decode cX3_look 10 = .ok (.aload_n 0, 1) := by decide +kernel
theorem dX3_look_11 : decode cX3_look 11 = .ok (.iconst 0, 1) := by decide +kernel
theorem dX3_look_12 : decode cX3_look 12 = .ok (.putfield 26, 3) := by decide +kernel
theorem dX3_look_15 : decode cX3_look 15 = .ok (.aload_n 0, 1) := by decide +kernel
theorem dX3_look_16 : decode cX3_look 16 = .ok (.iconst 0, 1) := by decide +kernel
theorem dX3_look_17 : decode cX3_look 17 = .ok (.putfield 29, 3) := by decide +kernel
theorem dX3_look_20 : decode cX3_look 20 = .ok (.iconst 0, 1) := by decide +kernel
theorem dX3_look_21 : decode cX3_look 21 = .ok (.istore_n 2, 1) := by decide +kernel
theorem dX3_look_22 : decode cX3_look 22 = .ok (.iconst 0, 1) := by decide +kernel
theorem dX3_look_23 : decode cX3_look 23 = .ok (.istore_n 3, 1) := by decide +kernel
theorem dX3_look_24 : decode cX3_look 24 = .ok (.iload_n 3, 1) := by decide +kernel
theorem dX3_look_25 : decode cX3_look 25 = .ok (.iconst 4, 1) := by decide +kernel
theorem dX3_look_26 : decode cX3_look 26 = .ok (.if_icmp .ge 103, 3) := by decide +kernel
theorem dX3_look_29 : decode cX3_look 29 = .ok (.iload_n 1, 1) := by decide +kernel
theorem dX3_look_30 : decode cX3_look 30 = .ok (.iload_n 3, 1) := by decide +kernel
theorem dX3_look_31 : decode cX3_look 31 = .ok (.invokestatic 15, 3) := by decide +kernel
theorem dX3_look_34 : decode cX3_look 34 = .ok (.istore 4, 2) := by decide +kernel
theorem dX3_look_36 : decode cX3_look 36 = .ok (.iload 4, 2) := by decide +kernel
theorem dX3_look_38 : decode cX3_look 38 = .ok (.aload_n 0, 1) := by decide +kernel
theorem dX3_look_39 : decode cX3_look 39 = .ok (.getfield 9, 3) := by decide +kernel
theorem dX3_look_42 : decode cX3_look 42 = .ok (.getfield 32, 3) := by decide +kernel
theorem dX3_look_45 : decode cX3_look 45 = .ok (.iload_n 3, 1) := by decide +kernel
theorem dX3_look_46 : decode cX3_look 46 = .ok (.iaload, 1) := by decide +kernel
theorem dX3_look_47 : decode cX3_look 47 = .ok (.if_icmp .lt 18, 3) := by decide +kernel
theorem dX3_look_50 : decode cX3_look 50 = .ok (.aload_n 0, 1) := by decide +kernel
theorem dX3_look_51 : decode cX3_look 51 = .ok (.dup, 1) := by decide +kernel
theorem dX3_look_52 : decode cX3_look 52 = .ok (.getfield 26, 3) := by decide +kernel
theorem dX3_look_55 : decode cX3_look 55 = .ok (.iconst 1, 1) := by decide +kernel
theorem dX3_look_56 : decode cX3_look 56 = .ok (.iload_n 3, 1) := by decide +kernel
theorem dX3_look_57 : decode cX3_look 57 = .ok (.ishl, 1) := by decide +kernel
theorem dX3_look_58 : decode cX3_look 58 = .ok (.ior, 1) := by decide +kernel
theorem dX3_look_59 : decode cX3_look 59 = .ok (.putfield 26, 3) := by decide +kernel
theorem dX3_look_62 : decode cX3_look 62 = .ok (.goto 61, 3) := by decide +kernel
theorem dX3_look_65 : decode cX3_look 65 = .ok (.iload 4, 2) := by decide +kernel
theorem dX3_look_67 : decode cX3_look 67 = .ok (.ifCond .le 56, 3) := by decide +kernel
theorem dX3_look_70 : decode cX3_look 70 = .ok (.aload_n 0, 1) := by decide +kernel
theorem dX3_look_71 : decode cX3_look 71 = .ok (.dup, 1) := by decide +kernel
theorem dX3_look_72 : decode cX3_look 72 = .ok (.getfield 23, 3) := by decide +kernel
theorem dX3_look_75 : decode cX3_look 75 = .ok (.iconst 1, 1) := by decide +kernel
theorem dX3_look_76 : decode cX3_look 76 = .ok (.iload_n 3, 1) := by decide +kernel
theorem dX3_look_77 : decode cX3_look 77 = .ok (.ishl, 1) := by decide +kernel
theorem dX3_look_78 : decode cX3_look 78 = .ok (.ior, 1) := by decide +kernel
theorem dX3_look_79 : decode cX3_look 79 = .ok (.putfield 23, 3) := by decide +kernel
theorem dX3_look_82 : decode cX3_look 82 = .ok (.aload_n 0, 1) := by decide +kernel
theorem dX3_look_83 : decode cX3_look 83 = .ok (.dup, 1) := by decide +kernel
theorem dX3_look_84 : decode cX3_look 84 = .ok (.getfield 29, 3) := by decide +kernel
theorem dX3_look_87 : decode cX3_look 87 = .ok (.iconst 1, 1) := by decide +kernel
theorem dX3_look_88 : decode cX3_look 88 = .ok (.aload_n 0, 1) := by decide +kernel
theorem dX3_look_89 : decode cX3_look 89 = .ok (.getfield 9, 3) := by decide +kernel
theorem dX3_look_92 : decode cX3_look 92 = .ok (.getfield 38, 3) := by decide +kernel
theorem dX3_look_95 : decode cX3_look 95 = .ok (.iload_n 3, 1) := by decide +kernel
theorem dX3_look_96 : decode cX3_look 96 = .ok (.iaload, 1) := by decide +kernel
theorem dX3_look_97 : decode cX3_look 97 = .ok (.ishl, 1) := by decide +kernel
theorem dX3_look_98 : decode cX3_look 98 = .ok (.ior, 1) := by decide +kernel
theorem dX3_look_99 : decode cX3_look 99 = .ok (.putfield 29, 3) := by decide +kernel
theorem dX3_look_102 : decode cX3_look 102 = .ok (.iload_n 2, 1) := by decide +kernel
theorem dX3_look_103 : decode cX3_look 103 = .ok (.aload_n 0, 1) := by decide +kernel
theorem dX3_look_104 : decode cX3_look 104 = .ok (.getfield 9, 3) := by decide +kernel
theorem dX3_look_107 : decode cX3_look 107 = .ok (.getfield 41, 3) := by decide +kernel
theorem dX3_look_110 : decode cX3_look 110 = .ok (.iload_n 3, 1) := by decide +kernel
theorem dX3_look_111 : decode cX3_look 111 = .ok (.iaload, 1) := by decide +kernel
theorem dX3_look_112 : decode cX3_look 112 = .ok (.iload 4, 2) := by decide +kernel
theorem dX3_look_114 : decode cX3_look 114 = .ok (.iconst 1, 1) := by decide +kernel
theorem dX3_look_115 : decode cX3_look 115 = .ok (.isub, 1) := by decide +kernel
theorem dX3_look_116 : decode cX3_look 116 = .ok (.ishr, 1) := by decide +kernel
theorem dX3_look_117 : decode cX3_look 117 = .ok (.iconst 1, 1) := by decide +kernel
theorem dX3_look_118 : decode cX3_look 118 = .ok (.iand, 1) := by decide +kernel
theorem dX3_look_119 : decode cX3_look 119 = .ok (.iload_n 3, 1) := by decide +kernel
theorem dX3_look_120 : decode cX3_look 120 = .ok (.ishl, 1) := by decide +kernel
theorem dX3_look_121 : decode cX3_look 121 = .ok (.ior, 1) := by decide +kernel
theorem dX3_look_122 : decode cX3_look 122 = .ok (.istore_n 2, 1) := by decide +kernel
theorem dX3_look_123 : decode cX3_look 123 = .ok (.iinc 3 1, 3) := by decide +kernel
theorem dX3_look_126 : decode cX3_look 126 = .ok (.goto (-102), 3) := by decide +kernel
theorem dX3_look_129 : decode cX3_look 129 = .ok (.aload_n 0, 1) := by decide +kernel
theorem dX3_look_130 : decode cX3_look 130 = .ok (.aload_n 0, 1) := by decide +kernel
theorem dX3_look_131 : decode cX3_look 131 = .ok (.getfield 9, 3) := by decide +kernel
theorem dX3_look_134 : decode cX3_look 134 = .ok (.getfield 44, 3) := by decide +kernel
theorem dX3_look_137 : decode cX3_look 137 = .ok (.iconst 2, 1) := by decide +kernel
theorem dX3_look_138 : decode cX3_look 138 = .ok (.if_icmp .ne 10, 3) := by decide +kernel
theorem dX3_look_141 : decode cX3_look 141 = .ok (.aload_n 0, 1) := by decide +kernel
theorem dX3_look_142 : decode cX3_look 142 = .ok (.getfield 23, 3) := by decide +kernel
theorem dX3_look_145 : decode cX3_look 145 = .ok (.goto 7, 3) := by decide +kernel
theorem dX3_look_148 : decode cX3_look 148 = .ok (.aload_n 0, 1) := by decide +kernel
theorem dX3_look_149 : decode cX3_look 149 = .ok (.invokevirtual 47, 3) := by decide +kernel
theorem dX3_look_152 : decode cX3_look 152 = .ok (.putfield 51, 3) := by decide +kernel
theorem dX3_look_155 : decode cX3_look 155 = .ok (.aload_n 0, 1) := by decide +kernel
theorem dX3_look_156 : decode cX3_look 156 = .ok (.aload_n 0, 1) := by decide +kernel
theorem dX3_look_157 : decode cX3_look 157 = .ok (.getfield 23, 3) := by decide +kernel
theorem dX3_look_160 : decode cX3_look 160 = .ok (.ifCond .eq 12, 3) := by decide +kernel
theorem dX3_look_163 : decode cX3_look 163 = .ok (.iload_n 2, 1) := by decide +kernel
theorem dX3_look_164 : decode cX3_look 164 = .ok (.aload_n 0, 1) := by decide +kernel
theorem dX3_look_165 : decode cX3_look 165 = .ok (.getfield 51, 3) := by decide +kernel
theorem dX3_look_168 : decode cX3_look 168 = .ok (.iand, 1) := by decide +kernel
theorem dX3_look_169 : decode cX3_look 169 = .ok (.ifCond .eq 7, 3) := by decide +kernel
theorem dX3_look_172 : decode cX3_look 172 = .ok (.iconst 1, 1) := by decide +kernel
theorem dX3_look_173 : decode cX3_look 173 = .ok (.goto 4, 3) := by decide +kernel
theorem dX3_look_176 : decode cX3_look 176 = .ok (.iconst 0, 1) := by decide +kernel
theorem dX3_look_177 : decode cX3_look 177 = .ok (.putfield 54, 3) := by decide +kernel
theorem dX3_look_180 : decode cX3_look 180 = .ok (.return_, 1) := by decide +kernel
theorem dX3_lowestOfRow_0 : decode cX3_lowestOfRow 0 = .ok (.aload_n 0, 1) := by decide +kernel
theorem dX3_lowestOfRow_1 : decode cX3_lowestOfRow 1 = .ok (.getfield 19, 3) := by decide +kernel
theorem dX3_lowestOfRow_4 : decode cX3_lowestOfRow 4 = .ok (.bipush 12, 2) := by decide +kernel
theorem dX3_lowestOfRow_6 : decode cX3_lowestOfRow 6 = .ok (.ishr, 1) := by decide +kernel
theorem dX3_lowestOfRow_7 : decode cX3_lowestOfRow 7 = .ok (.bipush 7, 2) := by decide +kernel
theorem dX3_lowestOfRow_9 : decode cX3_lowestOfRow 9 = .ok (.iand, 1) := by decide +kernel
theorem dX3_lowestOfRow_10 : decode cX3_lowestOfRow 10 = .ok (.istore_n 1, 1) := by decide +kernel
theorem dX3_lowestOfRow_11 : decode cX3_lowestOfRow 11 = .ok (.iload_n 1, 1) := by decide +kernel
theorem dX3_lowestOfRow_12 : decode cX3_lowestOfRow 12 = .ok (.ifCond .ne 7, 3) := by decide +kernel
theorem dX3_lowestOfRow_15 : decode cX3_lowestOfRow 15 = .ok (.iconst 0, 1) := by decide +kernel
theorem dX3_lowestOfRow_16 : decode cX3_lowestOfRow 16 = .ok (.goto 8, 3) := by decide +kernel
theorem dX3_lowestOfRow_19 : decode cX3_lowestOfRow 19 = .ok (.iconst 1, 1) := by decide +kernel
theorem dX3_lowestOfRow_20 : decode cX3_lowestOfRow 20 = .ok (.iload_n 1, 1) := by decide +kernel
theorem dX3_lowestOfRow_21 : decode cX3_lowestOfRow 21 = .ok (.iconst 1, 1) := by decide +kernel
theorem dX3_lowestOfRow_22 : decode cX3_lowestOfRow 22 = .ok (.isub, 1) := by decide +kernel
theorem dX3_lowestOfRow_23 : decode cX3_lowestOfRow 23 = .ok (.ishl, 1) := by decide +kernel
theorem dX3_lowestOfRow_24 : decode cX3_lowestOfRow 24 = .ok (.ireturn, 1) := by decide +kernel
theorem dX3_whyNot_0 : decode cX3_whyNot 0 = .ok (.iconst 1, 1) := by decide +kernel
theorem dX3_whyNot_1 : decode cX3_whyNot 1 = .ok (.iload_n 1, 1) := by decide +kernel
theorem dX3_whyNot_2 : decode cX3_whyNot 2 = .ok (.ishl, 1) := by decide +kernel
theorem dX3_whyNot_3 : decode cX3_whyNot 3 = .ok (.istore_n 3, 1) := by decide +kernel
theorem dX3_whyNot_4 : decode cX3_whyNot 4 = .ok (.aload_n 0, 1) := by decide +kernel
theorem dX3_whyNot_5 : decode cX3_whyNot 5 = .ok (.getfield 26, 3) := by decide +kernel
theorem dX3_whyNot_8 : decode cX3_whyNot 8 = .ok (.iload_n 3, 1) := by decide +kernel
theorem dX3_whyNot_9 : decode cX3_whyNot 9 = .ok (.iand, 1) := by decide +kernel
theorem dX3_whyNot_10 : decode cX3_whyNot 10 = .ok (.ifCond .eq 5, 3) := by decide +kernel
theorem dX3_whyNot_13 : decode cX3_whyNot 13 = .ok (.iconst 1, 1) := by decide +kernel
theorem dX3_whyNot_14 : decode cX3_whyNot 14 = .ok (.ireturn, 1) := by decide +kernel
theorem dX3_whyNot_15 : decode cX3_whyNot 15 = .ok (.aload_n 0, 1) := by decide +kernel
theorem dX3_whyNot_16 : decode cX3_whyNot 16 = .ok (.getfield 23, 3) := by decide +kernel
theorem dX3_whyNot_19 : decode cX3_whyNot 19 = .ok (.iload_n 3, 1) := by decide +kernel
theorem dX3_whyNot_20 : decode cX3_whyNot 20 = .ok (.iand, 1) := by decide +kernel
theorem dX3_whyNot_21 : decode cX3_whyNot 21 = .ok (.ifCond .eq 14, 3) := by decide +kernel
theorem dX3_whyNot_24 : decode cX3_whyNot 24 = .ok (.aload_n 0, 1) := by decide +kernel
theorem dX3_whyNot_25 : decode cX3_whyNot 25 = .ok (.getfield 51, 3) := by decide +kernel
theorem dX3_whyNot_28 : decode cX3_whyNot 28 = .ok (.iload_n 3, 1) := by decide +kernel
theorem dX3_whyNot_29 : decode cX3_whyNot 29 = .ok (.iand, 1) := by decide +kernel
theorem dX3_whyNot_30 : decode cX3_whyNot 30 = .ok (.ifCond .ne 35, 3) := by decide +kernel
theorem dX3_whyNot_33 : decode cX3_whyNot 33 = .ok (.iconst 2, 1) := by decide +kernel
theorem dX3_whyNot_34 : decode cX3_whyNot 34 = .ok (.ireturn, 1) := by decide +kernel
theorem dX3_whyNot_35 : decode cX3_whyNot 35 = .ok (.aload_n 0, 1) := by decide +kernel
theorem dX3_whyNot_36 : decode cX3_whyNot 36 = .ok (.getfield 54, 3) := by decide +kernel
theorem dX3_whyNot_39 : decode cX3_whyNot 39 = .ok (.ifCond .ne 5, 3) := by decide +kernel
theorem dX3_whyNot_42 : decode cX3_whyNot 42 = .ok (.iconst 3, 1) := by decide +kernel
theorem dX3_whyNot_43 : decode cX3_whyNot 43 = .ok (.ireturn, 1) := by decide +kernel
theorem dX3_whyNot_44 : decode cX3_whyNot 44 = .ok (.aload_n 0, 1) := by decide +kernel
theorem dX3_whyNot_45 : decode cX3_whyNot 45 = .ok (.getfield 29, 3) := by decide +kernel
theorem dX3_whyNot_48 : decode cX3_whyNot 48 = .ok (.aload_n 0, 1) := by decide +kernel
theorem dX3_whyNot_49 : decode cX3_whyNot 49 = .ok (.getfield 9, 3) := by decide +kernel
theorem dX3_whyNot_52 : decode cX3_whyNot 52 = .ok (.getfield 38, 3) := by decide +kernel
theorem dX3_whyNot_55 : decode cX3_whyNot 55 = .ok (.iload_n 1, 1) := by decide +kernel
theorem dX3_whyNot_56 : decode cX3_whyNot 56 = .ok (.iaload, 1) := by decide +kernel
theorem dX3_whyNot_57 : decode cX3_whyNot 57 = .ok (.ishr, 1) := by decide +kernel
theorem dX3_whyNot_58 : decode cX3_whyNot 58 = .ok (.iconst 1, 1) := by decide +kernel
theorem dX3_whyNot_59 : decode cX3_whyNot 59 = .ok (.iand, 1) := by decide +kernel
theorem dX3_whyNot_60 : decode cX3_whyNot 60 = .ok (.ifCond .eq 5, 3) := by decide +kernel
theorem dX3_whyNot_63 : decode cX3_whyNot 63 = .ok (.iconst 4, 1) := by decide +kernel
theorem dX3_whyNot_64 : decode cX3_whyNot 64 = .ok (.ireturn, 1) := by decide +kernel
theorem dX3_whyNot_65 : decode cX3_whyNot 65 = .ok (.aload_n 0, 1) := by decide +kernel
theorem dX3_whyNot_66 : decode cX3_whyNot 66 = .ok (.iload_n 1, 1) := by decide +kernel
theorem dX3_whyNot_67 : decode cX3_whyNot 67 = .ok (.iload_n 2, 1) := by decide +kernel
theorem dX3_whyNot_68 : decode cX3_whyNot 68 = .ok (.invokevirtual 58, 3) := by decide +kernel
theorem dX3_whyNot_71 : decode cX3_whyNot 71 = .ok (.ifCond .eq 7, 3) := by decide +kernel
theorem dX3_whyNot_74 : decode cX3_whyNot 74 = .ok (.iconst 5, 1) := by decide +kernel
theorem dX3_whyNot_75 : decode cX3_whyNot 75 = .ok (.goto 4, 3) := by decide +kernel
theorem dX3_whyNot_78 : decode cX3_whyNot 78 = .ok (.iconst 0, 1) := by decide +kernel
theorem dX3_whyNot_79 : decode cX3_whyNot 79 = .ok (.ireturn, 1) := by decide +kernel
theorem dX3_waitsFor_0 : decode cX3_waitsFor 0 = .ok (.aload_n 0, 1) := by decide +kernel
theorem dX3_waitsFor_1 : decode cX3_waitsFor 1 = .ok (.getfield 19, 3) := by decide +kernel
theorem dX3_waitsFor_4 : decode cX3_waitsFor 4 = .ok (.iload_n 1, 1) := by decide +kernel
theorem dX3_waitsFor_5 : decode cX3_waitsFor 5 = .ok (.invokestatic 15, 3) := by decide +kernel
theorem dX3_waitsFor_8 : decode cX3_waitsFor 8 = .ok (.istore_n 3, 1) := by decide +kernel
theorem dX3_waitsFor_9 : decode cX3_waitsFor 9 = .ok (.iload_n 3, 1) := by decide +kernel
theorem dX3_waitsFor_10 : decode cX3_waitsFor 10 = .ok (.iconst 4, 1) := by decide +kernel
theorem dX3_waitsFor_11 : decode cX3_waitsFor 11 = .ok (.if_icmp .ge 28, 3) := by decide +kernel
theorem dX3_waitsFor_14 : decode cX3_waitsFor 14 = .ok (.aload_n 0, 1) := by decide +kernel
theorem dX3_waitsFor_15 : decode cX3_waitsFor 15 = .ok (.getfield 9, 3) := by decide +kernel
theorem dX3_waitsFor_18 : decode cX3_waitsFor 18 = .ok (.getfield 61, 3) := by decide +kernel
theorem dX3_waitsFor_21 : decode cX3_waitsFor 21 = .ok (.iload_n 1, 1) := by decide +kernel
theorem dX3_waitsFor_22 : decode cX3_waitsFor 22 = .ok (.iconst 4, 1) := by decide +kernel
theorem dX3_waitsFor_23 : decode cX3_waitsFor 23 = .ok (.imul, 1) := by decide +kernel
theorem dX3_waitsFor_24 : decode cX3_waitsFor 24 = .ok (.iload_n 3, 1) := by decide +kernel
theorem dX3_waitsFor_25 : decode cX3_waitsFor 25 = .ok (.iadd, 1) := by decide +kernel
theorem dX3_waitsFor_26 : decode cX3_waitsFor 26 = .ok (.iaload, 1) := by decide +kernel
theorem dX3_waitsFor_27 : decode cX3_waitsFor 27 = .ok (.iload_n 2, 1) := by decide +kernel
theorem dX3_waitsFor_28 : decode cX3_waitsFor 28 = .ok (.iand, 1) := by decide +kernel
theorem dX3_waitsFor_29 : decode cX3_waitsFor 29 = .ok (.aload_n 0, 1) := by decide +kernel
theorem dX3_waitsFor_30 : decode cX3_waitsFor 30 = .ok (.getfield 26, 3) := by decide +kernel
theorem dX3_waitsFor_33 : decode cX3_waitsFor 33 = .ok (.iconst (-1), 1) := by decide +kernel
theorem dX3_waitsFor_34 : decode cX3_waitsFor 34 = .ok (.ixor, 1) := by decide +kernel
theorem dX3_waitsFor_35 : decode cX3_waitsFor 35 = .ok (.iand, 1) := by decide +kernel
theorem dX3_waitsFor_36 : decode cX3_waitsFor 36 = .ok (.goto 4, 3) := by decide +kernel
theorem dX3_waitsFor_39 : decode cX3_waitsFor 39 = .ok (.iconst 0, 1) := by decide +kernel
theorem dX3_waitsFor_40 : decode cX3_waitsFor 40 = .ok (.ireturn, 1) := by decide +kernel
theorem dX3_deepWith_0 : decode cX3_deepWith 0 = .ok (.aload_n 0, 1) := by decide +kernel
theorem dX3_deepWith_1 : decode cX3_deepWith 1 = .ok (.getfield 23, 3) := by decide +kernel
theorem dX3_deepWith_4 : decode cX3_deepWith 4 = .ok (.iconst 1, 1) := by decide +kernel
theorem dX3_deepWith_5 : decode cX3_deepWith 5 = .ok (.iload_n 1, 1) := by decide +kernel
theorem dX3_deepWith_6 : decode cX3_deepWith 6 = .ok (.ishl, 1) := by decide +kernel
theorem dX3_deepWith_7 : decode cX3_deepWith 7 = .ok (.ior, 1) := by decide +kernel
theorem dX3_deepWith_8 : decode cX3_deepWith 8 = .ok (.invokestatic 64, 3) := by decide +kernel
theorem dX3_deepWith_11 : decode cX3_deepWith 11 = .ok (.ireturn, 1) := by decide +kernel
theorem dX3_after_0 : decode cX3_after 0 = .ok (.aload_n 0, 1) := by decide +kernel
theorem dX3_after_1 : decode cX3_after 1 = .ok (.getfield 19, 3) := by decide +kernel
theorem dX3_after_4 : decode cX3_after 4 = .ok (.sipush 4095, 3) := by decide +kernel
theorem dX3_after_7 : decode cX3_after 7 = .ok (.iand, 1) := by decide +kernel
theorem dX3_after_8 : decode cX3_after 8 = .ok (.iconst 1, 1) := by decide +kernel
theorem dX3_after_9 : decode cX3_after 9 = .ok (.iconst 3, 1) := by decide +kernel
theorem dX3_after_10 : decode cX3_after 10 = .ok (.iload_n 1, 1) := by decide +kernel
theorem dX3_after_11 : decode cX3_after 11 = .ok (.imul, 1) := by decide +kernel
theorem dX3_after_12 : decode cX3_after 12 = .ok (.ishl, 1) := by decide +kernel
theorem dX3_after_13 : decode cX3_after 13 = .ok (.iadd, 1) := by decide +kernel
theorem dX3_after_14 : decode cX3_after 14 = .ok (.istore_n 2, 1) := by decide +kernel
theorem dX3_after_15 : decode cX3_after 15 = .ok (.iload_n 2, 1) := by decide +kernel
theorem dX3_after_16 : decode cX3_after 16 = .ok (.iload_n 1, 1) := by decide +kernel
theorem dX3_after_17 : decode cX3_after 17 = .ok (.invokestatic 15, 3) := by decide +kernel
theorem dX3_after_20 : decode cX3_after 20 = .ok (.aload_n 0, 1) := by decide +kernel
theorem dX3_after_21 : decode cX3_after 21 = .ok (.getfield 9, 3) := by decide +kernel
theorem dX3_after_24 : decode cX3_after 24 = .ok (.getfield 32, 3) := by decide +kernel
theorem dX3_after_27 : decode cX3_after 27 = .ok (.iload_n 1, 1) := by decide +kernel
theorem dX3_after_28 : decode cX3_after 28 = .ok (.iaload, 1) := by decide +kernel
theorem dX3_after_29 : decode cX3_after 29 = .ok (.if_icmp .lt 7, 3) := by decide +kernel
theorem dX3_after_32 : decode cX3_after 32 = .ok (.iconst 1, 1) := by decide +kernel
theorem dX3_after_33 : decode cX3_after 33 = .ok (.goto 4, 3) := by decide +kernel
theorem dX3_after_36 : decode cX3_after 36 = .ok (.iconst 0, 1) := by decide +kernel
theorem dX3_after_37 : decode cX3_after 37 = .ok (.istore_n 3, 1) := by decide +kernel
theorem dX3_after_38 : decode cX3_after 38 = .ok (.aload_n 0, 1) := by decide +kernel
theorem dX3_after_39 : decode cX3_after 39 = .ok (.iload_n 1, 1) := by decide +kernel
theorem dX3_after_40 : decode cX3_after 40 = .ok (.iload_n 3, 1) := by decide +kernel
theorem dX3_after_41 : decode cX3_after 41 = .ok (.invokevirtual 70, 3) := by decide +kernel
theorem dX3_after_44 : decode cX3_after 44 = .ok (.bipush 12, 2) := by decide +kernel
theorem dX3_after_46 : decode cX3_after 46 = .ok (.ishl, 1) := by decide +kernel
theorem dX3_after_47 : decode cX3_after 47 = .ok (.iload_n 2, 1) := by decide +kernel
theorem dX3_after_48 : decode cX3_after 48 = .ok (.ior, 1) := by decide +kernel
theorem dX3_after_49 : decode cX3_after 49 = .ok (.ireturn, 1) := by decide +kernel
theorem dX3_rowAfter_0 : decode cX3_rowAfter 0 = .ok (.aload_n 0, 1) := by decide +kernel
theorem dX3_rowAfter_1 : decode cX3_rowAfter 1 = .ok (.getfield 19, 3) := by decide +kernel
theorem dX3_rowAfter_4 : decode cX3_rowAfter 4 = .ok (.bipush 12, 2) := by decide +kernel
theorem dX3_rowAfter_6 : decode cX3_rowAfter 6 = .ok (.ishr, 1) := by decide +kernel
theorem dX3_rowAfter_7 : decode cX3_rowAfter 7 = .ok (.istore_n 3, 1) := by decide +kernel
theorem dX3_rowAfter_8 : decode cX3_rowAfter 8 = .ok (.aload_n 0, 1) := by decide +kernel
theorem dX3_rowAfter_9 : decode cX3_rowAfter 9 = .ok (.getfield 23, 3) := by decide +kernel
theorem dX3_rowAfter_12 : decode cX3_rowAfter 12 = .ok (.iload_n 1, 1) := by decide +kernel
theorem dX3_rowAfter_13 : decode cX3_rowAfter 13 = .ok (.ishr, 1) := by decide +kernel
theorem dX3_rowAfter_14 : decode cX3_rowAfter 14 = .ok (.iconst 1, 1) := by decide +kernel
theorem dX3_rowAfter_15 : decode cX3_rowAfter 15 = .ok (.iand, 1) := by decide +kernel
theorem dX3_rowAfter_16 : decode cX3_rowAfter 16 = .ok (.ifCond .eq 7, 3) := by decide +kernel
theorem dX3_rowAfter_19 : decode cX3_rowAfter 19 = .ok (.iconst 1, 1) := by decide +kernel
theorem dX3_rowAfter_20 : decode cX3_rowAfter 20 = .ok (.goto 4, 3) := by decide +kernel
theorem dX3_rowAfter_23 : decode cX3_rowAfter 23 = .ok (.iconst 0, 1) := by decide +kernel
theorem dX3_rowAfter_24 : decode cX3_rowAfter 24 = .ok (.istore 4, 2) := by decide +kernel
theorem dX3_rowAfter_26 : decode cX3_rowAfter 26 = .ok (.aload_n 0, 1) := by decide +kernel
theorem dX3_rowAfter_27 : decode cX3_rowAfter 27 = .ok (.getfield 9, 3) := by decide +kernel
theorem dX3_rowAfter_30 : decode cX3_rowAfter 30 = .ok (.getfield 44, 3) := by decide +kernel
theorem dX3_rowAfter_33 : decode cX3_rowAfter 33 = .ok (.iconst 2, 1) := by decide +kernel
theorem dX3_rowAfter_34 : decode cX3_rowAfter 34 = .ok (.if_icmp .eq 9, 3) := by decide +kernel
theorem dX3_rowAfter_37 : decode cX3_rowAfter 37 = .ok (.iload 4, 2) := by decide +kernel
theorem dX3_rowAfter_39 : decode cX3_rowAfter 39 = .ok (.iload_n 2, 1) := by decide +kernel
theorem dX3_rowAfter_40 : decode cX3_rowAfter 40 = .ok (.if_icmp .eq 5, 3) := by decide +kernel
theorem dX3_rowAfter_43 : decode cX3_rowAfter 43 = .ok (.iload_n 3, 1) := by decide +kernel
theorem dX3_rowAfter_44 : decode cX3_rowAfter 44 = .ok (.ireturn, 1) := by decide +kernel
theorem dX3_rowAfter_45 : decode cX3_rowAfter 45 = .ok (.iload 4, 2) := by decide +kernel
theorem dX3_rowAfter_47 : decode cX3_rowAfter 47 = .ok (.ifCond .eq 7, 3) := by decide +kernel
theorem dX3_rowAfter_50 : decode cX3_rowAfter 50 = .ok (.iload_n 3, 1) := by decide +kernel
theorem dX3_rowAfter_51 : decode cX3_rowAfter 51 = .ok (.iconst 3, 1) := by decide +kernel
theorem dX3_rowAfter_52 : decode cX3_rowAfter 52 = .ok (.ishr, 1) := by decide +kernel
theorem dX3_rowAfter_53 : decode cX3_rowAfter 53 = .ok (.ireturn, 1) := by decide +kernel
theorem dX3_rowAfter_54 : decode cX3_rowAfter 54 = .ok (.iload_n 1, 1) := by decide +kernel
theorem dX3_rowAfter_55 : decode cX3_rowAfter 55 = .ok (.iconst 1, 1) := by decide +kernel
theorem dX3_rowAfter_56 : decode cX3_rowAfter 56 = .ok (.iadd, 1) := by decide +kernel
theorem dX3_rowAfter_57 : decode cX3_rowAfter 57 = .ok (.istore 5, 2) := by decide +kernel
theorem dX3_rowAfter_59 : decode cX3_rowAfter 59 = .ok (.aload_n 0, 1) := by decide +kernel
theorem dX3_rowAfter_60 : decode cX3_rowAfter 60 = .ok (.getfield 9, 3) := by decide +kernel
theorem dX3_rowAfter_63 : decode cX3_rowAfter 63 = .ok (.getfield 44, 3) := by decide +kernel
theorem dX3_rowAfter_66 : decode cX3_rowAfter 66 = .ok (.ifCond .ne 12, 3) := by decide +kernel
theorem dX3_rowAfter_69 : decode cX3_rowAfter 69 = .ok (.iload_n 3, 1) := by decide +kernel
theorem dX3_rowAfter_70 : decode cX3_rowAfter 70 = .ok (.iconst 3, 1) := by decide +kernel
theorem dX3_rowAfter_71 : decode cX3_rowAfter 71 = .ok (.ishl, 1) := by decide +kernel
theorem dX3_rowAfter_72 : decode cX3_rowAfter 72 = .ok (.iload 5, 2) := by decide +kernel
theorem dX3_rowAfter_74 : decode cX3_rowAfter 74 = .ok (.ior, 1) := by decide +kernel
theorem dX3_rowAfter_75 : decode cX3_rowAfter 75 = .ok (.goto 17, 3) := by decide +kernel
theorem dX3_rowAfter_78 : decode cX3_rowAfter 78 = .ok (.iload_n 3, 1) := by decide +kernel
theorem dX3_rowAfter_79 : decode cX3_rowAfter 79 = .ok (.iload 5, 2) := by decide +kernel
theorem dX3_rowAfter_81 : decode cX3_rowAfter 81 = .ok (.iconst 3, 1) := by decide +kernel
theorem dX3_rowAfter_82 : decode cX3_rowAfter 82 = .ok (.aload_n 0, 1) := by decide +kernel
theorem dX3_rowAfter_83 : decode cX3_rowAfter 83 = .ok (.getfield 23, 3) := by decide +kernel
theorem dX3_rowAfter_86 : decode cX3_rowAfter 86 = .ok (.invokestatic 64, 3) := by decide +kernel
theorem dX3_rowAfter_89 : decode cX3_rowAfter 89 = .ok (.imul, 1) := by decide +kernel
theorem dX3_rowAfter_90 : decode cX3_rowAfter 90 = .ok (.ishl, 1) := by decide +kernel
theorem dX3_rowAfter_91 : decode cX3_rowAfter 91 = .ok (.ior, 1) := by decide +kernel
theorem dX3_rowAfter_92 : decode cX3_rowAfter 92 = .ok (.ireturn, 1) := by decide +kernel
theorem dX4_init_0 : decode cX4_init 0 = .ok (.aload_n 0, 1) := by decide +kernel
theorem dX4_init_1 : decode cX4_init 1 = .ok (.invokespecial 3, 3) := by decide +kernel
theorem dX4_init_4 : decode cX4_init 4 = .ok (.aload_n 0, 1) := by decide +kernel
theorem dX4_init_5 : decode cX4_init 5 = .ok (.sipush 3784, 3) := by decide +kernel
theorem dX4_init_8 : decode cX4_init 8 = .ok (.newarray .int, 2) := by decide +kernel
theorem dX4_init_10 : decode cX4_init 10 = .ok (.putfield 11, 3) := by decide +kernel
theorem dX4_init_13 : decode cX4_init 13 = .ok (.aload_n 0, 1) := by decide +kernel
theorem dX4_init_14 : decode cX4_init 14 = .ok (.sipush 15136, 3) := by decide +kernel
theorem dX4_init_17 : decode cX4_init 17 = .ok (.newarray .int, 2) := by decide +kernel
theorem dX4_init_19 : decode cX4_init 19 = .ok (.putfield 15, 3) := by decide +kernel
theorem dX4_init_22 : decode cX4_init 22 = .ok (.aload_n 0, 1) := by decide +kernel
theorem dX4_init_23 : decode cX4_init 23 = .ok (.sipush 3784, 3) := by decide +kernel
theorem dX4_init_26 : decode cX4_init 26 = .ok (.newarray .long, 2) := by decide +kernel
theorem dX4_init_28 : decode cX4_init 28 = .ok (.putfield 18, 3) := by decide +kernel
theorem dX4_init_31 : decode cX4_init 31 = .ok (.aload_n 0, 1) := by decide +kernel
theorem dX4_init_32 : decode cX4_init 32 = .ok (.sipush 8192, 3) := by decide +kernel
theorem dX4_init_35 : decode cX4_init 35 = .ok (.newarray .int, 2) := by decide +kernel
theorem dX4_init_37 : decode cX4_init 37 = .ok (.putfield 22, 3) := by decide +kernel
theorem dX4_init_40 : decode cX4_init 40 = .ok (.aload_n 0, 1) := by decide +kernel
theorem dX4_init_41 : decode cX4_init 41 = .ok (.aload_n 1, 1) := by decide +kernel
theorem dX4_init_42 : decode cX4_init 42 = .ok (.putfield 25, 3) := by decide +kernel
theorem dX4_init_45 : decode cX4_init 45 = .ok (.aload_n 0, 1) := by decide +kernel
theorem dX4_init_46 : decode cX4_init 46 = .ok (.new 29, 3) := by decide +kernel
theorem dX4_init_49 : decode cX4_init 49 = .ok (.dup, 1) := by decide +kernel
theorem dX4_init_50 : decode cX4_init 50 = .ok (.aload_n 1, 1) := by decide +kernel
theorem dX4_init_51 : decode cX4_init 51 = .ok (.invokespecial 31, 3) := by decide +kernel
theorem dX4_init_54 : decode cX4_init 54 = .ok (.putfield 34, 3) := by decide +kernel
theorem dX4_init_57 : decode cX4_init 57 = .ok (.return_, 1) := by decide +kernel
theorem dX4_forget_0 : decode cX4_forget 0 = .ok (.aload_n 0, 1) := by decide +kernel
theorem dX4_forget_1 : decode cX4_forget 1 = .ok (.iconst 0, 1) := by decide +kernel
theorem dX4_forget_2 : decode cX4_forget 2 = .ok (.putfield 38, 3) := by decide +kernel
theorem dX4_forget_5 : decode cX4_forget 5 = .ok (.return_, 1) := by decide +kernel
theorem dX4_gather_0 : decode cX4_gather 0 = .ok (.aload_n 0, 1) := by decide +kernel
theorem dX4_gather_1 : decode cX4_gather 1 = .ok (.getfield 38, 3) := by decide +kernel
theorem dX4_gather_4 : decode cX4_gather 4 = .ok (.iload_n 1, 1) := by decide +kernel
theorem dX4_gather_5 : decode cX4_gather 5 = .ok (.if_icmp .ne 12, 3) := by decide +kernel
theorem dX4_gather_8 : decode cX4_gather 8 = .ok (.aload_n 0, 1) := by decide +kernel
theorem dX4_gather_9 : decode cX4_gather 9 = .ok (.getfield 42, 3) := by decide +kernel
theorem dX4_gather_12 : decode cX4_gather 12 = .ok (.iload_n 2, 1) := by decide +kernel
theorem dX4_gather_13 : decode cX4_gather 13 = .ok (.if_icmp .ne 4, 3) := by decide +kernel
theorem dX4_gather_16 : decode cX4_gather 16 = .ok (.return_, 1) := by decide +kernel
theorem dX4_gather_17 : decode cX4_gather 17 = .ok (.aload_n 0, 1) := by decide +kernel
theorem dX4_gather_18 : decode cX4_gather 18 = .ok (.iload_n 1, 1) := by decide +kernel
theorem dX4_gather_19 : decode cX4_gather 19 = .ok (.putfield 38, 3) := by decide +kernel
theorem dX4_gather_22 : decode cX4_gather 22 = .ok (.aload_n 0, 1) := by decide +kernel
theorem dX4_gather_23 : decode cX4_gather 23 = .ok (.iload_n 2, 1) := by decide +kernel
theorem dX4_gather_24 : decode cX4_gather 24 = .ok (.putfield 42, 3) := by decide +kernel
theorem dX4_gather_27 : decode cX4_gather 27 = .ok (.aload_n 0, 1) := by decide +kernel
theorem dX4_gather_28 : decode cX4_gather 28 = .ok (.invokevirtual 45, 3) := by decide +kernel
theorem dX4_gather_31 : decode cX4_gather 31 = .ok (.aload_n 0, 1) := by decide +kernel
theorem dX4_gather_32 : decode cX4_gather 32 = .ok (.iconst 0, 1) := by decide +kernel
theorem dX4_gather_33 : decode cX4_gather 33 = .ok (.invokevirtual 48, 3) := by decide +kernel
theorem dX4_gather_36 : decode cX4_gather 36 = .ok (.pop, 1) := by decide +kernel
theorem dX4_gather_37 : decode cX4_gather 37 = .ok (.iconst 0, 1) := by decide +kernel
theorem dX4_gather_38 : decode cX4_gather 38 = .ok (.istore_n 3, 1) := by decide +kernel
theorem dX4_gather_39 : decode cX4_gather 39 = .ok (.iload_n 3, 1) := by decide +kernel
theorem dX4_gather_40 : decode cX4_gather 40 = .ok (.aload_n 0, 1) := by decide +kernel
theorem dX4_gather_41 : decode cX4_gather 41 = .ok (.getfield 52, 3) := by decide +kernel
theorem dX4_gather_44 : decode cX4_gather 44 = .ok (.if_icmp .ge 21, 3) := by decide +kernel
theorem dX4_gather_47 : decode cX4_gather 47 = .ok (.iload_n 3, 1) := by decide +kernel
theorem dX4_gather_48 : decode cX4_gather 48 = .ok (.sipush 3784, 3) := by decide +kernel
theorem dX4_gather_51 : decode cX4_gather 51 = .ok (.if_icmp .ge 14, 3) := by decide +kernel
theorem dX4_gather_54 : decode cX4_gather 54 = .ok (.aload_n 0, 1) := by decide +kernel
theorem dX4_gather_55 : decode cX4_gather 55 = .ok (.iload_n 3, 1) := by decide +kernel
theorem dX4_gather_56 : decode cX4_gather 56 = .ok (.invokevirtual 55, 3) := by decide +kernel
theorem dX4_gather_59 : decode cX4_gather 59 = .ok (.iinc 3 1, 3) := by decide +kernel
theorem dX4_gather_62 : decode cX4_gather 62 = .ok (.goto (-23), 3) := by decide +kernel
theorem dX4_gather_65 : decode cX4_gather 65 = .ok (.return_, 1) := by decide +kernel
theorem dX4_beginRound_0 : decode cX4_beginRound 0 = .ok (.aload_n 0, 1) := by decide +kernel
theorem dX4_beginRound_1 : decode cX4_beginRound 1 = .ok (.iconst 0, 1) := by decide +kernel
theorem dX4_beginRound_2 : decode cX4_beginRound 2 = .ok (.putfield 52, 3) := by decide +kernel
theorem dX4_beginRound_5 : decode cX4_beginRound 5 = .ok (.aload_n 0, 1) := by decide +kernel
theorem dX4_beginRound_6 : decode cX4_beginRound 6 = .ok (.dup, 1) := by decide +kernel
theorem dX4_beginRound_7 : decode cX4_beginRound 7 = .ok (.getfield 59, 3) := by decide +kernel
theorem dX4_beginRound_10 : decode cX4_beginRound 10 = .ok (.iconst 1, 1) := by decide +kernel
theorem dX4_beginRound_11 : decode cX4_beginRound 11 = .ok (.iadd, 1) := by decide +kernel
theorem dX4_beginRound_12 : decode cX4_beginRound 12 = .ok (.putfield 59, 3) := by decide +kernel
theorem dX4_beginRound_15 : decode cX4_beginRound 15 = .ok (.aload_n 0, 1) := by decide +kernel
theorem dX4_beginRound_16 : decode cX4_beginRound 16 = .ok (.getfield 59, 3) := by decide +kernel
theorem dX4_beginRound_19 : decode cX4_beginRound 19 = .ok (.ldc 62, 2) := by decide +kernel
theorem dX4_beginRound_21 : decode cX4_beginRound 21 = .ok (.if_icmp .lt 30, 3) := by decide +kernel
theorem dX4_beginRound_24 : decode cX4_beginRound 24 = .ok (.iconst 0, 1) := by decide +kernel
theorem dX4_beginRound_25 : decode cX4_beginRound 25 = .ok (.istore_n 1, 1) := by decide +kernel
theorem dX4_beginRound_26 : decode cX4_beginRound 26 = .ok (.iload_n 1, 1) := by decide +kernel
theorem dX4_beginRound_27 : decode cX4_beginRound 27 = .ok (.sipush 8192, 3) := by decide +kernel
theorem dX4_beginRound_30 : decode cX4_beginRound 30 = .ok (.if_icmp .ge 16, 3) := by decide +kernel
theorem dX4_beginRound_33 : decode cX4_beginRound 33 = .ok (.aload_n 0, 1) := by decide +kernel
theorem dX4_beginRound_34 : decode cX4_beginRound 34 = .ok (.getfield 22, 3) := by decide +kernel
theorem dX4_beginRound_37 : decode cX4_beginRound 37 = .ok (.iload_n 1, 1) := by decide +kernel
theorem dX4_beginRound_38 : decode cX4_beginRound 38 = .ok (.iconst 0, 1) := by decide +kernel
theorem dX4_beginRound_39 : decode cX4_beginRound 39 = .ok (.iastore, 1) := by decide +kernel
theorem dX4_beginRound_40 : decode cX4_beginRound 40 = .ok (.iinc 1 1, 3) := by decide +kernel
theorem dX4_beginRound_43 : decode cX4_beginRound 43 = .ok (.goto (-17), 3) := by decide +kernel
theorem dX4_beginRound_46 : decode cX4_beginRound 46 = .ok (.aload_n 0, 1) := by decide +kernel
theorem dX4_beginRound_47 : decode cX4_beginRound 47 = .ok (.iconst 1, 1) := by decide +kernel
theorem dX4_beginRound_48 : decode cX4_beginRound 48 = .ok (.putfield 59, 3) := by decide +kernel
theorem dX4_beginRound_51 : decode cX4_beginRound 51 = .ok (.return_, 1) := by decide +kernel
theorem dX4_expand_0 : decode cX4_expand 0 = .ok (.aload_n 0, 1) := by decide +kernel
theorem dX4_expand_1 : decode cX4_expand 1 = .ok (.getfield 34, 3) := by decide +kernel
theorem dX4_expand_4 : decode cX4_expand 4 = .ok (.aload_n 0, 1) := by decide +kernel
theorem dX4_expand_5 : decode cX4_expand 5 = .ok (.getfield 11, 3) := by decide +kernel
theorem dX4_expand_8 : decode cX4_expand 8 = .ok (.iload_n 1, 1) := by decide +kernel
theorem dX4_expand_9 : decode cX4_expand 9 = .ok (.iaload, 1) := by decide +kernel
theorem dX4_expand_10 : decode cX4_expand 10 = .ok (.invokevirtual 63, 3) := by decide +kernel
theorem dX4_expand_13 : decode cX4_expand 13 = .ok (.iconst 0, 1) := by decide +kernel
theorem dX4_expand_14 : decode cX4_expand 14 = .ok (.istore_n 2, 1) := by decide +kernel
theorem dX4_expand_15 : decode cX4_expand 15 = .ok (.iload_n 2, 1) := by decide +kernel
theorem dX4_expand_16 : decode cX4_expand 16 = .ok (.iconst 4, 1) := by decide +kernel
theorem dX4_expand_17 : decode cX4_expand 17 = .ok (.if_icmp .ge 44, 3) := by decide +kernel
theorem dX4_expand_20 : decode cX4_expand 20 = .ok (.aload_n 0, 1) := by decide +kernel
theorem dX4_expand_21 : decode cX4_expand 21 = .ok (.getfield 15, 3) := by decide +kernel
theorem dX4_expand_24 : decode cX4_expand 24 = .ok (.iload_n 1, 1) := by decide +kernel
theorem dX4_expand_25 : decode cX4_expand 25 = .ok (.iconst 4, 1) := by decide +kernel
theorem dX4_expand_26 : decode cX4_expand 26 = .ok (.imul, 1) := by decide +kernel
theorem dX4_expand_27 : decode cX4_expand 27 = .ok (.iload_n 2, 1) := by decide +kernel
theorem dX4_expand_28 : decode cX4_expand 28 = .ok (.iadd, 1) := by decide +kernel
theorem dX4_expand_29 : decode cX4_expand 29 = .ok (.aload_n 0, 1) := by decide +kernel
theorem dX4_expand_30 : decode cX4_expand 30 = .ok (.iload_n 2, 1) := by decide +kernel
theorem dX4_expand_31 : decode cX4_expand 31 = .ok (.invokevirtual 66, 3) := by decide +kernel
theorem dX4_expand_34 : decode cX4_expand 34 = .ok (.ifCond .eq 18, 3) := by decide +kernel
theorem dX4_expand_37 : decode cX4_expand 37 = .ok (.aload_n 0, 1) := by decide +kernel
theorem dX4_expand_38 : decode cX4_expand 38 = .ok (.aload_n 0, 1) := by decide +kernel
theorem dX4_expand_39 : decode cX4_expand 39 = .ok (.getfield 34, 3) := by decide +kernel
theorem dX4_expand_42 : decode cX4_expand 42 = .ok (.iload_n 2, 1) := by decide +kernel
theorem dX4_expand_43 : decode cX4_expand 43 = .ok (.invokevirtual 70, 3) := by decide +kernel
theorem dX4_expand_46 : decode cX4_expand 46 = .ok (.invokevirtual 48, 3) := by decide +kernel
theorem dX4_expand_49 : decode cX4_expand 49 = .ok (.goto 5, 3) := by decide +kernel
theorem dX4_expand_52 : decode cX4_expand 52 = .ok (.bipush (-6), 2) := by decide +kernel
theorem dX4_expand_54 : decode cX4_expand 54 = .ok (.iastore, 1) := by decide +kernel
theorem dX4_expand_55 : decode cX4_expand 55 = .ok (.iinc 2 1, 3) := by decide +kernel
theorem dX4_expand_58 : decode cX4_expand 58 = .ok (.goto (-43), 3) := by decide +kernel
theorem dX4_expand_61 : decode cX4_expand 61 = .ok (.return_, 1) := by decide +kernel
theorem dX4_canCome_0 : decode cX4_canCome 0 = .ok (.aload_n 0, 1) := by decide +kernel
theorem dX4_canCome_1 : decode cX4_canCome 1 = .ok (.getfield 38, 3) := by decide +kernel
theorem dX4_canCome_4 : decode cX4_canCome 4 = .ok (.iload_n 1, 1) := by decide +kernel
theorem dX4_canCome_5 : decode cX4_canCome 5 = .ok (.ishr, 1) := by decide +kernel
theorem dX4_canCome_6 : decode cX4_canCome 6 = .ok (.iconst 1, 1) := by decide +kernel
theorem dX4_canCome_7 : decode cX4_canCome 7 = .ok (.iand, 1) := by decide +kernel
theorem dX4_canCome_8 : decode cX4_canCome 8 = .ok (.ifCond .eq 37, 3) := by decide +kernel
theorem dX4_canCome_11 : decode cX4_canCome 11 = .ok (.aload_n 0, 1) := by decide +kernel
theorem dX4_canCome_12 : decode cX4_canCome 12 = .ok (.getfield 34, 3) := by decide +kernel
theorem dX4_canCome_15 : decode cX4_canCome 15 = .ok (.iload_n 1, 1) := by decide +kernel
theorem dX4_canCome_16 : decode cX4_canCome 16 = .ok (.invokevirtual 73, 3) := by decide +kernel
theorem dX4_canCome_19 : decode cX4_canCome 19 = .ok (.aload_n 0, 1) := by decide +kernel
