theorem dX10_lastOf_22 : decode cX10_lastOf 22 = .ok (.iload_n 1, 1) := by decide +kernel
theorem dX10_lastOf_23 : decode cX10_lastOf 23 = .ok (.ireturn, 1) := by decide +kernel
theorem dX10_more_0 : decode cX10_more 0 = .ok (.iconst 1, 1) := by decide +kernel
theorem dX10_more_1 : decode cX10_more 1 = .ok (.istore_n 2, 1) := by decide +kernel
theorem dX10_more_2 : decode cX10_more 2 = .ok (.iload_n 0, 1) := by decide +kernel
theorem dX10_more_3 : decode cX10_more 3 = .ok (.iload_n 2, 1) := by decide +kernel
theorem dX10_more_4 : decode cX10_more 4 = .ok (.idiv, 1) := by decide +kernel
theorem dX10_more_5 : decode cX10_more 5 = .ok (.ifCond .le 10, 3) := by decide +kernel
theorem dX10_more_8 : decode cX10_more 8 = .ok (.iload_n 2, 1) := by decide +kernel
theorem dX10_more_9 : decode cX10_more 9 = .ok (.iconst 5, 1) := by decide +kernel
theorem dX10_more_10 : decode cX10_more 10 = .ok (.imul, 1) := by decide +kernel
theorem dX10_more_11 : decode cX10_more 11 = .ok (.istore_n 2, 1) := by decide +kernel
theorem dX10_more_12 : decode cX10_more 12 = .ok (.goto (-10), 3) := by decide +kernel
theorem dX10_more_15 : decode cX10_more 15 = .ok (.iload_n 0, 1) := by decide +kernel
theorem dX10_more_16 : decode cX10_more 16 = .ok (.iload_n 1, 1) := by decide +kernel
theorem dX10_more_17 : decode cX10_more 17 = .ok (.iconst 1, 1) := by decide +kernel
theorem dX10_more_18 : decode cX10_more 18 = .ok (.iadd, 1) := by decide +kernel
theorem dX10_more_19 : decode cX10_more 19 = .ok (.iload_n 2, 1) := by decide +kernel
theorem dX10_more_20 : decode cX10_more 20 = .ok (.imul, 1) := by decide +kernel
theorem dX10_more_21 : decode cX10_more 21 = .ok (.iadd, 1) := by decide +kernel
theorem dX10_more_22 : decode cX10_more 22 = .ok (.ireturn, 1) := by decide +kernel
theorem dX10_without_0 : decode cX10_without 0 = .ok (.iconst 0, 1) := by decide +kernel
theorem dX10_without_1 : decode cX10_without 1 = .ok (.istore_n 2, 1) := by decide +kernel
theorem dX10_without_2 : decode cX10_without 2 = .ok (.iconst 1, 1) := by decide +kernel
theorem dX10_without_3 : decode cX10_without 3 = .ok (.istore_n 3, 1) := by decide +kernel
theorem dX10_without_4 : decode cX10_without 4 = .ok (.iload_n 0, 1) := by decide +kernel
theorem dX10_without_5 : decode cX10_without 5 = .ok (.istore 4, 2) := by decide +kernel
theorem dX10_without_7 : decode cX10_without 7 = .ok (.iload 4, 2) := by decide +kernel
theorem dX10_without_9 : decode cX10_without 9 = .ok (.ifCond .le 35, 3) := by decide +kernel
theorem dX10_without_12 : decode cX10_without 12 = .ok (.iload 4, 2) := by decide +kernel
theorem dX10_without_14 : decode cX10_without 14 = .ok (.iconst 5, 1) := by decide +kernel
theorem dX10_without_15 : decode cX10_without 15 = .ok (.irem, 1) := by decide +kernel
theorem dX10_without_16 : decode cX10_without 16 = .ok (.iload_n 1, 1) := by decide +kernel
theorem dX10_without_17 : decode cX10_without 17 = .ok (.iconst 1, 1) := by decide +kernel
theorem dX10_without_18 : decode cX10_without 18 = .ok (.iadd, 1) := by decide +kernel
theorem dX10_without_19 : decode cX10_without 19 = .ok (.if_icmp .eq 16, 3) := by decide +kernel
theorem dX10_without_22 : decode cX10_without 22 = .ok (.iload_n 2, 1) := by decide +kernel
theorem dX10_without_23 : decode cX10_without 23 = .ok (.iload 4, 2) := by decide +kernel
theorem dX10_without_25 : decode cX10_without 25 = .ok (.iconst 5, 1) := by decide +kernel
theorem dX10_without_26 : decode cX10_without 26 = .ok (.irem, 1) := by decide +kernel
theorem dX10_without_27 : decode cX10_without 27 = .ok (.iload_n 3, 1) := by decide +kernel
theorem dX10_without_28 : decode cX10_without 28 = .ok (.imul, 1) := by decide +kernel
theorem dX10_without_29 : decode cX10_without 29 = .ok (.iadd, 1) := by decide +kernel
theorem dX10_without_30 : decode cX10_without 30 = .ok (.istore_n 2, 1) := by decide +kernel
theorem dX10_without_31 : decode cX10_without 31 = .ok (.iload_n 3, 1) := by decide +kernel
theorem dX10_without_32 : decode cX10_without 32 = .ok (.iconst 5, 1) := by decide +kernel
theorem dX10_without_33 : decode cX10_without 33 = .ok (.imul, 1) := by decide +kernel
theorem dX10_without_34 : decode cX10_without 34 = .ok (.istore_n 3, 1) := by decide +kernel
theorem dX10_without_35 : decode cX10_without 35 = .ok (.iload 4, 2) := by decide +kernel
theorem dX10_without_37 : decode cX10_without 37 = .ok (.iconst 5, 1) := by decide +kernel
theorem dX10_without_38 : decode cX10_without 38 = .ok (.idiv, 1) := by decide +kernel
theorem dX10_without_39 : decode cX10_without 39 = .ok (.istore 4, 2) := by decide +kernel
theorem dX10_without_41 : decode cX10_without 41 = .ok (.goto (-34), 3) := by decide +kernel
theorem dX10_without_44 : decode cX10_without 44 = .ok (.iload_n 2, 1) := by decide +kernel
theorem dX10_without_45 : decode cX10_without 45 = .ok (.ireturn, 1) := by decide +kernel
theorem dX10_say_0 : decode cX10_say 0 = .ok (.iload_n 1, 1) := by decide +kernel
theorem dX10_say_1 : decode cX10_say 1 = .ok (.i2l, 1) := by decide +kernel
theorem dX10_say_2 : decode cX10_say 2 = .ok (.ldc2_w 81, 3) := by decide +kernel
theorem dX10_say_5 : decode cX10_say 5 = .ok (.ldc2_w 83, 3) := by decide +kernel
theorem dX10_say_8 : decode cX10_say 8 = .ok (.invokestatic 77, 3) := by decide +kernel
theorem dX10_say_11 : decode cX10_say 11 = .ok (.ifCond .ne 6, 3) := by decide +kernel
theorem dX10_say_14 : decode cX10_say 14 = .ok (.bipush (-2), 2) := by decide +kernel
theorem dX10_say_16 : decode cX10_say 16 = .ok (.ireturn, 1) := by decide +kernel
theorem dX10_say_17 : decode cX10_say 17 = .ok (.aload_n 0, 1) := by decide +kernel
theorem dX10_say_18 : decode cX10_say 18 = .ok (.getfield 85, 3) := by decide +kernel
theorem dX10_say_21 : decode cX10_say 21 = .ok (.bipush 30, 2) := by decide +kernel
theorem dX10_say_23 : decode cX10_say 23 = .ok (.if_icmp .ne 6, 3) := by decide +kernel
theorem dX10_say_26 : decode cX10_say 26 = .ok (.bipush (-4), 2) := by decide +kernel
theorem dX10_say_28 : decode cX10_say 28 = .ok (.ireturn, 1) := by decide +kernel
theorem dX10_say_29 : decode cX10_say 29 = .ok (.aload_n 0, 1) := by decide +kernel
theorem dX10_say_30 : decode cX10_say 30 = .ok (.getfield 40, 3) := by decide +kernel
theorem dX10_say_33 : decode cX10_say 33 = .ok (.aload_n 0, 1) := by decide +kernel
theorem dX10_say_34 : decode cX10_say 34 = .ok (.getfield 85, 3) := by decide +kernel
theorem dX10_say_37 : decode cX10_say 37 = .ok (.iload_n 1, 1) := by decide +kernel
theorem dX10_say_38 : decode cX10_say 38 = .ok (.iastore, 1) := by decide +kernel
theorem dX10_say_39 : decode cX10_say 39 = .ok (.aload_n 0, 1) := by decide +kernel
theorem dX10_say_40 : decode cX10_say 40 = .ok (.dup, 1) := by decide +kernel
theorem dX10_say_41 : decode cX10_say 41 = .ok (.getfield 85, 3) := by decide +kernel
theorem dX10_say_44 : decode cX10_say 44 = .ok (.iconst 1, 1) := by decide +kernel
theorem dX10_say_45 : decode cX10_say 45 = .ok (.iadd, 1) := by decide +kernel
theorem dX10_say_46 : decode cX10_say 46 = .ok (.putfield 85, 3) := by decide +kernel
theorem dX10_say_49 : decode cX10_say 49 = .ok (.aload_n 0, 1) := by decide +kernel
theorem dX10_say_50 : decode cX10_say 50 = .ok (.getfield 85, 3) := by decide +kernel
theorem dX10_say_53 : decode cX10_say 53 = .ok (.ireturn, 1) := by decide +kernel
theorem dX10_wipe_0 : decode cX10_wipe 0 = .ok (.aload_n 0, 1) := by decide +kernel
theorem dX10_wipe_1 : decode cX10_wipe 1 = .ok (.getfield 85, 3) := by decide +kernel
theorem dX10_wipe_4 : decode cX10_wipe 4 = .ok (.istore_n 1, 1) := by decide +kernel
theorem dX10_wipe_5 : decode cX10_wipe 5 = .ok (.aload_n 0, 1) := by decide +kernel
theorem dX10_wipe_6 : decode cX10_wipe 6 = .ok (.iconst 0, 1) := by decide +kernel
theorem dX10_wipe_7 : decode cX10_wipe 7 = .ok (.putfield 85, 3) := by decide +kernel
theorem dX10_wipe_10 : decode cX10_wipe 10 = .ok (.iload_n 1, 1) := by decide +kernel
theorem dX10_wipe_11 : decode cX10_wipe 11 = .ok (.ireturn, 1) := by decide +kernel
theorem dX10_faultOfStory_0 : decode cX10_faultOfStory 0 = .ok (.iconst 0, 1) := by decide +kernel
theorem dX10_faultOfStory_1 : decode cX10_faultOfStory 1 = .ok (.istore_n 1, 1) := by decide +kernel
theorem dX10_faultOfStory_2 : decode cX10_faultOfStory 2 = .ok (.iconst 1, 1) := by decide +kernel
theorem dX10_faultOfStory_3 : decode cX10_faultOfStory 3 = .ok (.istore_n 2, 1) := by decide +kernel
theorem dX10_faultOfStory_4 : decode cX10_faultOfStory 4 = .ok (.iconst 0, 1) := by decide +kernel
theorem dX10_faultOfStory_5 : decode cX10_faultOfStory 5 = .ok (.istore_n 3, 1) := by decide +kernel
theorem dX10_faultOfStory_6 : decode cX10_faultOfStory 6 = .ok (.iload_n 3, 1) := by decide +kernel
theorem dX10_faultOfStory_7 : decode cX10_faultOfStory 7 = .ok (.aload_n 0, 1) := by decide +kernel
theorem dX10_faultOfStory_8 : decode cX10_faultOfStory 8 = .ok (.getfield 85, 3) := by decide +kernel
theorem dX10_faultOfStory_11 : decode cX10_faultOfStory 11 = .ok (.if_icmp .ge 104, 3) := by decide +kernel
theorem dX10_faultOfStory_14 : decode cX10_faultOfStory 14 = .ok (.aload_n 0, 1) := by decide +kernel
theorem dX10_faultOfStory_15 : decode cX10_faultOfStory 15 = .ok (.getfield 40, 3) := by decide +kernel
theorem dX10_faultOfStory_18 : decode cX10_faultOfStory 18 = .ok (.iload_n 3, 1) := by decide +kernel
theorem dX10_faultOfStory_19 : decode cX10_faultOfStory 19 = .ok (.iaload, 1) := by decide +kernel
theorem dX10_faultOfStory_20 : decode cX10_faultOfStory 20 = .ok (.i2l, 1) := by decide +kernel
theorem dX10_faultOfStory_21 : decode cX10_faultOfStory 21 = .ok (.ldc2_w 89, 3) := by decide +kernel
theorem dX10_faultOfStory_24 : decode cX10_faultOfStory 24 = .ok (.ldc2_w 91, 3) := by decide +kernel
theorem dX10_faultOfStory_27 : decode cX10_faultOfStory 27 = .ok (.invokestatic 77, 3) := by decide +kernel
theorem dX10_faultOfStory_30 : decode cX10_faultOfStory 30 = .ok (.ifCond .eq 16, 3) := by decide +kernel
theorem dX10_faultOfStory_33 : decode cX10_faultOfStory 33 = .ok (.iload_n 1, 1) := by decide +kernel
theorem dX10_faultOfStory_34 : decode cX10_faultOfStory 34 = .ok (.iconst 4, 1) := by decide +kernel
theorem dX10_faultOfStory_35 : decode cX10_faultOfStory 35 = .ok (.if_icmp .ge 7, 3) := by decide +kernel
theorem dX10_faultOfStory_38 : decode cX10_faultOfStory 38 = .ok (.iconst 1, 1) := by decide +kernel
theorem dX10_faultOfStory_39 : decode cX10_faultOfStory 39 = .ok (.goto 32, 3) := by decide +kernel
theorem dX10_faultOfStory_42 : decode cX10_faultOfStory 42 = .ok (.iconst 0, 1) := by decide +kernel
theorem dX10_faultOfStory_43 : decode cX10_faultOfStory 43 = .ok (.goto 28, 3) := by decide +kernel
theorem dX10_faultOfStory_46 : decode cX10_faultOfStory 46 = .ok (.aload_n 0, 1) := by decide +kernel
theorem dX10_faultOfStory_47 : decode cX10_faultOfStory 47 = .ok (.getfield 40, 3) := by decide +kernel
theorem dX10_faultOfStory_50 : decode cX10_faultOfStory 50 = .ok (.iload_n 3, 1) := by decide +kernel
theorem dX10_faultOfStory_51 : decode cX10_faultOfStory 51 = .ok (.iaload, 1) := by decide +kernel
theorem dX10_faultOfStory_52 : decode cX10_faultOfStory 52 = .ok (.bipush 58, 2) := by decide +kernel
theorem dX10_faultOfStory_54 : decode cX10_faultOfStory 54 = .ok (.if_icmp .ne 16, 3) := by decide +kernel
theorem dX10_faultOfStory_57 : decode cX10_faultOfStory 57 = .ok (.iload_n 2, 1) := by decide +kernel
theorem dX10_faultOfStory_58 : decode cX10_faultOfStory 58 = .ok (.ifCond .ne 12, 3) := by decide +kernel
theorem dX10_faultOfStory_61 : decode cX10_faultOfStory 61 = .ok (.iload_n 1, 1) := by decide +kernel
theorem dX10_faultOfStory_62 : decode cX10_faultOfStory 62 = .ok (.iconst 4, 1) := by decide +kernel
theorem dX10_faultOfStory_63 : decode cX10_faultOfStory 63 = .ok (.if_icmp .ge 7, 3) := by decide +kernel
theorem dX10_faultOfStory_66 : decode cX10_faultOfStory 66 = .ok (.iconst 1, 1) := by decide +kernel
theorem dX10_faultOfStory_67 : decode cX10_faultOfStory 67 = .ok (.goto 4, 3) := by decide +kernel
theorem dX10_faultOfStory_70 : decode cX10_faultOfStory 70 = .ok (.iconst 0, 1) := by decide +kernel
theorem dX10_faultOfStory_71 : decode cX10_faultOfStory 71 = .ok (.istore 4, 2) := by decide +kernel
theorem dX10_faultOfStory_73 : decode cX10_faultOfStory 73 = .ok (.iload 4, 2) := by decide +kernel
theorem dX10_faultOfStory_75 : decode cX10_faultOfStory 75 = .ok (.ifCond .ne 5, 3) := by decide +kernel
theorem dX10_faultOfStory_78 : decode cX10_faultOfStory 78 = .ok (.iload_n 3, 1) := by decide +kernel
theorem dX10_faultOfStory_79 : decode cX10_faultOfStory 79 = .ok (.ireturn, 1) := by decide +kernel
theorem dX10_faultOfStory_80 : decode cX10_faultOfStory 80 = .ok (.aload_n 0, 1) := by decide +kernel
theorem dX10_faultOfStory_81 : decode cX10_faultOfStory 81 = .ok (.getfield 40, 3) := by decide +kernel
theorem dX10_faultOfStory_84 : decode cX10_faultOfStory 84 = .ok (.iload_n 3, 1) := by decide +kernel
theorem dX10_faultOfStory_85 : decode cX10_faultOfStory 85 = .ok (.iaload, 1) := by decide +kernel
theorem dX10_faultOfStory_86 : decode cX10_faultOfStory 86 = .ok (.bipush 58, 2) := by decide +kernel
theorem dX10_faultOfStory_88 : decode cX10_faultOfStory 88 = .ok (.if_icmp .ne 7, 3) := by decide +kernel
theorem dX10_faultOfStory_91 : decode cX10_faultOfStory 91 = .ok (.iconst 1, 1) := by decide +kernel
theorem dX10_faultOfStory_92 : decode cX10_faultOfStory 92 = .ok (.goto 4, 3) := by decide +kernel
theorem dX10_faultOfStory_95 : decode cX10_faultOfStory 95 = .ok (.iconst 0, 1) := by decide +kernel
theorem dX10_faultOfStory_96 : decode cX10_faultOfStory 96 = .ok (.istore_n 2, 1) := by decide +kernel
theorem dX10_faultOfStory_97 : decode cX10_faultOfStory 97 = .ok (.iload_n 1, 1) := by decide +kernel
theorem dX10_faultOfStory_98 : decode cX10_faultOfStory 98 = .ok (.iload_n 2, 1) := by decide +kernel
theorem dX10_faultOfStory_99 : decode cX10_faultOfStory 99 = .ok (.ifCond .eq 7, 3) := by decide +kernel
theorem dX10_faultOfStory_102 : decode cX10_faultOfStory 102 = .ok (.iconst 0, 1) := by decide +kernel
theorem dX10_faultOfStory_103 : decode cX10_faultOfStory 103 = .ok (.goto 4, 3) := by decide +kernel
theorem dX10_faultOfStory_106 : decode cX10_faultOfStory 106 = .ok (.iconst 1, 1) := by decide +kernel
theorem dX10_faultOfStory_107 : decode cX10_faultOfStory 107 = .ok (.iadd, 1) := by decide +kernel
theorem dX10_faultOfStory_108 : decode cX10_faultOfStory 108 = .ok (.istore_n 1, 1) := by decide +kernel
theorem dX10_faultOfStory_109 : decode cX10_faultOfStory 109 = .ok (.iinc 3 1, 3) := by decide +kernel
theorem dX10_faultOfStory_112 : decode cX10_faultOfStory 112 = .ok (.goto (-106), 3) := by decide +kernel
theorem dX10_faultOfStory_115 : decode cX10_faultOfStory 115 = .ok (.iload_n 2, 1) := by decide +kernel
theorem dX10_faultOfStory_116 : decode cX10_faultOfStory 116 = .ok (.ifCond .eq 10, 3) := by decide +kernel
theorem dX10_faultOfStory_119 : decode cX10_faultOfStory 119 = .ok (.aload_n 0, 1) := by decide +kernel
theorem dX10_faultOfStory_120 : decode cX10_faultOfStory 120 = .ok (.getfield 85, 3) := by decide +kernel
theorem dX10_faultOfStory_123 : decode cX10_faultOfStory 123 = .ok (.goto 5, 3) := by decide +kernel
theorem dX10_faultOfStory_126 : decode cX10_faultOfStory 126 = .ok (.bipush (-6), 2) := by decide +kernel
theorem dX10_faultOfStory_128 : decode cX10_faultOfStory 128 = .ok (.ireturn, 1) := by decide +kernel
theorem dX10_faultOfRow_0 : decode cX10_faultOfRow 0 = .ok (.iconst 0, 1) := by decide +kernel
theorem dX10_faultOfRow_1 : decode cX10_faultOfRow 1 = .ok (.istore_n 3, 1) := by decide +kernel
theorem dX10_faultOfRow_2 : decode cX10_faultOfRow 2 = .ok (.iload_n 3, 1) := by decide +kernel
theorem dX10_faultOfRow_3 : decode cX10_faultOfRow 3 = .ok (.aload_n 0, 1) := by decide +kernel
theorem dX10_faultOfRow_4 : decode cX10_faultOfRow 4 = .ok (.getfield 85, 3) := by decide +kernel
theorem dX10_faultOfRow_7 : decode cX10_faultOfRow 7 = .ok (.if_icmp .ge 34, 3) := by decide +kernel
theorem dX10_faultOfRow_10 : decode cX10_faultOfRow 10 = .ok (.iload_n 3, 1) := by decide +kernel
theorem dX10_faultOfRow_11 : decode cX10_faultOfRow 11 = .ok (.bipush 16, 2) := by decide +kernel
theorem dX10_faultOfRow_13 : decode cX10_faultOfRow 13 = .ok (.if_icmp .eq 20, 3) := by decide +kernel
theorem dX10_faultOfRow_16 : decode cX10_faultOfRow 16 = .ok (.aload_n 0, 1) := by decide +kernel
theorem dX10_faultOfRow_17 : decode cX10_faultOfRow 17 = .ok (.getfield 40, 3) := by decide +kernel
theorem dX10_faultOfRow_20 : decode cX10_faultOfRow 20 = .ok (.iload_n 3, 1) := by decide +kernel
theorem dX10_faultOfRow_21 : decode cX10_faultOfRow 21 = .ok (.iaload, 1) := by decide +kernel
theorem dX10_faultOfRow_22 : decode cX10_faultOfRow 22 = .ok (.i2l, 1) := by decide +kernel
theorem dX10_faultOfRow_23 : decode cX10_faultOfRow 23 = .ok (.iload_n 1, 1) := by decide +kernel
theorem dX10_faultOfRow_24 : decode cX10_faultOfRow 24 = .ok (.i2l, 1) := by decide +kernel
theorem dX10_faultOfRow_25 : decode cX10_faultOfRow 25 = .ok (.iload_n 2, 1) := by decide +kernel
theorem dX10_faultOfRow_26 : decode cX10_faultOfRow 26 = .ok (.i2l, 1) := by decide +kernel
theorem dX10_faultOfRow_27 : decode cX10_faultOfRow 27 = .ok (.invokestatic 77, 3) := by decide +kernel
theorem dX10_faultOfRow_30 : decode cX10_faultOfRow 30 = .ok (.ifCond .ne 5, 3) := by decide +kernel
theorem dX10_faultOfRow_33 : decode cX10_faultOfRow 33 = .ok (.iload_n 3, 1) := by decide +kernel
theorem dX10_faultOfRow_34 : decode cX10_faultOfRow 34 = .ok (.ireturn, 1) := by decide +kernel
theorem dX10_faultOfRow_35 : decode cX10_faultOfRow 35 = .ok (.iinc 3 1, 3) := by decide +kernel
theorem dX10_faultOfRow_38 : decode cX10_faultOfRow 38 = .ok (.goto (-36), 3) := by decide +kernel
theorem dX10_faultOfRow_41 : decode cX10_faultOfRow 41 = .ok (.bipush (-6), 2) := by decide +kernel
theorem dX10_faultOfRow_43 : decode cX10_faultOfRow 43 = .ok (.ireturn, 1) := by decide +kernel
theorem dX10_fault_0 : decode cX10_fault 0 = .ok (.iload_n 1, 1) := by decide +kernel
theorem dX10_fault_1 : decode cX10_fault 1 = .ok (.ifCond .ne 10, 3) := by decide +kernel
theorem dX10_fault_4 : decode cX10_fault 4 = .ok (.aload_n 0, 1) := by decide +kernel
theorem dX10_fault_5 : decode cX10_fault 5 = .ok (.invokevirtual 93, 3) := by decide +kernel
theorem dX10_fault_8 : decode cX10_fault 8 = .ok (.goto 37, 3) := by decide +kernel
theorem dX10_fault_11 : decode cX10_fault 11 = .ok (.iload_n 1, 1) := by decide +kernel
theorem dX10_fault_12 : decode cX10_fault 12 = .ok (.iconst 1, 1) := by decide +kernel
theorem dX10_fault_13 : decode cX10_fault 13 = .ok (.if_icmp .ne 14, 3) := by decide +kernel
theorem dX10_fault_16 : decode cX10_fault 16 = .ok (.aload_n 0, 1) := by decide +kernel
theorem dX10_fault_17 : decode cX10_fault 17 = .ok (.bipush 97, 2) := by decide +kernel
theorem dX10_fault_19 : decode cX10_fault 19 = .ok (.bipush 100, 2) := by decide +kernel
theorem dX10_fault_21 : decode cX10_fault 21 = .ok (.invokevirtual 97, 3) := by decide +kernel
theorem dX10_fault_24 : decode cX10_fault 24 = .ok (.goto 21, 3) := by decide +kernel
theorem dX10_fault_27 : decode cX10_fault 27 = .ok (.iload_n 1, 1) := by decide +kernel
theorem dX10_fault_28 : decode cX10_fault 28 = .ok (.iconst 2, 1) := by decide +kernel
theorem dX10_fault_29 : decode cX10_fault 29 = .ok (.if_icmp .ne 14, 3) := by decide +kernel
theorem dX10_fault_32 : decode cX10_fault 32 = .ok (.aload_n 0, 1) := by decide +kernel
theorem dX10_fault_33 : decode cX10_fault 33 = .ok (.bipush 49, 2) := by decide +kernel
theorem dX10_fault_35 : decode cX10_fault 35 = .ok (.bipush 57, 2) := by decide +kernel
theorem dX10_fault_37 : decode cX10_fault 37 = .ok (.invokevirtual 97, 3) := by decide +kernel
theorem dX10_fault_40 : decode cX10_fault 40 = .ok (.goto 5, 3) := by decide +kernel
theorem dX10_fault_43 : decode cX10_fault 43 = .ok (.bipush (-2), 2) := by decide +kernel
theorem dX10_fault_45 : decode cX10_fault 45 = .ok (.ireturn, 1) := by decide +kernel
theorem dX10_story_0 : decode cX10_story 0 = .ok (.iload_n 1, 1) := by decide +kernel
theorem dX10_story_1 : decode cX10_story 1 = .ok (.invokestatic 101, 3) := by decide +kernel
theorem dX10_story_4 : decode cX10_story 4 = .ok (.ifCond .ne 5, 3) := by decide +kernel
theorem dX10_story_7 : decode cX10_story 7 = .ok (.iconst (-1), 1) := by decide +kernel
theorem dX10_story_8 : decode cX10_story 8 = .ok (.ireturn, 1) := by decide +kernel
theorem dX10_story_9 : decode cX10_story 9 = .ok (.aload_n 0, 1) := by decide +kernel
theorem dX10_story_10 : decode cX10_story 10 = .ok (.invokevirtual 93, 3) := by decide +kernel
theorem dX10_story_13 : decode cX10_story 13 = .ok (.ifCond .lt 6, 3) := by decide +kernel
theorem dX10_story_16 : decode cX10_story 16 = .ok (.bipush (-5), 2) := by decide +kernel
theorem dX10_story_18 : decode cX10_story 18 = .ok (.ireturn, 1) := by decide +kernel
theorem dX10_story_19 : decode cX10_story 19 = .ok (.aload_n 0, 1) := by decide +kernel
theorem dX10_story_20 : decode cX10_story 20 = .ok (.getfield 16, 3) := by decide +kernel
theorem dX10_story_23 : decode cX10_story 23 = .ok (.iload_n 1, 1) := by decide +kernel
theorem dX10_story_24 : decode cX10_story 24 = .ok (.iconst 0, 1) := by decide +kernel
theorem dX10_story_25 : decode cX10_story 25 = .ok (.iastore, 1) := by decide +kernel
theorem dX10_story_26 : decode cX10_story 26 = .ok (.aload_n 0, 1) := by decide +kernel
theorem dX10_story_27 : decode cX10_story 27 = .ok (.getfield 22, 3) := by decide +kernel
theorem dX10_story_30 : decode cX10_story 30 = .ok (.iload_n 1, 1) := by decide +kernel
theorem dX10_story_31 : decode cX10_story 31 = .ok (.iconst 0, 1) := by decide +kernel
theorem dX10_story_32 : decode cX10_story 32 = .ok (.iastore, 1) := by decide +kernel
theorem dX10_story_33 : decode cX10_story 33 = .ok (.iconst 0, 1) := by decide +kernel
theorem dX10_story_34 : decode cX10_story 34 = .ok (.istore_n 2, 1) := by decide +kernel
theorem dX10_story_35 : decode cX10_story 35 = .ok (.iload_n 2, 1) := by decide +kernel
theorem dX10_story_36 : decode cX10_story 36 = .ok (.aload_n 0, 1) := by decide +kernel
theorem dX10_story_37 : decode cX10_story 37 = .ok (.getfield 85, 3) := by decide +kernel
theorem dX10_story_40 : decode cX10_story 40 = .ok (.if_icmp .ge 76, 3) := by decide +kernel
theorem dX10_story_43 : decode cX10_story 43 = .ok (.aload_n 0, 1) := by decide +kernel
theorem dX10_story_44 : decode cX10_story 44 = .ok (.getfield 40, 3) := by decide +kernel
theorem dX10_story_47 : decode cX10_story 47 = .ok (.iload_n 2, 1) := by decide +kernel
theorem dX10_story_48 : decode cX10_story 48 = .ok (.iaload, 1) := by decide +kernel
theorem dX10_story_49 : decode cX10_story 49 = .ok (.bipush 58, 2) := by decide +kernel
theorem dX10_story_51 : decode cX10_story 51 = .ok (.if_icmp .ne 25, 3) := by decide +kernel
theorem dX10_story_54 : decode cX10_story 54 = .ok (.aload_n 0, 1) := by decide +kernel
theorem dX10_story_55 : decode cX10_story 55 = .ok (.getfield 22, 3) := by decide +kernel
theorem dX10_story_58 : decode cX10_story 58 = .ok (.iload_n 1, 1) := by decide +kernel
theorem dX10_story_59 : decode cX10_story 59 = .ok (.dup2, 1) := by decide +kernel
theorem dX10_story_60 : decode cX10_story 60 = .ok (.iaload, 1) := by decide +kernel
theorem dX10_story_61 : decode cX10_story 61 = .ok (.iconst 1, 1) := by decide +kernel
theorem dX10_story_62 : decode cX10_story 62 = .ok (.aload_n 0, 1) := by decide +kernel
theorem dX10_story_63 : decode cX10_story 63 = .ok (.getfield 16, 3) := by decide +kernel
theorem dX10_story_66 : decode cX10_story 66 = .ok (.iload_n 1, 1) := by decide +kernel
theorem dX10_story_67 : decode cX10_story 67 = .ok (.iaload, 1) := by decide +kernel
theorem dX10_story_68 : decode cX10_story 68 = .ok (.iconst 1, 1) := by decide +kernel
theorem dX10_story_69 : decode cX10_story 69 = .ok (.isub, 1) := by decide +kernel
theorem dX10_story_70 : decode cX10_story 70 = .ok (.ishl, 1) := by decide +kernel
theorem dX10_story_71 : decode cX10_story 71 = .ok (.ior, 1) := by decide +kernel
theorem dX10_story_72 : decode cX10_story 72 = .ok (.iastore, 1) := by decide +kernel
theorem dX10_story_73 : decode cX10_story 73 = .ok (.goto 37, 3) := by decide +kernel
theorem dX10_story_76 : decode cX10_story 76 = .ok (.aload_n 0, 1) := by decide +kernel
theorem dX10_story_77 : decode cX10_story 77 = .ok (.getfield 19, 3) := by decide +kernel
theorem dX10_story_80 : decode cX10_story 80 = .ok (.iconst 4, 1) := by decide +kernel
theorem dX10_story_81 : decode cX10_story 81 = .ok (.iload_n 1, 1) := by decide +kernel
theorem dX10_story_82 : decode cX10_story 82 = .ok (.imul, 1) := by decide +kernel
theorem dX10_story_83 : decode cX10_story 83 = .ok (.aload_n 0, 1) := by decide +kernel
theorem dX10_story_84 : decode cX10_story 84 = .ok (.getfield 16, 3) := by decide +kernel
theorem dX10_story_87 : decode cX10_story 87 = .ok (.iload_n 1, 1) := by decide +kernel
theorem dX10_story_88 : decode cX10_story 88 = .ok (.iaload, 1) := by decide +kernel
theorem dX10_story_89 : decode cX10_story 89 = .ok (.iadd, 1) := by decide +kernel
theorem dX10_story_90 : decode cX10_story 90 = .ok (.aload_n 0, 1) := by decide +kernel
theorem dX10_story_91 : decode cX10_story 91 = .ok (.getfield 40, 3) := by decide +kernel
theorem dX10_story_94 : decode cX10_story 94 = .ok (.iload_n 2, 1) := by decide +kernel
theorem dX10_story_95 : decode cX10_story 95 = .ok (.iaload, 1) := by decide +kernel
theorem dX10_story_96 : decode cX10_story 96 = .ok (.bipush 48, 2) := by decide +kernel
theorem dX10_story_98 : decode cX10_story 98 = .ok (.isub, 1) := by decide +kernel
theorem dX10_story_99 : decode cX10_story 99 = .ok (.iastore, 1) := by decide +kernel
theorem dX10_story_100 : decode cX10_story 100 = .ok (.aload_n 0, 1) := by decide +kernel
theorem dX10_story_101 : decode cX10_story 101 = .ok (.getfield 16, 3) := by decide +kernel
theorem dX10_story_104 : decode cX10_story 104 = .ok (.iload_n 1, 1) := by decide +kernel
theorem dX10_story_105 : decode cX10_story 105 = .ok (.dup2, 1) := by decide +kernel
theorem dX10_story_106 : decode cX10_story 106 = .ok (.iaload, 1) := by decide +kernel
theorem dX10_story_107 : decode cX10_story 107 = .ok (.iconst 1, 1) := by decide +kernel
theorem dX10_story_108 : decode cX10_story 108 = .ok (.iadd, 1) := by decide +kernel
theorem dX10_story_109 : decode cX10_story 109 = .ok (.iastore, 1) := by decide +kernel
theorem dX10_story_110 : decode cX10_story 110 = .ok (.iinc 2 1, 3) := by decide +kernel
theorem dX10_story_113 : decode cX10_story 113 = .ok (.goto (-78), 3) := by decide +kernel
theorem dX10_story_116 : decode cX10_story 116 = .ok (.aload_n 0, 1) := by decide +kernel
theorem dX10_story_117 : decode cX10_story 117 = .ok (.iconst 0, 1) := by decide +kernel
theorem dX10_story_118 : decode cX10_story 118 = .ok (.putfield 85, 3) := by decide +kernel
theorem dX10_story_121 : decode cX10_story 121 = .ok (.aload_n 0, 1) := by decide +kernel
theorem dX10_story_122 : decode cX10_story 122 = .ok (.getfield 104, 3) := by decide +kernel
theorem dX10_story_125 : decode cX10_story 125 = .ok (.iconst 1, 1) := by decide +kernel
theorem dX10_story_126 : decode cX10_story 126 = .ok (.isub, 1) := by decide +kernel
theorem dX10_story_127 : decode cX10_story 127 = .ok (.istore_n 2, 1) := by decide +kernel
theorem dX10_story_128 : decode cX10_story 128 = .ok (.iload_n 2, 1) := by decide +kernel
theorem dX10_story_129 : decode cX10_story 129 = .ok (.ifCond .lt 40, 3) := by decide +kernel
theorem dX10_story_132 : decode cX10_story 132 = .ok (.aload_n 0, 1) := by decide +kernel
theorem dX10_story_133 : decode cX10_story 133 = .ok (.getfield 31, 3) := by decide +kernel
theorem dX10_story_136 : decode cX10_story 136 = .ok (.iload_n 2, 1) := by decide +kernel
theorem dX10_story_137 : decode cX10_story 137 = .ok (.iaload, 1) := by decide +kernel
theorem dX10_story_138 : decode cX10_story 138 = .ok (.iload_n 1, 1) := by decide +kernel
theorem dX10_story_139 : decode cX10_story 139 = .ok (.if_icmp .ne 24, 3) := by decide +kernel
theorem dX10_story_142 : decode cX10_story 142 = .ok (.aload_n 0, 1) := by decide +kernel
theorem dX10_story_143 : decode cX10_story 143 = .ok (.getfield 34, 3) := by decide +kernel
theorem dX10_story_146 : decode cX10_story 146 = .ok (.iload_n 2, 1) := by decide +kernel
theorem dX10_story_147 : decode cX10_story 147 = .ok (.iaload, 1) := by decide +kernel
theorem dX10_story_148 : decode cX10_story 148 = .ok (.aload_n 0, 1) := by decide +kernel
theorem dX10_story_149 : decode cX10_story 149 = .ok (.getfield 16, 3) := by decide +kernel
theorem dX10_story_152 : decode cX10_story 152 = .ok (.iload_n 1, 1) := by decide +kernel
theorem dX10_story_153 : decode cX10_story 153 = .ok (.iaload, 1) := by decide +kernel
theorem dX10_story_154 : decode cX10_story 154 = .ok (.if_icmp .lt 9, 3) := by decide +kernel
theorem dX10_story_157 : decode cX10_story 157 = .ok (.aload_n 0, 1) := by decide +kernel
theorem dX10_story_158 : decode cX10_story 158 = .ok (.iload_n 2, 1) := by decide +kernel
theorem dX10_story_159 : decode cX10_story 159 = .ok (.invokevirtual 107, 3) := by decide +kernel
theorem dX10_story_162 : decode cX10_story 162 = .ok (.pop, 1) := by decide +kernel
theorem dX10_story_163 : decode cX10_story 163 = .ok (.iinc 2 (-1), 3) := by decide +kernel
theorem dX10_story_166 : decode cX10_story 166 = .ok (.goto (-38), 3) := by decide +kernel
theorem dX10_story_169 : decode cX10_story 169 = .ok (.aload_n 0, 1) := by decide +kernel
theorem dX10_story_170 : decode cX10_story 170 = .ok (.getfield 16, 3) := by decide +kernel
theorem dX10_story_173 : decode cX10_story 173 = .ok (.iload_n 1, 1) := by decide +kernel
theorem dX10_story_174 : decode cX10_story 174 = .ok (.iaload, 1) := by decide +kernel
theorem dX10_story_175 : decode cX10_story 175 = .ok (.ireturn, 1) := by decide +kernel
theorem dX10_lengthOf_0 : decode cX10_lengthOf 0 = .ok (.iconst 0, 1) := by decide +kernel
theorem dX10_lengthOf_1 : decode cX10_lengthOf 1 = .ok (.istore_n 2, 1) := by decide +kernel
theorem dX10_lengthOf_2 : decode cX10_lengthOf 2 = .ok (.iconst 0, 1) := by decide +kernel
theorem dX10_lengthOf_3 : decode cX10_lengthOf 3 = .ok (.istore_n 3, 1) := by decide +kernel
theorem dX10_lengthOf_4 : decode cX10_lengthOf 4 = .ok (.iload_n 3, 1) := by decide +kernel
theorem dX10_lengthOf_5 : decode cX10_lengthOf 5 = .ok (.aload_n 0, 1) := by decide +kernel
theorem dX10_lengthOf_6 : decode cX10_lengthOf 6 = .ok (.getfield 16, 3) := by decide +kernel
theorem dX10_lengthOf_9 : decode cX10_lengthOf 9 = .ok (.iload_n 1, 1) := by decide +kernel
theorem dX10_lengthOf_10 : decode cX10_lengthOf 10 = .ok (.iaload, 1) := by decide +kernel
theorem dX10_lengthOf_11 : decode cX10_lengthOf 11 = .ok (.if_icmp .ge 22, 3) := by decide +kernel
theorem dX10_lengthOf_14 : decode cX10_lengthOf 14 = .ok (.iload_n 2, 1) := by decide +kernel
theorem dX10_lengthOf_15 : decode cX10_lengthOf 15 = .ok (.aload_n 0, 1) := by decide +kernel
theorem dX10_lengthOf_16 : decode cX10_lengthOf 16 = .ok (.getfield 19, 3) := by decide +kernel
theorem dX10_lengthOf_19 : decode cX10_lengthOf 19 = .ok (.iconst 4, 1) := by decide +kernel
theorem dX10_lengthOf_20 : decode cX10_lengthOf 20 = .ok (.iload_n 1, 1) := by decide +kernel
theorem dX10_lengthOf_21 : decode cX10_lengthOf 21 = .ok (.imul, 1) := by decide +kernel
theorem dX10_lengthOf_22 : decode cX10_lengthOf 22 = .ok (.iload_n 3, 1) := by decide +kernel
theorem dX10_lengthOf_23 : decode cX10_lengthOf 23 = .ok (.iadd, 1) := by decide +kernel
theorem dX10_lengthOf_24 : decode cX10_lengthOf 24 = .ok (.iaload, 1) := by decide +kernel
theorem dX10_lengthOf_25 : decode cX10_lengthOf 25 = .ok (.iadd, 1) := by decide +kernel
theorem dX10_lengthOf_26 : decode cX10_lengthOf 26 = .ok (.istore_n 2, 1) := by decide +kernel
theorem dX10_lengthOf_27 : decode cX10_lengthOf 27 = .ok (.iinc 3 1, 3) := by decide +kernel
theorem dX10_lengthOf_30 : decode cX10_lengthOf 30 = .ok (.goto (-26), 3) := by decide +kernel
theorem dX10_lengthOf_33 : decode cX10_lengthOf 33 = .ok (.iload_n 2, 1) := by decide +kernel
theorem dX10_lengthOf_34 : decode cX10_lengthOf 34 = .ok (.ireturn, 1) := by decide +kernel
theorem dX10_about_0 : decode cX10_about 0 = .ok (.iload_n 1, 1) := by decide +kernel
theorem dX10_about_1 : decode cX10_about 1 = .ok (.invokestatic 101, 3) := by decide +kernel
theorem dX10_about_4 : decode cX10_about 4 = .ok (.ifCond .ne 5, 3) := by decide +kernel
theorem dX10_about_7 : decode cX10_about 7 = .ok (.iconst (-1), 1) := by decide +kernel
theorem dX10_about_8 : decode cX10_about 8 = .ok (.ireturn, 1) := by decide +kernel
theorem dX10_about_9 : decode cX10_about 9 = .ok (.iload_n 2, 1) := by decide +kernel
theorem dX10_about_10 : decode cX10_about 10 = .ok (.i2l, 1) := by decide +kernel
theorem dX10_about_11 : decode cX10_about 11 = .ok (.ldc2_w 111, 3) := by decide +kernel
theorem dX10_about_14 : decode cX10_about 14 = .ok (.ldc2_w 113, 3) := by decide +kernel
theorem dX10_about_17 : decode cX10_about 17 = .ok (.invokestatic 77, 3) := by decide +kernel
theorem dX10_about_20 : decode cX10_about 20 = .ok (.ifCond .eq 35, 3) := by decide +kernel
theorem dX10_about_23 : decode cX10_about 23 = .ok (.iload_n 2, 1) := by decide +kernel
theorem dX10_about_24 : decode cX10_about 24 = .ok (.bipush 10, 2) := by decide +kernel
theorem dX10_about_26 : decode cX10_about 26 = .ok (.isub, 1) := by decide +kernel
theorem dX10_about_27 : decode cX10_about 27 = .ok (.aload_n 0, 1) := by decide +kernel
theorem dX10_about_28 : decode cX10_about 28 = .ok (.getfield 16, 3) := by decide +kernel
theorem dX10_about_31 : decode cX10_about 31 = .ok (.iload_n 1, 1) := by decide +kernel
theorem dX10_about_32 : decode cX10_about 32 = .ok (.iaload, 1) := by decide +kernel
theorem dX10_about_33 : decode cX10_about 33 = .ok (.if_icmp .ge 19, 3) := by decide +kernel
theorem dX10_about_36 : decode cX10_about 36 = .ok (.aload_n 0, 1) := by decide +kernel
theorem dX10_about_37 : decode cX10_about 37 = .ok (.getfield 19, 3) := by decide +kernel
theorem dX10_about_40 : decode cX10_about 40 = .ok (.iconst 4, 1) := by decide +kernel
theorem dX10_about_41 : decode cX10_about 41 = .ok (.iload_n 1, 1) := by decide +kernel
theorem dX10_about_42 : decode cX10_about 42 = .ok (.imul, 1) := by decide +kernel
theorem dX10_about_43 : decode cX10_about 43 = .ok (.iload_n 2, 1) := by decide +kernel
theorem dX10_about_44 : decode cX10_about 44 = .ok (.iadd, 1) := by decide +kernel
theorem dX10_about_45 : decode cX10_about 45 = .ok (.bipush 10, 2) := by decide +kernel
theorem dX10_about_47 : decode cX10_about 47 = .ok (.isub, 1) := by decide +kernel
theorem dX10_about_48 : decode cX10_about 48 = .ok (.iaload, 1) := by decide +kernel
theorem dX10_about_49 : decode cX10_about 49 = .ok (.goto 5, 3) := by decide +kernel
theorem dX10_about_52 : decode cX10_about 52 = .ok (.bipush (-6), 2) := by decide +kernel
theorem dX10_about_54 : decode cX10_about 54 = .ok (.ireturn, 1) := by decide +kernel
theorem dX10_about_55 : decode cX10_about 55 = .ok (.iload_n 2, 1) := by decide +kernel
theorem dX10_about_56 : decode cX10_about 56 = .ok (.ifCond .ne 12, 3) := by decide +kernel
theorem dX10_about_59 : decode cX10_about 59 = .ok (.aload_n 0, 1) := by decide +kernel
theorem dX10_about_60 : decode cX10_about 60 = .ok (.getfield 16, 3) := by decide +kernel
theorem dX10_about_63 : decode cX10_about 63 = .ok (.iload_n 1, 1) := by decide +kernel
theorem dX10_about_64 : decode cX10_about 64 = .ok (.iaload, 1) := by decide +kernel
theorem dX10_about_65 : decode cX10_about 65 = .ok (.goto 32, 3) := by decide +kernel
theorem dX10_about_68 : decode cX10_about 68 = .ok (.iload_n 2, 1) := by decide +kernel
theorem dX10_about_69 : decode cX10_about 69 = .ok (.iconst 1, 1) := by decide +kernel
theorem dX10_about_70 : decode cX10_about 70 = .ok (.if_icmp .ne 11, 3) := by decide +kernel
theorem dX10_about_73 : decode cX10_about 73 = .ok (.aload_n 0, 1) := by decide +kernel
theorem dX10_about_74 : decode cX10_about 74 = .ok (.iload_n 1, 1) := by decide +kernel
theorem dX10_about_75 : decode cX10_about 75 = .ok (.invokevirtual 115, 3) := by decide +kernel
theorem dX10_about_78 : decode cX10_about 78 = .ok (.goto 19, 3) := by decide +kernel
theorem dX10_about_81 : decode cX10_about 81 = .ok (.iload_n 2, 1) := by decide +kernel
theorem dX10_about_82 : decode cX10_about 82 = .ok (.iconst 2, 1) := by decide +kernel
theorem dX10_about_83 : decode cX10_about 83 = .ok (.if_icmp .ne 12, 3) := by decide +kernel
theorem dX10_about_86 : decode cX10_about 86 = .ok (.aload_n 0, 1) := by decide +kernel
theorem dX10_about_87 : decode cX10_about 87 = .ok (.getfield 22, 3) := by decide +kernel
theorem dX10_about_90 : decode cX10_about 90 = .ok (.iload_n 1, 1) := by decide +kernel
theorem dX10_about_91 : decode cX10_about 91 = .ok (.iaload, 1) := by decide +kernel
theorem dX10_about_92 : decode cX10_about 92 = .ok (.goto 5, 3) := by decide +kernel
theorem dX10_about_95 : decode cX10_about 95 = .ok (.bipush (-2), 2) := by decide +kernel
theorem dX10_about_97 : decode cX10_about 97 = .ok (.ireturn, 1) := by decide +kernel
theorem dX10_teller_0 : decode cX10_teller 0 = .ok (.iload_n 1, 1) := by decide +kernel
theorem dX10_teller_1 : decode cX10_teller 1 = .ok (.invokestatic 101, 3) := by decide +kernel
theorem dX10_teller_4 : decode cX10_teller 4 = .ok (.ifCond .eq 10, 3) := by decide +kernel
theorem dX10_teller_7 : decode cX10_teller 7 = .ok (.iload_n 2, 1) := by decide +kernel
theorem dX10_teller_8 : decode cX10_teller 8 = .ok (.invokestatic 101, 3) := by decide +kernel
theorem dX10_teller_11 : decode cX10_teller 11 = .ok (.ifCond .ne 5, 3) := by decide +kernel
theorem dX10_teller_14 : decode cX10_teller 14 = .ok (.iconst (-1), 1) := by decide +kernel
theorem dX10_teller_15 : decode cX10_teller 15 = .ok (.ireturn, 1) := by decide +kernel
theorem dX10_teller_16 : decode cX10_teller 16 = .ok (.aload_n 0, 1) := by decide +kernel
theorem dX10_teller_17 : decode cX10_teller 17 = .ok (.getfield 25, 3) := by decide +kernel
theorem dX10_teller_20 : decode cX10_teller 20 = .ok (.iload_n 1, 1) := by decide +kernel
theorem dX10_teller_21 : decode cX10_teller 21 = .ok (.iaload, 1) := by decide +kernel
theorem dX10_teller_22 : decode cX10_teller 22 = .ok (.istore_n 3, 1) := by decide +kernel
theorem dX10_teller_23 : decode cX10_teller 23 = .ok (.aload_n 0, 1) := by decide +kernel
theorem dX10_teller_24 : decode cX10_teller 24 = .ok (.getfield 25, 3) := by decide +kernel
theorem dX10_teller_27 : decode cX10_teller 27 = .ok (.iload_n 1, 1) := by decide +kernel
theorem dX10_teller_28 : decode cX10_teller 28 = .ok (.iload_n 2, 1) := by decide +kernel
theorem dX10_teller_29 : decode cX10_teller 29 = .ok (.iastore, 1) := by decide +kernel
theorem dX10_teller_30 : decode cX10_teller 30 = .ok (.iload_n 3, 1) := by decide +kernel
theorem dX10_teller_31 : decode cX10_teller 31 = .ok (.ireturn, 1) := by decide +kernel
theorem dX10_knows_0 : decode cX10_knows 0 = .ok (.iload_n 1, 1) := by decide +kernel
theorem dX10_knows_1 : decode cX10_knows 1 = .ok (.invokestatic 101, 3) := by decide +kernel
theorem dX10_knows_4 : decode cX10_knows 4 = .ok (.ifCond .ne 5, 3) := by decide +kernel
theorem dX10_knows_7 : decode cX10_knows 7 = .ok (.iconst (-1), 1) := by decide +kernel
theorem dX10_knows_8 : decode cX10_knows 8 = .ok (.ireturn, 1) := by decide +kernel
theorem dX10_knows_9 : decode cX10_knows 9 = .ok (.iload_n 2, 1) := by decide +kernel
theorem dX10_knows_10 : decode cX10_knows 10 = .ok (.i2l, 1) := by decide +kernel
theorem dX10_knows_11 : decode cX10_knows 11 = .ok (.lconst 0, 1) := by decide +kernel
theorem dX10_knows_12 : decode cX10_knows 12 = .ok (.ldc2_w 118, 3) := by decide +kernel
theorem dX10_knows_15 : decode cX10_knows 15 = .ok (.invokestatic 77, 3) := by decide +kernel
theorem dX10_knows_18 : decode cX10_knows 18 = .ok (.ifCond .ne 6, 3) := by decide +kernel
theorem dX10_knows_21 : decode cX10_knows 21 = .ok (.bipush (-2), 2) := by decide +kernel
theorem dX10_knows_23 : decode cX10_knows 23 = .ok (.ireturn, 1) := by decide +kernel
theorem dX10_knows_24 : decode cX10_knows 24 = .ok (.aload_n 0, 1) := by decide +kernel
theorem dX10_knows_25 : decode cX10_knows 25 = .ok (.getfield 28, 3) := by decide +kernel
theorem dX10_knows_28 : decode cX10_knows 28 = .ok (.iload_n 1, 1) := by decide +kernel
theorem dX10_knows_29 : decode cX10_knows 29 = .ok (.iaload, 1) := by decide +kernel
theorem dX10_knows_30 : decode cX10_knows 30 = .ok (.istore_n 3, 1) := by decide +kernel
theorem dX10_knows_31 : decode cX10_knows 31 = .ok (.aload_n 0, 1) := by decide +kernel
theorem dX10_knows_32 : decode cX10_knows 32 = .ok (.getfield 28, 3) := by decide +kernel
theorem dX10_knows_35 : decode cX10_knows 35 = .ok (.iload_n 1, 1) := by decide +kernel
theorem dX10_knows_36 : decode cX10_knows 36 = .ok (.iload_n 2, 1) := by decide +kernel
theorem dX10_knows_37 : decode cX10_knows 37 = .ok (.iastore, 1) := by decide +kernel
theorem dX10_knows_38 : decode cX10_knows 38 = .ok (.iload_n 3, 1) := by decide +kernel
theorem dX10_knows_39 : decode cX10_knows 39 = .ok (.ireturn, 1) := by decide +kernel
theorem dX10_wait_0 : decode cX10_wait 0 = .ok (.iload_n 1, 1) := by decide +kernel
theorem dX10_wait_1 : decode cX10_wait 1 = .ok (.invokestatic 101, 3) := by decide +kernel
theorem dX10_wait_4 : decode cX10_wait 4 = .ok (.ifCond .eq 33, 3) := by decide +kernel
theorem dX10_wait_7 : decode cX10_wait 7 = .ok (.iload_n 3, 1) := by decide +kernel
theorem dX10_wait_8 : decode cX10_wait 8 = .ok (.invokestatic 101, 3) := by decide +kernel
theorem dX10_wait_11 : decode cX10_wait 11 = .ok (.ifCond .eq 26, 3) := by decide +kernel
theorem dX10_wait_14 : decode cX10_wait 14 = .ok (.iload_n 1, 1) := by decide +kernel
theorem dX10_wait_15 : decode cX10_wait 15 = .ok (.iload_n 3, 1) := by decide +kernel
theorem dX10_wait_16 : decode cX10_wait 16 = .ok (.if_icmp .eq 21, 3) := by decide +kernel
theorem dX10_wait_19 : decode cX10_wait 19 = .ok (.iload_n 2, 1) := by decide +kernel
theorem dX10_wait_20 : decode cX10_wait 20 = .ok (.i2l, 1) := by decide +kernel
theorem dX10_wait_21 : decode cX10_wait 21 = .ok (.lconst 0, 1) := by decide +kernel
theorem dX10_wait_22 : decode cX10_wait 22 = .ok (.aload_n 0, 1) := by decide +kernel
theorem dX10_wait_23 : decode cX10_wait 23 = .ok (.getfield 16, 3) := by decide +kernel
theorem dX10_wait_26 : decode cX10_wait 26 = .ok (.iload_n 1, 1) := by decide +kernel
theorem dX10_wait_27 : decode cX10_wait 27 = .ok (.iaload, 1) := by decide +kernel
theorem dX10_wait_28 : decode cX10_wait 28 = .ok (.iconst 1, 1) := by decide +kernel
theorem dX10_wait_29 : decode cX10_wait 29 = .ok (.isub, 1) := by decide +kernel
theorem dX10_wait_30 : decode cX10_wait 30 = .ok (.i2l, 1) := by decide +kernel
theorem dX10_wait_31 : decode cX10_wait 31 = .ok (.invokestatic 77, 3) := by decide +kernel
theorem dX10_wait_34 : decode cX10_wait 34 = .ok (.ifCond .ne 5, 3) := by decide +kernel
theorem dX10_wait_37 : decode cX10_wait 37 = .ok (.iconst (-1), 1) := by decide +kernel
theorem dX10_wait_38 : decode cX10_wait 38 = .ok (.ireturn, 1) := by decide +kernel
theorem dX10_wait_39 : decode cX10_wait 39 = .ok (.iconst 0, 1) := by decide +kernel
theorem dX10_wait_40 : decode cX10_wait 40 = .ok (.istore 4, 2) := by decide +kernel
theorem dX10_wait_42 : decode cX10_wait 42 = .ok (.iload 4, 2) := by decide +kernel
theorem dX10_wait_44 : decode cX10_wait 44 = .ok (.aload_n 0, 1) := by decide +kernel
theorem dX10_wait_45 : decode cX10_wait 45 = .ok (.getfield 104, 3) := by decide +kernel
theorem dX10_wait_48 : decode cX10_wait 48 = .ok (.if_icmp .ge 45, 3) := by decide +kernel
theorem dX10_wait_51 : decode cX10_wait 51 = .ok (.aload_n 0, 1) := by decide +kernel
theorem dX10_wait_52 : decode cX10_wait 52 = .ok (.getfield 31, 3) := by decide +kernel
theorem dX10_wait_55 : decode cX10_wait 55 = .ok (.iload 4, 2) := by decide +kernel
theorem dX10_wait_57 : decode cX10_wait 57 = .ok (.iaload, 1) := by decide +kernel
theorem dX10_wait_58 : decode cX10_wait 58 = .ok (.iload_n 1, 1) := by decide +kernel
theorem dX10_wait_59 : decode cX10_wait 59 = .ok (.if_icmp .ne 28, 3) := by decide +kernel
theorem dX10_wait_62 : decode cX10_wait 62 = .ok (.aload_n 0, 1) := by decide +kernel
theorem dX10_wait_63 : decode cX10_wait 63 = .ok (.getfield 34, 3) := by decide +kernel
theorem dX10_wait_66 : decode cX10_wait 66 = .ok (.iload 4, 2) := by decide +kernel
theorem dX10_wait_68 : decode cX10_wait 68 = .ok (.iaload, 1) := by decide +kernel
theorem dX10_wait_69 : decode cX10_wait 69 = .ok (.iload_n 2, 1) := by decide +kernel
theorem dX10_wait_70 : decode cX10_wait 70 = .ok (.if_icmp .ne 17, 3) := by decide +kernel
theorem dX10_wait_73 : decode cX10_wait 73 = .ok (.aload_n 0, 1) := by decide +kernel
theorem dX10_wait_74 : decode cX10_wait 74 = .ok (.getfield 37, 3) := by decide +kernel
theorem dX10_wait_77 : decode cX10_wait 77 = .ok (.iload 4, 2) := by decide +kernel
theorem dX10_wait_79 : decode cX10_wait 79 = .ok (.iaload, 1) := by decide +kernel
theorem dX10_wait_80 : decode cX10_wait 80 = .ok (.iload_n 3, 1) := by decide +kernel
theorem dX10_wait_81 : decode cX10_wait 81 = .ok (.if_icmp .ne 6, 3) := by decide +kernel
theorem dX10_wait_84 : decode cX10_wait 84 = .ok (.bipush (-5), 2) := by decide +kernel
theorem dX10_wait_86 : decode cX10_wait 86 = .ok (.ireturn, 1) := by decide +kernel
theorem dX10_wait_87 : decode cX10_wait 87 = .ok (.iinc 4 1, 3) := by decide +kernel
theorem dX10_wait_90 : decode cX10_wait 90 = .ok (.goto (-48), 3) := by decide +kernel
theorem dX10_wait_93 : decode cX10_wait 93 = .ok (.aload_n 0, 1) := by decide +kernel
theorem dX10_wait_94 : decode cX10_wait 94 = .ok (.getfield 104, 3) := by decide +kernel
theorem dX10_wait_97 : decode cX10_wait 97 = .ok (.bipush 6, 2) := by decide +kernel
theorem dX10_wait_99 : decode cX10_wait 99 = .ok (.if_icmp .ne 6, 3) := by decide +kernel
theorem dX10_wait_102 : decode cX10_wait 102 = .ok (.bipush (-4), 2) := by decide +kernel
theorem dX10_wait_104 : decode cX10_wait 104 = .ok (.ireturn, 1) := by decide +kernel
theorem dX10_wait_105 : decode cX10_wait 105 = .ok (.aload_n 0, 1) := by decide +kernel
theorem dX10_wait_106 : decode cX10_wait 106 = .ok (.getfield 31, 3) := by decide +kernel
theorem dX10_wait_109 : decode cX10_wait 109 = .ok (.aload_n 0, 1) := by decide +kernel
theorem dX10_wait_110 : decode cX10_wait 110 = .ok (.getfield 104, 3) := by decide +kernel
theorem dX10_wait_113 : decode cX10_wait 113 = .ok (.iload_n 1, 1) := by decide +kernel
theorem dX10_wait_114 : decode cX10_wait 114 = .ok (.iastore, 1) := by decide +kernel
theorem dX10_wait_115 : decode cX10_wait 115 = .ok (.aload_n 0, 1) := by decide +kernel
theorem dX10_wait_116 : decode cX10_wait 116 = .ok (.getfield 34, 3) := by decide +kernel
theorem dX10_wait_119 : decode cX10_wait 119 = .ok (.aload_n 0, 1) := by decide +kernel
theorem dX10_wait_120 : decode cX10_wait 120 = .ok (.getfield 104, 3) := by decide +kernel
theorem dX10_wait_123 : decode cX10_wait 123 = .ok (.iload_n 2, 1) := by decide +kernel
theorem dX10_wait_124 : decode cX10_wait 124 = .ok (.iastore, 1) := by decide +kernel
theorem dX10_wait_125 : decode cX10_wait 125 = .ok (.aload_n 0, 1) := by decide +kernel
theorem dX10_wait_126 : decode cX10_wait 126 = .ok (.getfield 37, 3) := by decide +kernel
theorem dX10_wait_129 : decode cX10_wait 129 = .ok (.aload_n 0, 1) := by decide +kernel
theorem dX10_wait_130 : decode cX10_wait 130 = .ok (.getfield 104, 3) := by decide +kernel
theorem dX10_wait_133 : decode cX10_wait 133 = .ok (.iload_n 3, 1) := by decide +kernel
theorem dX10_wait_134 : decode cX10_wait 134 = .ok (.iastore, 1) := by decide +kernel
theorem dX10_wait_135 : decode cX10_wait 135 = .ok (.aload_n 0, 1) := by decide +kernel
theorem dX10_wait_136 : decode cX10_wait 136 = .ok (.dup, 1) := by decide +kernel
theorem dX10_wait_137 : decode cX10_wait 137 = .ok (.getfield 104, 3) := by decide +kernel
theorem dX10_wait_140 : decode cX10_wait 140 = .ok (.iconst 1, 1) := by decide +kernel
theorem dX10_wait_141 : decode cX10_wait 141 = .ok (.iadd, 1) := by decide +kernel
theorem dX10_wait_142 : decode cX10_wait 142 = .ok (.putfield 104, 3) := by decide +kernel
theorem dX10_wait_145 : decode cX10_wait 145 = .ok (.aload_n 0, 1) := by decide +kernel
theorem dX10_wait_146 : decode cX10_wait 146 = .ok (.getfield 104, 3) := by decide +kernel
theorem dX10_wait_149 : decode cX10_wait 149 = .ok (.iconst 1, 1) := by decide +kernel
theorem dX10_wait_150 : decode cX10_wait 150 = .ok (.isub, 1) := by decide +kernel
theorem dX10_wait_151 : decode cX10_wait 151 = .ok (.ireturn, 1) := by decide +kernel
theorem dX10_drop_0 : decode cX10_drop 0 = .ok (.iload_n 1, 1) := by decide +kernel
theorem dX10_drop_1 : decode cX10_drop 1 = .ok (.i2l, 1) := by decide +kernel
theorem dX10_drop_2 : decode cX10_drop 2 = .ok (.lconst 0, 1) := by decide +kernel
theorem dX10_drop_3 : decode cX10_drop 3 = .ok (.aload_n 0, 1) := by decide +kernel
theorem dX10_drop_4 : decode cX10_drop 4 = .ok (.getfield 104, 3) := by decide +kernel
theorem dX10_drop_7 : decode cX10_drop 7 = .ok (.iconst 1, 1) := by decide +kernel
theorem dX10_drop_8 : decode cX10_drop 8 = .ok (.isub, 1) := by decide +kernel
theorem dX10_drop_9 : decode cX10_drop 9 = .ok (.i2l, 1) := by decide +kernel
theorem dX10_drop_10 : decode cX10_drop 10 = .ok (.invokestatic 77, 3) := by decide +kernel
theorem dX10_drop_13 : decode cX10_drop 13 = .ok (.ifCond .ne 5, 3) := by decide +kernel
theorem dX10_drop_16 : decode cX10_drop 16 = .ok (.iconst (-1), 1) := by decide +kernel
theorem dX10_drop_17 : decode cX10_drop 17 = .ok (.ireturn, 1) := by decide +kernel
theorem dX10_drop_18 : decode cX10_drop 18 = .ok (.aload_n 0, 1) := by decide +kernel
theorem dX10_drop_19 : decode cX10_drop 19 = .ok (.dup, 1) := by decide +kernel
theorem dX10_drop_20 : decode cX10_drop 20 = .ok (.getfield 104, 3) := by decide +kernel
theorem dX10_drop_23 : decode cX10_drop 23 = .ok (.iconst 1, 1) := by decide +kernel
theorem dX10_drop_24 : decode cX10_drop 24 = .ok (.isub, 1) := by decide +kernel
theorem dX10_drop_25 : decode cX10_drop 25 = .ok (.putfield 104, 3) := by decide +kernel
theorem dX10_drop_28 : decode cX10_drop 28 = .ok (.iload_n 1, 1) := by decide +kernel
theorem dX10_drop_29 : decode cX10_drop 29 = .ok (.istore_n 2, 1) := by decide +kernel
theorem dX10_drop_30 : decode cX10_drop 30 = .ok (.iload_n 2, 1) := by decide +kernel
theorem dX10_drop_31 : decode cX10_drop 31 = .ok (.aload_n 0, 1) := by decide +kernel
theorem dX10_drop_32 : decode cX10_drop 32 = .ok (.getfield 104, 3) := by decide +kernel
theorem dX10_drop_35 : decode cX10_drop 35 = .ok (.if_icmp .ge 51, 3) := by decide +kernel
theorem dX10_drop_38 : decode cX10_drop 38 = .ok (.aload_n 0, 1) := by decide +kernel
theorem dX10_drop_39 : decode cX10_drop 39 = .ok (.getfield 31, 3) := by decide +kernel
theorem dX10_drop_42 : decode cX10_drop 42 = .ok (.iload_n 2, 1) := by decide +kernel
theorem dX10_drop_43 : decode cX10_drop 43 = .ok (.aload_n 0, 1) := by decide +kernel
theorem dX10_drop_44 : decode cX10_drop 44 = .ok (.getfield 31, 3) := by decide +kernel
theorem dX10_drop_47 : decode cX10_drop 47 = .ok (.iload_n 2, 1) := by decide +kernel
theorem dX10_drop_48 : decode cX10_drop 48 = .ok (.iconst 1, 1) := by decide +kernel
theorem dX10_drop_49 : decode cX10_drop 49 = .ok (.iadd, 1) := by decide +kernel
theorem dX10_drop_50 : decode cX10_drop 50 = .ok (.iaload, 1) := by decide +kernel
theorem dX10_drop_51 : decode cX10_drop 51 = .ok (.iastore, 1) := by decide +kernel
theorem dX10_drop_52 : decode cX10_drop 52 = .ok (.aload_n 0, 1) := by decide +kernel
theorem dX10_drop_53 : decode cX10_drop 53 = .ok (.getfield 34, 3) := by decide +kernel
theorem dX10_drop_56 : decode cX10_drop 56 = .ok (.iload_n 2, 1) := by decide +kernel
theorem dX10_drop_57 : decode cX10_drop 57 = .ok (.aload_n 0, 1) := by decide +kernel
theorem dX10_drop_58 : decode cX10_drop 58 = .ok (.getfield 34, 3) := by decide +kernel
theorem dX10_drop_61 : decode cX10_drop 61 = .ok (.iload_n 2, 1) := by decide +kernel
theorem dX10_drop_62 : decode cX10_drop 62 = .ok (.iconst 1, 1) := by decide +kernel
theorem dX10_drop_63 : decode cX10_drop 63 = .ok (.iadd, 1) := by decide +kernel
theorem dX10_drop_64 : decode cX10_drop 64 = .ok (.iaload, 1) := by decide +kernel
theorem dX10_drop_65 : decode cX10_drop 65 = .ok (.iastore, 1) := by decide +kernel
theorem dX10_drop_66 : decode cX10_drop 66 = .ok (.aload_n 0, 1) := by decide +kernel
theorem dX10_drop_67 : decode cX10_drop 67 = .ok (.getfield 37, 3) := by decide +kernel
theorem dX10_drop_70 : decode cX10_drop 70 = .ok (.iload_n 2, 1) := by decide +kernel
theorem dX10_drop_71 : decode cX10_drop 71 = .ok (.aload_n 0, 1) := by decide +kernel
theorem dX10_drop_72 : decode cX10_drop 72 = .ok (.getfield 37, 3) := by decide +kernel
theorem dX10_drop_75 : decode cX10_drop 75 = .ok (.iload_n 2, 1) := by decide +kernel
theorem dX10_drop_76 : decode cX10_drop 76 = .ok (.iconst 1, 1) := by decide +kernel
theorem dX10_drop_77 : decode cX10_drop 77 = .ok (.iadd, 1) := by decide +kernel
theorem dX10_drop_78 : decode cX10_drop 78 = .ok (.iaload, 1) := by decide +kernel
theorem dX10_drop_79 : decode cX10_drop 79 = .ok (.iastore, 1) := by decide +kernel
theorem dX10_drop_80 : decode cX10_drop 80 = .ok (.iinc 2 1, 3) := by decide +kernel
theorem dX10_drop_83 : decode cX10_drop 83 = .ok (.goto (-53), 3) := by decide +kernel
theorem dX10_drop_86 : decode cX10_drop 86 = .ok (.aload_n 0, 1) := by decide +kernel
theorem dX10_drop_87 : decode cX10_drop 87 = .ok (.getfield 104, 3) := by decide +kernel
theorem dX10_drop_90 : decode cX10_drop 90 = .ok (.ireturn, 1) := by decide +kernel
theorem dX10_set_0 : decode cX10_set 0 = .ok (.iload_n 1, 1) := by decide +kernel
theorem dX10_set_1 : decode cX10_set 1 = .ok (.i2l, 1) := by decide +kernel
theorem dX10_set_2 : decode cX10_set 2 = .ok (.lconst 0, 1) := by decide +kernel
theorem dX10_set_3 : decode cX10_set 3 = .ok (.lconst 1, 1) := by decide +kernel
theorem dX10_set_4 : decode cX10_set 4 = .ok (.invokestatic 77, 3) := by decide +kernel
theorem dX10_set_7 : decode cX10_set 7 = .ok (.ifCond .eq 25, 3) := by decide +kernel
theorem dX10_set_10 : decode cX10_set 10 = .ok (.iload_n 2, 1) := by decide +kernel
theorem dX10_set_11 : decode cX10_set 11 = .ok (.i2l, 1) := by decide +kernel
theorem dX10_set_12 : decode cX10_set 12 = .ok (.lconst 0, 1) := by decide +kernel
theorem dX10_set_13 : decode cX10_set 13 = .ok (.iload_n 1, 1) := by decide +kernel
theorem dX10_set_14 : decode cX10_set 14 = .ok (.ifCond .ne 9, 3) := by decide +kernel
theorem dX10_set_17 : decode cX10_set 17 = .ok (.ldc2_w 120, 3) := by decide +kernel
theorem dX10_set_20 : decode cX10_set 20 = .ok (.goto 6, 3) := by decide +kernel
theorem dX10_set_23 : decode cX10_set 23 = .ok (.ldc2_w 122, 3) := by decide +kernel
theorem dX10_set_26 : decode cX10_set 26 = .ok (.invokestatic 77, 3) := by decide +kernel
theorem dX10_set_29 : decode cX10_set 29 = .ok (.ifCond .ne 6, 3) := by decide +kernel
theorem dX10_set_32 : decode cX10_set 32 = .ok (.bipush (-2), 2) := by decide +kernel
theorem dX10_set_34 : decode cX10_set 34 = .ok (.ireturn, 1) := by decide +kernel
theorem dX10_set_35 : decode cX10_set 35 = .ok (.iload_n 1, 1) := by decide +kernel
theorem dX10_set_36 : decode cX10_set 36 = .ok (.ifCond .ne 10, 3) := by decide +kernel
theorem dX10_set_39 : decode cX10_set 39 = .ok (.aload_n 0, 1) := by decide +kernel
theorem dX10_set_40 : decode cX10_set 40 = .ok (.getfield 124, 3) := by decide +kernel
theorem dX10_set_43 : decode cX10_set 43 = .ok (.goto 7, 3) := by decide +kernel
theorem dX10_set_46 : decode cX10_set 46 = .ok (.aload_n 0, 1) := by decide +kernel
theorem dX10_set_47 : decode cX10_set 47 = .ok (.getfield 127, 3) := by decide +kernel
theorem dX10_set_50 : decode cX10_set 50 = .ok (.istore_n 3, 1) := by decide +kernel
theorem dX10_set_51 : decode cX10_set 51 = .ok (.aload_n 0, 1) := by decide +kernel
theorem dX10_set_52 : decode cX10_set 52 = .ok (.iload_n 1, 1) := by decide +kernel
theorem dX10_set_53 : decode cX10_set 53 = .ok (.ifCond .ne 7, 3) := by decide +kernel
theorem dX10_set_56 : decode cX10_set 56 = .ok (.iload_n 2, 1) := by decide +kernel
theorem dX10_set_57 : decode cX10_set 57 = .ok (.goto 7, 3) := by decide +kernel
theorem dX10_set_60 : decode cX10_set 60 = .ok (.aload_n 0, 1) := by decide +kernel
theorem dX10_set_61 : decode cX10_set 61 = .ok (.getfield 124, 3) := by decide +kernel
theorem dX10_set_64 : decode cX10_set 64 = .ok (.putfield 124, 3) := by decide +kernel
theorem dX10_set_67 : decode cX10_set 67 = .ok (.aload_n 0, 1) := by decide +kernel
theorem dX10_set_68 : decode cX10_set 68 = .ok (.iload_n 1, 1) := by decide +kernel
theorem dX10_set_69 : decode cX10_set 69 = .ok (.iconst 1, 1) := by decide +kernel
theorem dX10_set_70 : decode cX10_set 70 = .ok (.if_icmp .ne 7, 3) := by decide +kernel
theorem dX10_set_73 : decode cX10_set 73 = .ok (.iload_n 2, 1) := by decide +kernel
theorem dX10_set_74 : decode cX10_set 74 = .ok (.goto 7, 3) := by decide +kernel
theorem dX10_set_77 : decode cX10_set 77 = .ok (.aload_n 0, 1) := by decide +kernel
theorem dX10_set_78 : decode cX10_set 78 = .ok (.getfield 127, 3) := by decide +kernel
theorem dX10_set_81 : decode cX10_set 81 = .ok (.putfield 127, 3) := by decide +kernel
theorem dX10_set_84 : decode cX10_set 84 = .ok (.iload_n 3, 1) := by decide +kernel
theorem dX10_set_85 : decode cX10_set 85 = .ok (.ireturn, 1) := by decide +kernel
theorem dX10_layTold_0 : decode cX10_layTold 0 = .ok (.iload_n 1, 1) := by decide +kernel
theorem dX10_layTold_1 : decode cX10_layTold 1 = .ok (.istore_n 2, 1) := by decide +kernel
theorem dX10_layTold_2 : decode cX10_layTold 2 = .ok (.iconst 0, 1) := by decide +kernel
theorem dX10_layTold_3 : decode cX10_layTold 3 = .ok (.istore_n 3, 1) := by decide +kernel
theorem dX10_layTold_4 : decode cX10_layTold 4 = .ok (.iload_n 3, 1) := by decide +kernel
theorem dX10_layTold_5 : decode cX10_layTold 5 = .ok (.iconst 4, 1) := by decide +kernel
theorem dX10_layTold_6 : decode cX10_layTold 6 = .ok (.if_icmp .ge 22, 3) := by decide +kernel
theorem dX10_layTold_9 : decode cX10_layTold 9 = .ok (.aload_n 0, 1) := by decide +kernel
theorem dX10_layTold_10 : decode cX10_layTold 10 = .ok (.getfield 43, 3) := by decide +kernel
theorem dX10_layTold_13 : decode cX10_layTold 13 = .ok (.iload_n 3, 1) := by decide +kernel
theorem dX10_layTold_14 : decode cX10_layTold 14 = .ok (.iload_n 2, 1) := by decide +kernel
theorem dX10_layTold_15 : decode cX10_layTold 15 = .ok (.iconst 5, 1) := by decide +kernel
theorem dX10_layTold_16 : decode cX10_layTold 16 = .ok (.irem, 1) := by decide +kernel
theorem dX10_layTold_17 : decode cX10_layTold 17 = .ok (.iastore, 1) := by decide +kernel
theorem dX10_layTold_18 : decode cX10_layTold 18 = .ok (.iload_n 2, 1) := by decide +kernel
theorem dX10_layTold_19 : decode cX10_layTold 19 = .ok (.iconst 5, 1) := by decide +kernel
theorem dX10_layTold_20 : decode cX10_layTold 20 = .ok (.idiv, 1) := by decide +kernel
theorem dX10_layTold_21 : decode cX10_layTold 21 = .ok (.istore_n 2, 1) := by decide +kernel
theorem dX10_layTold_22 : decode cX10_layTold 22 = .ok (.iinc 3 1, 3) := by decide +kernel
theorem dX10_layTold_25 : decode cX10_layTold 25 = .ok (.goto (-21), 3) := by decide +kernel
theorem dX10_layTold_28 : decode cX10_layTold 28 = .ok (.return_, 1) := by decide +kernel
theorem dX10_lay_0 : decode cX10_lay 0 = .ok (.aload_n 0, 1) := by decide +kernel
theorem dX10_lay_1 : decode cX10_lay 1 = .ok (.iload_n 1, 1) := by decide +kernel
theorem dX10_lay_2 : decode cX10_lay 2 = .ok (.bipush 65, 2) := by decide +kernel
theorem dX10_lay_4 : decode cX10_lay 4 = .ok (.idiv, 1) := by decide +kernel
theorem dX10_lay_5 : decode cX10_lay 5 = .ok (.invokevirtual 130, 3) := by decide +kernel
theorem dX10_lay_8 : decode cX10_lay 8 = .ok (.aload_n 0, 1) := by decide +kernel
theorem dX10_lay_9 : decode cX10_lay 9 = .ok (.aload_n 0, 1) := by decide +kernel
theorem dX10_lay_10 : decode cX10_lay 10 = .ok (.getfield 13, 3) := by decide +kernel
theorem dX10_lay_13 : decode cX10_lay 13 = .ok (.iload_n 1, 1) := by decide +kernel
theorem dX10_lay_14 : decode cX10_lay 14 = .ok (.bipush 65, 2) := by decide +kernel
theorem dX10_lay_16 : decode cX10_lay 16 = .ok (.irem, 1) := by decide +kernel
theorem dX10_lay_17 : decode cX10_lay 17 = .ok (.iaload, 1) := by decide +kernel
theorem dX10_lay_18 : decode cX10_lay 18 = .ok (.putfield 134, 3) := by decide +kernel
theorem dX10_lay_21 : decode cX10_lay 21 = .ok (.return_, 1) := by decide +kernel
theorem dX10_powerOf_0 : decode cX10_powerOf 0 = .ok (.iload_n 0, 1) := by decide +kernel
theorem dX10_powerOf_1 : decode cX10_powerOf 1 = .ok (.ifCond .ne 7, 3) := by decide +kernel
theorem dX10_powerOf_4 : decode cX10_powerOf 4 = .ok (.iconst 1, 1) := by decide +kernel
theorem dX10_powerOf_5 : decode cX10_powerOf 5 = .ok (.goto 24, 3) := by decide +kernel
theorem dX10_powerOf_8 : decode cX10_powerOf 8 = .ok (.iload_n 0, 1) := by decide +kernel
theorem dX10_powerOf_9 : decode cX10_powerOf 9 = .ok (.iconst 1, 1) := by decide +kernel
theorem dX10_powerOf_10 : decode cX10_powerOf 10 = .ok (.if_icmp .ne 7, 3) := by decide +kernel
theorem dX10_powerOf_13 : decode cX10_powerOf 13 = .ok (.iconst 5, 1) := by decide +kernel
theorem dX10_powerOf_14 : decode cX10_powerOf 14 = .ok (.goto 15, 3) := by decide +kernel
theorem dX10_powerOf_17 : decode cX10_powerOf 17 = .ok (.iload_n 0, 1) := by decide +kernel
theorem dX10_powerOf_18 : decode cX10_powerOf 18 = .ok (.iconst 2, 1) := by decide +kernel
theorem dX10_powerOf_19 : decode cX10_powerOf 19 = .ok (.if_icmp .ne 8, 3) := by decide +kernel
theorem dX10_powerOf_22 : decode cX10_powerOf 22 = .ok (.bipush 25, 2) := by decide +kernel
theorem dX10_powerOf_24 : decode cX10_powerOf 24 = .ok (.goto 5, 3) := by decide +kernel
theorem dX10_powerOf_27 : decode cX10_powerOf 27 = .ok (.bipush 125, 2) := by decide +kernel
theorem dX10_powerOf_29 : decode cX10_powerOf 29 = .ok (.ireturn, 1) := by decide +kernel
theorem dX10_standNow_0 : decode cX10_standNow 0 = .ok (.iconst 0, 1) := by decide +kernel
theorem dX10_standNow_1 : decode cX10_standNow 1 = .ok (.istore_n 1, 1) := by decide +kernel
theorem dX10_standNow_2 : decode cX10_standNow 2 = .ok (.iconst 0, 1) := by decide +kernel
theorem dX10_standNow_3 : decode cX10_standNow 3 = .ok (.istore_n 2, 1) := by decide +kernel
theorem dX10_standNow_4 : decode cX10_standNow 4 = .ok (.iload_n 2, 1) := by decide +kernel
theorem dX10_standNow_5 : decode cX10_standNow 5 = .ok (.iconst 4, 1) := by decide +kernel
theorem dX10_standNow_6 : decode cX10_standNow 6 = .ok (.if_icmp .ge 23, 3) := by decide +kernel
theorem dX10_standNow_9 : decode cX10_standNow 9 = .ok (.iload_n 1, 1) := by decide +kernel
theorem dX10_standNow_10 : decode cX10_standNow 10 = .ok (.iload_n 2, 1) := by decide +kernel
theorem dX10_standNow_11 : decode cX10_standNow 11 = .ok (.invokestatic 137, 3) := by decide +kernel
theorem dX10_standNow_14 : decode cX10_standNow 14 = .ok (.aload_n 0, 1) := by decide +kernel
theorem dX10_standNow_15 : decode cX10_standNow 15 = .ok (.getfield 43, 3) := by decide +kernel
theorem dX10_standNow_18 : decode cX10_standNow 18 = .ok (.iload_n 2, 1) := by decide +kernel
theorem dX10_standNow_19 : decode cX10_standNow 19 = .ok (.iaload, 1) := by decide +kernel
theorem dX10_standNow_20 : decode cX10_standNow 20 = .ok (.imul, 1) := by decide +kernel
theorem dX10_standNow_21 : decode cX10_standNow 21 = .ok (.iadd, 1) := by decide +kernel
theorem dX10_standNow_22 : decode cX10_standNow 22 = .ok (.istore_n 1, 1) := by decide +kernel
theorem dX10_standNow_23 : decode cX10_standNow 23 = .ok (.iinc 2 1, 3) := by decide +kernel
theorem dX10_standNow_26 : decode cX10_standNow 26 = .ok (.goto (-22), 3) := by decide +kernel
theorem dX10_standNow_29 : decode cX10_standNow 29 = .ok (.bipush 65, 2) := by decide +kernel
theorem dX10_standNow_31 : decode cX10_standNow 31 = .ok (.iload_n 1, 1) := by decide +kernel
theorem dX10_standNow_32 : decode cX10_standNow 32 = .ok (.imul, 1) := by decide +kernel
theorem dX10_standNow_33 : decode cX10_standNow 33 = .ok (.aload_n 0, 1) := by decide +kernel
theorem dX10_standNow_34 : decode cX10_standNow 34 = .ok (.getfield 7, 3) := by decide +kernel
theorem dX10_standNow_37 : decode cX10_standNow 37 = .ok (.aload_n 0, 1) := by decide +kernel
theorem dX10_standNow_38 : decode cX10_standNow 38 = .ok (.getfield 134, 3) := by decide +kernel
theorem dX10_standNow_41 : decode cX10_standNow 41 = .ok (.iaload, 1) := by decide +kernel
theorem dX10_standNow_42 : decode cX10_standNow 42 = .ok (.iadd, 1) := by decide +kernel
theorem dX10_standNow_43 : decode cX10_standNow 43 = .ok (.ireturn, 1) := by decide +kernel
theorem dX10_isOut_0 : decode cX10_isOut 0 = .ok (.aload_n 0, 1) := by decide +kernel
theorem dX10_isOut_1 : decode cX10_isOut 1 = .ok (.getfield 43, 3) := by decide +kernel
theorem dX10_isOut_4 : decode cX10_isOut 4 = .ok (.iload_n 1, 1) := by decide +kernel
theorem dX10_isOut_5 : decode cX10_isOut 5 = .ok (.iaload, 1) := by decide +kernel
theorem dX10_isOut_6 : decode cX10_isOut 6 = .ok (.aload_n 0, 1) := by decide +kernel
theorem dX10_isOut_7 : decode cX10_isOut 7 = .ok (.getfield 16, 3) := by decide +kernel
theorem dX10_isOut_10 : decode cX10_isOut 10 = .ok (.iload_n 1, 1) := by decide +kernel
theorem dX10_isOut_11 : decode cX10_isOut 11 = .ok (.iaload, 1) := by decide +kernel
theorem dX10_isOut_12 : decode cX10_isOut 12 = .ok (.if_icmp .ne 7, 3) := by decide +kernel
theorem dX10_isOut_15 : decode cX10_isOut 15 = .ok (.iconst 1, 1) := by decide +kernel
theorem dX10_isOut_16 : decode cX10_isOut 16 = .ok (.goto 4, 3) := by decide +kernel
theorem dX10_isOut_19 : decode cX10_isOut 19 = .ok (.iconst 0, 1) := by decide +kernel
theorem dX10_isOut_20 : decode cX10_isOut 20 = .ok (.ireturn, 1) := by decide +kernel
theorem dX10_isAtGate_0 : decode cX10_isAtGate 0 = .ok (.aload_n 0, 1) := by decide +kernel
theorem dX10_isAtGate_1 : decode cX10_isAtGate 1 = .ok (.getfield 22, 3) := by decide +kernel
theorem dX10_isAtGate_4 : decode cX10_isAtGate 4 = .ok (.iload_n 1, 1) := by decide +kernel
theorem dX10_isAtGate_5 : decode cX10_isAtGate 5 = .ok (.iaload, 1) := by decide +kernel
theorem dX10_isAtGate_6 : decode cX10_isAtGate 6 = .ok (.aload_n 0, 1) := by decide +kernel
theorem dX10_isAtGate_7 : decode cX10_isAtGate 7 = .ok (.getfield 43, 3) := by decide +kernel
theorem dX10_isAtGate_10 : decode cX10_isAtGate 10 = .ok (.iload_n 1, 1) := by decide +kernel
theorem dX10_isAtGate_11 : decode cX10_isAtGate 11 = .ok (.iaload, 1) := by decide +kernel
theorem dX10_isAtGate_12 : decode cX10_isAtGate 12 = .ok (.iconst 1, 1) := by decide +kernel
theorem dX10_isAtGate_13 : decode cX10_isAtGate 13 = .ok (.isub, 1) := by decide +kernel
theorem dX10_isAtGate_14 : decode cX10_isAtGate 14 = .ok (.ishr, 1) := by decide +kernel
theorem dX10_isAtGate_15 : decode cX10_isAtGate 15 = .ok (.iconst 1, 1) := by decide +kernel
theorem dX10_isAtGate_16 : decode cX10_isAtGate 16 = .ok (.iand, 1) := by decide +kernel
theorem dX10_isAtGate_17 : decode cX10_isAtGate 17 = .ok (.iconst 1, 1) := by decide +kernel
theorem dX10_isAtGate_18 : decode cX10_isAtGate 18 = .ok (.if_icmp .ne 7, 3) := by decide +kernel
theorem dX10_isAtGate_21 : decode cX10_isAtGate 21 = .ok (.iconst 1, 1) := by decide +kernel
theorem dX10_isAtGate_22 : decode cX10_isAtGate 22 = .ok (.goto 4, 3) := by decide +kernel
theorem dX10_isAtGate_25 : decode cX10_isAtGate 25 = .ok (.iconst 0, 1) := by decide +kernel
theorem dX10_isAtGate_26 : decode cX10_isAtGate 26 = .ok (.ireturn, 1) := by decide +kernel
theorem dX10_mayBegin_0 : decode cX10_mayBegin 0 = .ok (.aload_n 0, 1) := by decide +kernel
theorem dX10_mayBegin_1 : decode cX10_mayBegin 1 = .ok (.getfield 134, 3) := by decide +kernel
theorem dX10_mayBegin_4 : decode cX10_mayBegin 4 = .ok (.ifCond .ne 5, 3) := by decide +kernel
theorem dX10_mayBegin_7 : decode cX10_mayBegin 7 = .ok (.iconst 1, 1) := by decide +kernel
theorem dX10_mayBegin_8 : decode cX10_mayBegin 8 = .ok (.ireturn, 1) := by decide +kernel
theorem dX10_mayBegin_9 : decode cX10_mayBegin 9 = .ok (.aload_n 0, 1) := by decide +kernel
theorem dX10_mayBegin_10 : decode cX10_mayBegin 10 = .ok (.getfield 124, 3) := by decide +kernel
theorem dX10_mayBegin_13 : decode cX10_mayBegin 13 = .ok (.iconst 2, 1) := by decide +kernel
theorem dX10_mayBegin_14 : decode cX10_mayBegin 14 = .ok (.if_icmp .ge 33, 3) := by decide +kernel
theorem dX10_mayBegin_17 : decode cX10_mayBegin 17 = .ok (.aload_n 0, 1) := by decide +kernel
theorem dX10_mayBegin_18 : decode cX10_mayBegin 18 = .ok (.aload_n 0, 1) := by decide +kernel
theorem dX10_mayBegin_19 : decode cX10_mayBegin 19 = .ok (.getfield 124, 3) := by decide +kernel
theorem dX10_mayBegin_22 : decode cX10_mayBegin 22 = .ok (.ifCond .ne 13, 3) := by decide +kernel
theorem dX10_mayBegin_25 : decode cX10_mayBegin 25 = .ok (.aload_n 0, 1) := by decide +kernel
theorem dX10_mayBegin_26 : decode cX10_mayBegin 26 = .ok (.getfield 134, 3) := by decide +kernel
theorem dX10_mayBegin_29 : decode cX10_mayBegin 29 = .ok (.invokestatic 140, 3) := by decide +kernel
theorem dX10_mayBegin_32 : decode cX10_mayBegin 32 = .ok (.goto 11, 3) := by decide +kernel
theorem dX10_mayBegin_35 : decode cX10_mayBegin 35 = .ok (.aload_n 0, 1) := by decide +kernel
theorem dX10_mayBegin_36 : decode cX10_mayBegin 36 = .ok (.getfield 134, 3) := by decide +kernel
theorem dX10_mayBegin_39 : decode cX10_mayBegin 39 = .ok (.iconst 5, 1) := by decide +kernel
theorem dX10_mayBegin_40 : decode cX10_mayBegin 40 = .ok (.irem, 1) := by decide +kernel
theorem dX10_mayBegin_41 : decode cX10_mayBegin 41 = .ok (.iconst 1, 1) := by decide +kernel
theorem dX10_mayBegin_42 : decode cX10_mayBegin 42 = .ok (.isub, 1) := by decide +kernel
theorem dX10_mayBegin_43 : decode cX10_mayBegin 43 = .ok (.invokevirtual 143, 3) := by decide +kernel
theorem dX10_mayBegin_46 : decode cX10_mayBegin 46 = .ok (.ireturn, 1) := by decide +kernel
theorem dX10_mayBegin_47 : decode cX10_mayBegin 47 = .ok (.iconst 0, 1) := by decide +kernel
theorem dX10_mayBegin_48 : decode cX10_mayBegin 48 = .ok (.istore_n 1, 1) := by decide +kernel
theorem dX10_mayBegin_49 : decode cX10_mayBegin 49 = .ok (.aload_n 0, 1) := by decide +kernel
theorem dX10_mayBegin_50 : decode cX10_mayBegin 50 = .ok (.getfield 134, 3) := by decide +kernel
theorem dX10_mayBegin_53 : decode cX10_mayBegin 53 = .ok (.invokestatic 146, 3) := by decide +kernel
theorem dX10_mayBegin_56 : decode cX10_mayBegin 56 = .ok (.istore_n 2, 1) := by decide +kernel
theorem dX10_mayBegin_57 : decode cX10_mayBegin 57 = .ok (.iconst 0, 1) := by decide +kernel
theorem dX10_mayBegin_58 : decode cX10_mayBegin 58 = .ok (.istore_n 3, 1) := by decide +kernel
theorem dX10_mayBegin_59 : decode cX10_mayBegin 59 = .ok (.iload_n 3, 1) := by decide +kernel
theorem dX10_mayBegin_60 : decode cX10_mayBegin 60 = .ok (.iconst 4, 1) := by decide +kernel
theorem dX10_mayBegin_61 : decode cX10_mayBegin 61 = .ok (.if_icmp .ge 36, 3) := by decide +kernel
theorem dX10_mayBegin_64 : decode cX10_mayBegin 64 = .ok (.iload_n 1, 1) := by decide +kernel
theorem dX10_mayBegin_65 : decode cX10_mayBegin 65 = .ok (.ifCond .ne 20, 3) := by decide +kernel
theorem dX10_mayBegin_68 : decode cX10_mayBegin 68 = .ok (.iload_n 2, 1) := by decide +kernel
theorem dX10_mayBegin_69 : decode cX10_mayBegin 69 = .ok (.iload_n 3, 1) := by decide +kernel
theorem dX10_mayBegin_70 : decode cX10_mayBegin 70 = .ok (.ishr, 1) := by decide +kernel
theorem dX10_mayBegin_71 : decode cX10_mayBegin 71 = .ok (.iconst 1, 1) := by decide +kernel
theorem dX10_mayBegin_72 : decode cX10_mayBegin 72 = .ok (.iand, 1) := by decide +kernel
theorem dX10_mayBegin_73 : decode cX10_mayBegin 73 = .ok (.iconst 1, 1) := by decide +kernel
theorem dX10_mayBegin_74 : decode cX10_mayBegin 74 = .ok (.if_icmp .ne 15, 3) := by decide +kernel
theorem dX10_mayBegin_77 : decode cX10_mayBegin 77 = .ok (.aload_n 0, 1) := by decide +kernel
theorem dX10_mayBegin_78 : decode cX10_mayBegin 78 = .ok (.iload_n 3, 1) := by decide +kernel
theorem dX10_mayBegin_79 : decode cX10_mayBegin 79 = .ok (.invokevirtual 143, 3) := by decide +kernel
theorem dX10_mayBegin_82 : decode cX10_mayBegin 82 = .ok (.ifCond .eq 7, 3) := by decide +kernel
theorem dX10_mayBegin_85 : decode cX10_mayBegin 85 = .ok (.iconst 1, 1) := by decide +kernel
theorem dX10_mayBegin_86 : decode cX10_mayBegin 86 = .ok (.goto 4, 3) := by decide +kernel
theorem dX10_mayBegin_89 : decode cX10_mayBegin 89 = .ok (.iconst 0, 1) := by decide +kernel
theorem dX10_mayBegin_90 : decode cX10_mayBegin 90 = .ok (.istore_n 1, 1) := by decide +kernel
theorem dX10_mayBegin_91 : decode cX10_mayBegin 91 = .ok (.iinc 3 1, 3) := by decide +kernel
theorem dX10_mayBegin_94 : decode cX10_mayBegin 94 = .ok (.goto (-35), 3) := by decide +kernel
theorem dX10_mayBegin_97 : decode cX10_mayBegin 97 = .ok (.iload_n 1, 1) := by decide +kernel
theorem dX10_mayBegin_98 : decode cX10_mayBegin 98 = .ok (.ireturn, 1) := by decide +kernel
theorem dX10_hasOpen_0 : decode cX10_hasOpen 0 = .ok (.iconst 0, 1) := by decide +kernel
theorem dX10_hasOpen_1 : decode cX10_hasOpen 1 = .ok (.istore_n 2, 1) := by decide +kernel
theorem dX10_hasOpen_2 : decode cX10_hasOpen 2 = .ok (.aload_n 0, 1) := by decide +kernel
theorem dX10_hasOpen_3 : decode cX10_hasOpen 3 = .ok (.getfield 134, 3) := by decide +kernel
theorem dX10_hasOpen_6 : decode cX10_hasOpen 6 = .ok (.invokestatic 146, 3) := by decide +kernel
theorem dX10_hasOpen_9 : decode cX10_hasOpen 9 = .ok (.istore_n 3, 1) := by decide +kernel
theorem dX10_hasOpen_10 : decode cX10_hasOpen 10 = .ok (.iconst 0, 1) := by decide +kernel
theorem dX10_hasOpen_11 : decode cX10_hasOpen 11 = .ok (.istore 4, 2) := by decide +kernel
theorem dX10_hasOpen_13 : decode cX10_hasOpen 13 = .ok (.iload 4, 2) := by decide +kernel
theorem dX10_hasOpen_15 : decode cX10_hasOpen 15 = .ok (.iconst 4, 1) := by decide +kernel
theorem dX10_hasOpen_16 : decode cX10_hasOpen 16 = .ok (.if_icmp .ge 40, 3) := by decide +kernel
theorem dX10_hasOpen_19 : decode cX10_hasOpen 19 = .ok (.iload_n 2, 1) := by decide +kernel
theorem dX10_hasOpen_20 : decode cX10_hasOpen 20 = .ok (.ifCond .ne 24, 3) := by decide +kernel
theorem dX10_hasOpen_23 : decode cX10_hasOpen 23 = .ok (.iload_n 3, 1) := by decide +kernel
theorem dX10_hasOpen_24 : decode cX10_hasOpen 24 = .ok (.iload 4, 2) := by decide +kernel
theorem dX10_hasOpen_26 : decode cX10_hasOpen 26 = .ok (.ishr, 1) := by decide +kernel
theorem dX10_hasOpen_27 : decode cX10_hasOpen 27 = .ok (.iconst 1, 1) := by decide +kernel
theorem dX10_hasOpen_28 : decode cX10_hasOpen 28 = .ok (.iand, 1) := by decide +kernel
theorem dX10_hasOpen_29 : decode cX10_hasOpen 29 = .ok (.iconst 1, 1) := by decide +kernel
theorem dX10_hasOpen_30 : decode cX10_hasOpen 30 = .ok (.if_icmp .ne 18, 3) := by decide +kernel
theorem dX10_hasOpen_33 : decode cX10_hasOpen 33 = .ok (.aload_n 0, 1) := by decide +kernel
theorem dX10_hasOpen_34 : decode cX10_hasOpen 34 = .ok (.getfield 25, 3) := by decide +kernel
theorem dX10_hasOpen_37 : decode cX10_hasOpen 37 = .ok (.iload 4, 2) := by decide +kernel
theorem dX10_hasOpen_39 : decode cX10_hasOpen 39 = .ok (.iaload, 1) := by decide +kernel
theorem dX10_hasOpen_40 : decode cX10_hasOpen 40 = .ok (.iload_n 1, 1) := by decide +kernel
theorem dX10_hasOpen_41 : decode cX10_hasOpen 41 = .ok (.if_icmp .ne 7, 3) := by decide +kernel
theorem dX10_hasOpen_44 : decode cX10_hasOpen 44 = .ok (.iconst 1, 1) := by decide +kernel
theorem dX10_hasOpen_45 : decode cX10_hasOpen 45 = .ok (.goto 4, 3) := by decide +kernel
theorem dX10_hasOpen_48 : decode cX10_hasOpen 48 = .ok (.iconst 0, 1) := by decide +kernel
theorem dX10_hasOpen_49 : decode cX10_hasOpen 49 = .ok (.istore_n 2, 1) := by decide +kernel
theorem dX10_hasOpen_50 : decode cX10_hasOpen 50 = .ok (.iinc 4 1, 3) := by decide +kernel
theorem dX10_hasOpen_53 : decode cX10_hasOpen 53 = .ok (.goto (-40), 3) := by decide +kernel
theorem dX10_hasOpen_56 : decode cX10_hasOpen 56 = .ok (.iload_n 2, 1) := by decide +kernel
theorem dX10_hasOpen_57 : decode cX10_hasOpen 57 = .ok (.ireturn, 1) := by decide +kernel
theorem dX10_isWaiting_0 : decode cX10_isWaiting 0 = .ok (.iconst 0, 1) := by decide +kernel
theorem dX10_isWaiting_1 : decode cX10_isWaiting 1 = .ok (.istore 4, 2) := by decide +kernel
theorem dX10_isWaiting_3 : decode cX10_isWaiting 3 = .ok (.iconst 0, 1) := by decide +kernel
theorem dX10_isWaiting_4 : decode cX10_isWaiting 4 = .ok (.istore 5, 2) := by decide +kernel
theorem dX10_isWaiting_6 : decode cX10_isWaiting 6 = .ok (.iload 5, 2) := by decide +kernel
theorem dX10_isWaiting_8 : decode cX10_isWaiting 8 = .ok (.aload_n 0, 1) := by decide +kernel
theorem dX10_isWaiting_9 : decode cX10_isWaiting 9 = .ok (.getfield 104, 3) := by decide +kernel
theorem dX10_isWaiting_12 : decode cX10_isWaiting 12 = .ok (.if_icmp .ge 98, 3) := by decide +kernel
theorem dX10_isWaiting_15 : decode cX10_isWaiting 15 = .ok (.iload_n 3, 1) := by decide +kernel
theorem dX10_isWaiting_16 : decode cX10_isWaiting 16 = .ok (.iload 5, 2) := by decide +kernel
theorem dX10_isWaiting_18 : decode cX10_isWaiting 18 = .ok (.ishr, 1) := by decide +kernel
theorem dX10_isWaiting_19 : decode cX10_isWaiting 19 = .ok (.iconst 1, 1) := by decide +kernel
theorem dX10_isWaiting_20 : decode cX10_isWaiting 20 = .ok (.iand, 1) := by decide +kernel
theorem dX10_isWaiting_21 : decode cX10_isWaiting 21 = .ok (.ifCond .ne 22, 3) := by decide +kernel
theorem dX10_isWaiting_24 : decode cX10_isWaiting 24 = .ok (.iload_n 2, 1) := by decide +kernel
theorem dX10_isWaiting_25 : decode cX10_isWaiting 25 = .ok (.aload_n 0, 1) := by decide +kernel
theorem dX10_isWaiting_26 : decode cX10_isWaiting 26 = .ok (.getfield 37, 3) := by decide +kernel
theorem dX10_isWaiting_29 : decode cX10_isWaiting 29 = .ok (.iload 5, 2) := by decide +kernel
theorem dX10_isWaiting_31 : decode cX10_isWaiting 31 = .ok (.iaload, 1) := by decide +kernel
theorem dX10_isWaiting_32 : decode cX10_isWaiting 32 = .ok (.ishr, 1) := by decide +kernel
theorem dX10_isWaiting_33 : decode cX10_isWaiting 33 = .ok (.iconst 1, 1) := by decide +kernel
theorem dX10_isWaiting_34 : decode cX10_isWaiting 34 = .ok (.iand, 1) := by decide +kernel
theorem dX10_isWaiting_35 : decode cX10_isWaiting 35 = .ok (.iconst 1, 1) := by decide +kernel
theorem dX10_isWaiting_36 : decode cX10_isWaiting 36 = .ok (.if_icmp .ne 7, 3) := by decide +kernel
theorem dX10_isWaiting_39 : decode cX10_isWaiting 39 = .ok (.iconst 1, 1) := by decide +kernel
theorem dX10_isWaiting_40 : decode cX10_isWaiting 40 = .ok (.goto 4, 3) := by decide +kernel
theorem dX10_isWaiting_43 : decode cX10_isWaiting 43 = .ok (.iconst 0, 1) := by decide +kernel
theorem dX10_isWaiting_44 : decode cX10_isWaiting 44 = .ok (.istore 6, 2) := by decide +kernel
theorem dX10_isWaiting_46 : decode cX10_isWaiting 46 = .ok (.iload 4, 2) := by decide +kernel
theorem dX10_isWaiting_48 : decode cX10_isWaiting 48 = .ok (.ifCond .ne 49, 3) := by decide +kernel
theorem dX10_isWaiting_51 : decode cX10_isWaiting 51 = .ok (.iload 6, 2) := by decide +kernel
theorem dX10_isWaiting_53 : decode cX10_isWaiting 53 = .ok (.ifCond .eq 48, 3) := by decide +kernel
theorem dX10_isWaiting_56 : decode cX10_isWaiting 56 = .ok (.aload_n 0, 1) := by decide +kernel
theorem dX10_isWaiting_57 : decode cX10_isWaiting 57 = .ok (.getfield 31, 3) := by decide +kernel
theorem dX10_isWaiting_60 : decode cX10_isWaiting 60 = .ok (.iload 5, 2) := by decide +kernel
theorem dX10_isWaiting_62 : decode cX10_isWaiting 62 = .ok (.iaload, 1) := by decide +kernel
theorem dX10_isWaiting_63 : decode cX10_isWaiting 63 = .ok (.iload_n 1, 1) := by decide +kernel
theorem dX10_isWaiting_64 : decode cX10_isWaiting 64 = .ok (.if_icmp .ne 37, 3) := by decide +kernel
theorem dX10_isWaiting_67 : decode cX10_isWaiting 67 = .ok (.aload_n 0, 1) := by decide +kernel
theorem dX10_isWaiting_68 : decode cX10_isWaiting 68 = .ok (.getfield 34, 3) := by decide +kernel
theorem dX10_isWaiting_71 : decode cX10_isWaiting 71 = .ok (.iload 5, 2) := by decide +kernel
theorem dX10_isWaiting_73 : decode cX10_isWaiting 73 = .ok (.iaload, 1) := by decide +kernel
theorem dX10_isWaiting_74 : decode cX10_isWaiting 74 = .ok (.aload_n 0, 1) := by decide +kernel
theorem dX10_isWaiting_75 : decode cX10_isWaiting 75 = .ok (.getfield 43, 3) := by decide +kernel
theorem dX10_isWaiting_78 : decode cX10_isWaiting 78 = .ok (.iload_n 1, 1) := by decide +kernel
theorem dX10_isWaiting_79 : decode cX10_isWaiting 79 = .ok (.iaload, 1) := by decide +kernel
theorem dX10_isWaiting_80 : decode cX10_isWaiting 80 = .ok (.if_icmp .ne 21, 3) := by decide +kernel
theorem dX10_isWaiting_83 : decode cX10_isWaiting 83 = .ok (.aload_n 0, 1) := by decide +kernel
theorem dX10_isWaiting_84 : decode cX10_isWaiting 84 = .ok (.aload_n 0, 1) := by decide +kernel
theorem dX10_isWaiting_85 : decode cX10_isWaiting 85 = .ok (.getfield 37, 3) := by decide +kernel
theorem dX10_isWaiting_88 : decode cX10_isWaiting 88 = .ok (.iload 5, 2) := by decide +kernel
theorem dX10_isWaiting_90 : decode cX10_isWaiting 90 = .ok (.iaload, 1) := by decide +kernel
theorem dX10_isWaiting_91 : decode cX10_isWaiting 91 = .ok (.invokevirtual 149, 3) := by decide +kernel
theorem dX10_isWaiting_94 : decode cX10_isWaiting 94 = .ok (.ifCond .ne 7, 3) := by decide +kernel
theorem dX10_isWaiting_97 : decode cX10_isWaiting 97 = .ok (.iconst 1, 1) := by decide +kernel
theorem dX10_isWaiting_98 : decode cX10_isWaiting 98 = .ok (.goto 4, 3) := by decide +kernel
theorem dX10_isWaiting_101 : decode cX10_isWaiting 101 = .ok (.iconst 0, 1) := by decide +kernel
theorem dX10_isWaiting_102 : decode cX10_isWaiting 102 = .ok (.istore 4, 2) := by decide +kernel
theorem dX10_isWaiting_104 : decode cX10_isWaiting 104 = .ok (.iinc 5 1, 3) := by decide +kernel
theorem dX10_isWaiting_107 : decode cX10_isWaiting 107 = .ok (.goto (-101), 3) := by decide +kernel
theorem dX10_isWaiting_110 : decode cX10_isWaiting 110 = .ok (.iload 4, 2) := by decide +kernel
theorem dX10_isWaiting_112 : decode cX10_isWaiting 112 = .ok (.ireturn, 1) := by decide +kernel
theorem dX10_why_0 : decode cX10_why 0 = .ok (.aload_n 0, 1) := by decide +kernel
theorem dX10_why_1 : decode cX10_why 1 = .ok (.iload_n 1, 1) := by decide +kernel
theorem dX10_why_2 : decode cX10_why 2 = .ok (.invokevirtual 149, 3) := by decide +kernel
theorem dX10_why_5 : decode cX10_why 5 = .ok (.ifCond .eq 5, 3) := by decide +kernel
theorem dX10_why_8 : decode cX10_why 8 = .ok (.iconst 1, 1) := by decide +kernel
theorem dX10_why_9 : decode cX10_why 9 = .ok (.ireturn, 1) := by decide +kernel
theorem dX10_why_10 : decode cX10_why 10 = .ok (.aload_n 0, 1) := by decide +kernel
theorem dX10_why_11 : decode cX10_why 11 = .ok (.getfield 43, 3) := by decide +kernel
theorem dX10_why_14 : decode cX10_why 14 = .ok (.iload_n 1, 1) := by decide +kernel
theorem dX10_why_15 : decode cX10_why 15 = .ok (.iaload, 1) := by decide +kernel
theorem dX10_why_16 : decode cX10_why 16 = .ok (.ifCond .le 73, 3) := by decide +kernel
theorem dX10_why_19 : decode cX10_why 19 = .ok (.aload_n 0, 1) := by decide +kernel
theorem dX10_why_20 : decode cX10_why 20 = .ok (.getfield 124, 3) := by decide +kernel
theorem dX10_why_23 : decode cX10_why 23 = .ok (.iconst 2, 1) := by decide +kernel
theorem dX10_why_24 : decode cX10_why 24 = .ok (.if_icmp .eq 32, 3) := by decide +kernel
theorem dX10_why_27 : decode cX10_why 27 = .ok (.iload_n 1, 1) := by decide +kernel
theorem dX10_why_28 : decode cX10_why 28 = .ok (.aload_n 0, 1) := by decide +kernel
theorem dX10_why_29 : decode cX10_why 29 = .ok (.getfield 124, 3) := by decide +kernel
theorem dX10_why_32 : decode cX10_why 32 = .ok (.ifCond .ne 13, 3) := by decide +kernel
theorem dX10_why_35 : decode cX10_why 35 = .ok (.aload_n 0, 1) := by decide +kernel
theorem dX10_why_36 : decode cX10_why 36 = .ok (.getfield 134, 3) := by decide +kernel
theorem dX10_why_39 : decode cX10_why 39 = .ok (.invokestatic 140, 3) := by decide +kernel
theorem dX10_why_42 : decode cX10_why 42 = .ok (.goto 11, 3) := by decide +kernel
theorem dX10_why_45 : decode cX10_why 45 = .ok (.aload_n 0, 1) := by decide +kernel
theorem dX10_why_46 : decode cX10_why 46 = .ok (.getfield 134, 3) := by decide +kernel
theorem dX10_why_49 : decode cX10_why 49 = .ok (.iconst 5, 1) := by decide +kernel
theorem dX10_why_50 : decode cX10_why 50 = .ok (.irem, 1) := by decide +kernel
theorem dX10_why_51 : decode cX10_why 51 = .ok (.iconst 1, 1) := by decide +kernel
theorem dX10_why_52 : decode cX10_why 52 = .ok (.isub, 1) := by decide +kernel
theorem dX10_why_53 : decode cX10_why 53 = .ok (.if_icmp .ne 7, 3) := by decide +kernel
theorem dX10_why_56 : decode cX10_why 56 = .ok (.iconst 1, 1) := by decide +kernel
theorem dX10_why_57 : decode cX10_why 57 = .ok (.goto 4, 3) := by decide +kernel
theorem dX10_why_60 : decode cX10_why 60 = .ok (.iconst 0, 1) := by decide +kernel
theorem dX10_why_61 : decode cX10_why 61 = .ok (.istore 4, 2) := by decide +kernel
theorem dX10_why_63 : decode cX10_why 63 = .ok (.iload 4, 2) := by decide +kernel
theorem dX10_why_65 : decode cX10_why 65 = .ok (.ifCond .ne 7, 3) := by decide +kernel
theorem dX10_why_68 : decode cX10_why 68 = .ok (.iconst 2, 1) := by decide +kernel
theorem dX10_why_69 : decode cX10_why 69 = .ok (.goto 19, 3) := by decide +kernel
theorem dX10_why_72 : decode cX10_why 72 = .ok (.aload_n 0, 1) := by decide +kernel
theorem dX10_why_73 : decode cX10_why 73 = .ok (.iload_n 1, 1) := by decide +kernel
theorem dX10_why_74 : decode cX10_why 74 = .ok (.iload_n 2, 1) := by decide +kernel
theorem dX10_why_75 : decode cX10_why 75 = .ok (.iload_n 3, 1) := by decide +kernel
theorem dX10_why_76 : decode cX10_why 76 = .ok (.invokevirtual 152, 3) := by decide +kernel
theorem dX10_why_79 : decode cX10_why 79 = .ok (.ifCond .eq 7, 3) := by decide +kernel
theorem dX10_why_82 : decode cX10_why 82 = .ok (.iconst 5, 1) := by decide +kernel
theorem dX10_why_83 : decode cX10_why 83 = .ok (.goto 5, 3) := by decide +kernel
theorem dX10_why_86 : decode cX10_why 86 = .ok (.bipush (-6), 2) := by decide +kernel
theorem dX10_why_88 : decode cX10_why 88 = .ok (.ireturn, 1) := by decide +kernel
theorem dX10_why_89 : decode cX10_why 89 = .ok (.aload_n 0, 1) := by decide +kernel
theorem dX10_why_90 : decode cX10_why 90 = .ok (.invokevirtual 156, 3) := by decide +kernel
theorem dX10_why_93 : decode cX10_why 93 = .ok (.ifCond .ne 5, 3) := by decide +kernel
theorem dX10_why_96 : decode cX10_why 96 = .ok (.iconst 3, 1) := by decide +kernel
theorem dX10_why_97 : decode cX10_why 97 = .ok (.ireturn, 1) := by decide +kernel
theorem dX10_why_98 : decode cX10_why 98 = .ok (.aload_n 0, 1) := by decide +kernel
theorem dX10_why_99 : decode cX10_why 99 = .ok (.aload_n 0, 1) := by decide +kernel
theorem dX10_why_100 : decode cX10_why 100 = .ok (.getfield 25, 3) := by decide +kernel
theorem dX10_why_103 : decode cX10_why 103 = .ok (.iload_n 1, 1) := by decide +kernel
theorem dX10_why_104 : decode cX10_why 104 = .ok (.iaload, 1) := by decide +kernel
theorem dX10_why_105 : decode cX10_why 105 = .ok (.invokevirtual 160, 3) := by decide +kernel
theorem dX10_why_108 : decode cX10_why 108 = .ok (.ifCond .eq 7, 3) := by decide +kernel
theorem dX10_why_111 : decode cX10_why 111 = .ok (.iconst 4, 1) := by decide +kernel
theorem dX10_why_112 : decode cX10_why 112 = .ok (.goto 19, 3) := by decide +kernel
theorem dX10_why_115 : decode cX10_why 115 = .ok (.aload_n 0, 1) := by decide +kernel
theorem dX10_why_116 : decode cX10_why 116 = .ok (.iload_n 1, 1) := by decide +kernel
theorem dX10_why_117 : decode cX10_why 117 = .ok (.iload_n 2, 1) := by decide +kernel
theorem dX10_why_118 : decode cX10_why 118 = .ok (.iload_n 3, 1) := by decide +kernel
theorem dX10_why_119 : decode cX10_why 119 = .ok (.invokevirtual 152, 3) := by decide +kernel
theorem dX10_why_122 : decode cX10_why 122 = .ok (.ifCond .eq 7, 3) := by decide +kernel
theorem dX10_why_125 : decode cX10_why 125 = .ok (.iconst 5, 1) := by decide +kernel
theorem dX10_why_126 : decode cX10_why 126 = .ok (.goto 5, 3) := by decide +kernel
theorem dX10_why_129 : decode cX10_why 129 = .ok (.bipush (-6), 2) := by decide +kernel
theorem dX10_why_131 : decode cX10_why 131 = .ok (.ireturn, 1) := by decide +kernel
theorem dX10_tell_0 : decode cX10_tell 0 = .ok (.aload_n 0, 1) := by decide +kernel
theorem dX10_tell_1 : decode cX10_tell 1 = .ok (.aload_n 0, 1) := by decide +kernel
theorem dX10_tell_2 : decode cX10_tell 2 = .ok (.getfield 43, 3) := by decide +kernel
theorem dX10_tell_5 : decode cX10_tell 5 = .ok (.iload_n 1, 1) := by decide +kernel
theorem dX10_tell_6 : decode cX10_tell 6 = .ok (.iaload, 1) := by decide +kernel
theorem dX10_tell_7 : decode cX10_tell 7 = .ok (.ifCond .ne 14, 3) := by decide +kernel
theorem dX10_tell_10 : decode cX10_tell 10 = .ok (.aload_n 0, 1) := by decide +kernel
theorem dX10_tell_11 : decode cX10_tell 11 = .ok (.getfield 134, 3) := by decide +kernel
theorem dX10_tell_14 : decode cX10_tell 14 = .ok (.iload_n 1, 1) := by decide +kernel
theorem dX10_tell_15 : decode cX10_tell 15 = .ok (.invokestatic 163, 3) := by decide +kernel
theorem dX10_tell_18 : decode cX10_tell 18 = .ok (.goto 7, 3) := by decide +kernel
theorem dX10_tell_21 : decode cX10_tell 21 = .ok (.aload_n 0, 1) := by decide +kernel
theorem dX10_tell_22 : decode cX10_tell 22 = .ok (.getfield 134, 3) := by decide +kernel
theorem dX10_tell_25 : decode cX10_tell 25 = .ok (.putfield 134, 3) := by decide +kernel
theorem dX10_tell_28 : decode cX10_tell 28 = .ok (.aload_n 0, 1) := by decide +kernel
theorem dX10_tell_29 : decode cX10_tell 29 = .ok (.getfield 134, 3) := by decide +kernel
theorem dX10_tell_32 : decode cX10_tell 32 = .ok (.invokestatic 146, 3) := by decide +kernel
theorem dX10_tell_35 : decode cX10_tell 35 = .ok (.invokestatic 166, 3) := by decide +kernel
theorem dX10_tell_38 : decode cX10_tell 38 = .ok (.istore_n 2, 1) := by decide +kernel
theorem dX10_tell_39 : decode cX10_tell 39 = .ok (.aload_n 0, 1) := by decide +kernel
theorem dX10_tell_40 : decode cX10_tell 40 = .ok (.getfield 43, 3) := by decide +kernel
theorem dX10_tell_43 : decode cX10_tell 43 = .ok (.iload_n 1, 1) := by decide +kernel
theorem dX10_tell_44 : decode cX10_tell 44 = .ok (.dup2, 1) := by decide +kernel
theorem dX10_tell_45 : decode cX10_tell 45 = .ok (.iaload, 1) := by decide +kernel
theorem dX10_tell_46 : decode cX10_tell 46 = .ok (.iconst 1, 1) := by decide +kernel
theorem dX10_tell_47 : decode cX10_tell 47 = .ok (.iadd, 1) := by decide +kernel
theorem dX10_tell_48 : decode cX10_tell 48 = .ok (.iastore, 1) := by decide +kernel
theorem dX10_tell_49 : decode cX10_tell 49 = .ok (.aload_n 0, 1) := by decide +kernel
theorem dX10_tell_50 : decode cX10_tell 50 = .ok (.aload_n 0, 1) := by decide +kernel
theorem dX10_tell_51 : decode cX10_tell 51 = .ok (.iload_n 1, 1) := by decide +kernel
theorem dX10_tell_52 : decode cX10_tell 52 = .ok (.invokevirtual 149, 3) := by decide +kernel
theorem dX10_tell_55 : decode cX10_tell 55 = .ok (.ifCond .eq 14, 3) := by decide +kernel
theorem dX10_tell_58 : decode cX10_tell 58 = .ok (.aload_n 0, 1) := by decide +kernel
theorem dX10_tell_59 : decode cX10_tell 59 = .ok (.getfield 134, 3) := by decide +kernel
theorem dX10_tell_62 : decode cX10_tell 62 = .ok (.iload_n 1, 1) := by decide +kernel
theorem dX10_tell_63 : decode cX10_tell 63 = .ok (.invokestatic 169, 3) := by decide +kernel
theorem dX10_tell_66 : decode cX10_tell 66 = .ok (.goto 7, 3) := by decide +kernel
theorem dX10_tell_69 : decode cX10_tell 69 = .ok (.aload_n 0, 1) := by decide +kernel
theorem dX10_tell_70 : decode cX10_tell 70 = .ok (.getfield 134, 3) := by decide +kernel
theorem dX10_tell_73 : decode cX10_tell 73 = .ok (.putfield 134, 3) := by decide +kernel
theorem dX10_tell_76 : decode cX10_tell 76 = .ok (.iload_n 2, 1) := by decide +kernel
theorem dX10_tell_77 : decode cX10_tell 77 = .ok (.ireturn, 1) := by decide +kernel
theorem dX10_partMinutes_0 : decode cX10_partMinutes 0 = .ok (.aload_n 0, 1) := by decide +kernel
theorem dX10_partMinutes_1 : decode cX10_partMinutes 1 = .ok (.getfield 19, 3) := by decide +kernel
theorem dX10_partMinutes_4 : decode cX10_partMinutes 4 = .ok (.iconst 4, 1) := by decide +kernel
theorem dX10_partMinutes_5 : decode cX10_partMinutes 5 = .ok (.iload_n 1, 1) := by decide +kernel
theorem dX10_partMinutes_6 : decode cX10_partMinutes 6 = .ok (.imul, 1) := by decide +kernel
theorem dX10_partMinutes_7 : decode cX10_partMinutes 7 = .ok (.aload_n 0, 1) := by decide +kernel
theorem dX10_partMinutes_8 : decode cX10_partMinutes 8 = .ok (.getfield 43, 3) := by decide +kernel
theorem dX10_partMinutes_11 : decode cX10_partMinutes 11 = .ok (.iload_n 1, 1) := by decide +kernel
theorem dX10_partMinutes_12 : decode cX10_partMinutes 12 = .ok (.iaload, 1) := by decide +kernel
theorem dX10_partMinutes_13 : decode cX10_partMinutes 13 = .ok (.iadd, 1) := by decide +kernel
theorem dX10_partMinutes_14 : decode cX10_partMinutes 14 = .ok (.iaload, 1) := by decide +kernel
theorem dX10_partMinutes_15 : decode cX10_partMinutes 15 = .ok (.ireturn, 1) := by decide +kernel
theorem dX10_goEvening_0 : decode cX10_goEvening 0 = .ok (.aload_n 0, 1) := by decide +kernel
theorem dX10_goEvening_1 : decode cX10_goEvening 1 = .ok (.iconst 0, 1) := by decide +kernel
theorem dX10_goEvening_2 : decode cX10_goEvening 2 = .ok (.invokevirtual 172, 3) := by decide +kernel
theorem dX10_goEvening_5 : decode cX10_goEvening 5 = .ok (.aload_n 0, 1) := by decide +kernel
theorem dX10_goEvening_6 : decode cX10_goEvening 6 = .ok (.bipush (-6), 2) := by decide +kernel
theorem dX10_goEvening_8 : decode cX10_goEvening 8 = .ok (.putfield 175, 3) := by decide +kernel
theorem dX10_goEvening_11 : decode cX10_goEvening 11 = .ok (.aload_n 0, 1) := by decide +kernel
theorem dX10_goEvening_12 : decode cX10_goEvening 12 = .ok (.bipush (-6), 2) := by decide +kernel
theorem dX10_goEvening_14 : decode cX10_goEvening 14 = .ok (.putfield 178, 3) := by decide +kernel
theorem dX10_goEvening_17 : decode cX10_goEvening 17 = .ok (.aload_n 0, 1) := by decide +kernel
theorem dX10_goEvening_18 : decode cX10_goEvening 18 = .ok (.iconst 0, 1) := by decide +kernel
theorem dX10_goEvening_19 : decode cX10_goEvening 19 = .ok (.putfield 181, 3) := by decide +kernel
theorem dX10_goEvening_22 : decode cX10_goEvening 22 = .ok (.aload_n 0, 1) := by decide +kernel
theorem dX10_goEvening_23 : decode cX10_goEvening 23 = .ok (.iconst 0, 1) := by decide +kernel
theorem dX10_goEvening_24 : decode cX10_goEvening 24 = .ok (.putfield 184, 3) := by decide +kernel
theorem dX10_goEvening_27 : decode cX10_goEvening 27 = .ok (.iconst 0, 1) := by decide +kernel
theorem dX10_goEvening_28 : decode cX10_goEvening 28 = .ok (.istore_n 1, 1) := by decide +kernel
theorem dX10_goEvening_29 : decode cX10_goEvening 29 = .ok (.iload_n 1, 1) := by decide +kernel
theorem dX10_goEvening_30 : decode cX10_goEvening 30 = .ok (.aload_n 0, 1) := by decide +kernel
theorem dX10_goEvening_31 : decode cX10_goEvening 31 = .ok (.getfield 85, 3) := by decide +kernel
theorem dX10_goEvening_34 : decode cX10_goEvening 34 = .ok (.if_icmp .ge 145, 3) := by decide +kernel
theorem dX10_goEvening_37 : decode cX10_goEvening 37 = .ok (.aload_n 0, 1) := by decide +kernel
theorem dX10_goEvening_38 : decode cX10_goEvening 38 = .ok (.getfield 175, 3) := by decide +kernel
theorem dX10_goEvening_41 : decode cX10_goEvening 41 = .ok (.ifCond .ge 138, 3) := by decide +kernel
theorem dX10_goEvening_44 : decode cX10_goEvening 44 = .ok (.aload_n 0, 1) := by decide +kernel
theorem dX10_goEvening_45 : decode cX10_goEvening 45 = .ok (.getfield 40, 3) := by decide +kernel
theorem dX10_goEvening_48 : decode cX10_goEvening 48 = .ok (.iload_n 1, 1) := by decide +kernel
theorem dX10_goEvening_49 : decode cX10_goEvening 49 = .ok (.iaload, 1) := by decide +kernel
theorem dX10_goEvening_50 : decode cX10_goEvening 50 = .ok (.bipush 97, 2) := by decide +kernel
theorem dX10_goEvening_52 : decode cX10_goEvening 52 = .ok (.isub, 1) := by decide +kernel
theorem dX10_goEvening_53 : decode cX10_goEvening 53 = .ok (.istore_n 2, 1) := by decide +kernel
theorem dX10_goEvening_54 : decode cX10_goEvening 54 = .ok (.aload_n 0, 1) := by decide +kernel
theorem dX10_goEvening_55 : decode cX10_goEvening 55 = .ok (.iload_n 2, 1) := by decide +kernel
theorem dX10_goEvening_56 : decode cX10_goEvening 56 = .ok (.bipush 15, 2) := by decide +kernel
theorem dX10_goEvening_58 : decode cX10_goEvening 58 = .ok (.iconst 0, 1) := by decide +kernel
theorem dX10_goEvening_59 : decode cX10_goEvening 59 = .ok (.invokevirtual 187, 3) := by decide +kernel
theorem dX10_goEvening_62 : decode cX10_goEvening 62 = .ok (.istore_n 3, 1) := by decide +kernel
theorem dX10_goEvening_63 : decode cX10_goEvening 63 = .ok (.iload_n 3, 1) := by decide +kernel
theorem dX10_goEvening_64 : decode cX10_goEvening 64 = .ok (.ifCond .lt 16, 3) := by decide +kernel
theorem dX10_goEvening_67 : decode cX10_goEvening 67 = .ok (.aload_n 0, 1) := by decide +kernel
theorem dX10_goEvening_68 : decode cX10_goEvening 68 = .ok (.iload_n 1, 1) := by decide +kernel
theorem dX10_goEvening_69 : decode cX10_goEvening 69 = .ok (.putfield 175, 3) := by decide +kernel
theorem dX10_goEvening_72 : decode cX10_goEvening 72 = .ok (.aload_n 0, 1) := by decide +kernel
theorem dX10_goEvening_73 : decode cX10_goEvening 73 = .ok (.iload_n 3, 1) := by decide +kernel
theorem dX10_goEvening_74 : decode cX10_goEvening 74 = .ok (.putfield 178, 3) := by decide +kernel
theorem dX10_goEvening_77 : decode cX10_goEvening 77 = .ok (.goto 96, 3) := by decide +kernel
theorem dX10_goEvening_80 : decode cX10_goEvening 80 = .ok (.iload_n 1, 1) := by decide +kernel
theorem dX10_goEvening_81 : decode cX10_goEvening 81 = .ok (.ifCond .le 32, 3) := by decide +kernel
theorem dX10_goEvening_84 : decode cX10_goEvening 84 = .ok (.aload_n 0, 1) := by decide +kernel
theorem dX10_goEvening_85 : decode cX10_goEvening 85 = .ok (.getfield 25, 3) := by decide +kernel
theorem dX10_goEvening_88 : decode cX10_goEvening 88 = .ok (.aload_n 0, 1) := by decide +kernel
theorem dX10_goEvening_89 : decode cX10_goEvening 89 = .ok (.getfield 40, 3) := by decide +kernel
theorem dX10_goEvening_92 : decode cX10_goEvening 92 = .ok (.iload_n 1, 1) := by decide +kernel
theorem dX10_goEvening_93 : decode cX10_goEvening 93 = .ok (.iconst 1, 1) := by decide +kernel
theorem dX10_goEvening_94 : decode cX10_goEvening 94 = .ok (.isub, 1) := by decide +kernel
theorem dX10_goEvening_95 : decode cX10_goEvening 95 = .ok (.iaload, 1) := by decide +kernel
theorem dX10_goEvening_96 : decode cX10_goEvening 96 = .ok (.bipush 97, 2) := by decide +kernel
theorem dX10_goEvening_98 : decode cX10_goEvening 98 = .ok (.isub, 1) := by decide +kernel
theorem dX10_goEvening_99 : decode cX10_goEvening 99 = .ok (.iaload, 1) := by decide +kernel
theorem dX10_goEvening_100 : decode cX10_goEvening 100 = .ok (.aload_n 0, 1) := by decide +kernel
theorem dX10_goEvening_101 : decode cX10_goEvening 101 = .ok (.getfield 25, 3) := by decide +kernel
theorem dX10_goEvening_104 : decode cX10_goEvening 104 = .ok (.iload_n 2, 1) := by decide +kernel
theorem dX10_goEvening_105 : decode cX10_goEvening 105 = .ok (.iaload, 1) := by decide +kernel
theorem dX10_goEvening_106 : decode cX10_goEvening 106 = .ok (.if_icmp .eq 7, 3) := by decide +kernel
theorem dX10_goEvening_109 : decode cX10_goEvening 109 = .ok (.iconst 1, 1) := by decide +kernel
theorem dX10_goEvening_110 : decode cX10_goEvening 110 = .ok (.goto 4, 3) := by decide +kernel
theorem dX10_goEvening_113 : decode cX10_goEvening 113 = .ok (.iconst 0, 1) := by decide +kernel
theorem dX10_goEvening_114 : decode cX10_goEvening 114 = .ok (.istore 4, 2) := by decide +kernel
theorem dX10_goEvening_116 : decode cX10_goEvening 116 = .ok (.aload_n 0, 1) := by decide +kernel
theorem dX10_goEvening_117 : decode cX10_goEvening 117 = .ok (.dup, 1) := by decide +kernel
theorem dX10_goEvening_118 : decode cX10_goEvening 118 = .ok (.getfield 184, 3) := by decide +kernel
theorem dX10_goEvening_121 : decode cX10_goEvening 121 = .ok (.aload_n 0, 1) := by decide +kernel
theorem dX10_goEvening_122 : decode cX10_goEvening 122 = .ok (.iload_n 2, 1) := by decide +kernel
theorem dX10_goEvening_123 : decode cX10_goEvening 123 = .ok (.invokevirtual 191, 3) := by decide +kernel
theorem dX10_goEvening_126 : decode cX10_goEvening 126 = .ok (.iload 4, 2) := by decide +kernel
theorem dX10_goEvening_128 : decode cX10_goEvening 128 = .ok (.ifCond .eq 10, 3) := by decide +kernel
theorem dX10_goEvening_131 : decode cX10_goEvening 131 = .ok (.aload_n 0, 1) := by decide +kernel
theorem dX10_goEvening_132 : decode cX10_goEvening 132 = .ok (.getfield 127, 3) := by decide +kernel
theorem dX10_goEvening_135 : decode cX10_goEvening 135 = .ok (.goto 4, 3) := by decide +kernel
theorem dX10_goEvening_138 : decode cX10_goEvening 138 = .ok (.iconst 0, 1) := by decide +kernel
theorem dX10_goEvening_139 : decode cX10_goEvening 139 = .ok (.iadd, 1) := by decide +kernel
theorem dX10_goEvening_140 : decode cX10_goEvening 140 = .ok (.iadd, 1) := by decide +kernel
theorem dX10_goEvening_141 : decode cX10_goEvening 141 = .ok (.putfield 184, 3) := by decide +kernel
theorem dX10_goEvening_144 : decode cX10_goEvening 144 = .ok (.aload_n 0, 1) := by decide +kernel
theorem dX10_goEvening_145 : decode cX10_goEvening 145 = .ok (.iload_n 2, 1) := by decide +kernel
theorem dX10_goEvening_146 : decode cX10_goEvening 146 = .ok (.invokevirtual 194, 3) := by decide +kernel
theorem dX10_goEvening_149 : decode cX10_goEvening 149 = .ok (.istore 5, 2) := by decide +kernel
theorem dX10_goEvening_151 : decode cX10_goEvening 151 = .ok (.aload_n 0, 1) := by decide +kernel
theorem dX10_goEvening_152 : decode cX10_goEvening 152 = .ok (.iload 5, 2) := by decide +kernel
theorem dX10_goEvening_154 : decode cX10_goEvening 154 = .ok (.aload_n 0, 1) := by decide +kernel
theorem dX10_goEvening_155 : decode cX10_goEvening 155 = .ok (.getfield 181, 3) := by decide +kernel
theorem dX10_goEvening_158 : decode cX10_goEvening 158 = .ok (.if_icmp .le 8, 3) := by decide +kernel
theorem dX10_goEvening_161 : decode cX10_goEvening 161 = .ok (.iload 5, 2) := by decide +kernel
theorem dX10_goEvening_163 : decode cX10_goEvening 163 = .ok (.goto 7, 3) := by decide +kernel
theorem dX10_goEvening_166 : decode cX10_goEvening 166 = .ok (.aload_n 0, 1) := by decide +kernel
theorem dX10_goEvening_167 : decode cX10_goEvening 167 = .ok (.getfield 181, 3) := by decide +kernel
theorem dX10_goEvening_170 : decode cX10_goEvening 170 = .ok (.putfield 181, 3) := by decide +kernel
theorem dX10_goEvening_173 : decode cX10_goEvening 173 = .ok (.iinc 1 1, 3) := by decide +kernel
theorem dX10_goEvening_176 : decode cX10_goEvening 176 = .ok (.goto (-147), 3) := by decide +kernel
theorem dX10_goEvening_179 : decode cX10_goEvening 179 = .ok (.return_, 1) := by decide +kernel
theorem dX10_judge_0 : decode cX10_judge 0 = .ok (.iload_n 1, 1) := by decide +kernel
theorem dX10_judge_1 : decode cX10_judge 1 = .ok (.i2l, 1) := by decide +kernel
theorem dX10_judge_2 : decode cX10_judge 2 = .ok (.lconst 0, 1) := by decide +kernel
theorem dX10_judge_3 : decode cX10_judge 3 = .ok (.lconst 1, 1) := by decide +kernel
theorem dX10_judge_4 : decode cX10_judge 4 = .ok (.invokestatic 77, 3) := by decide +kernel
theorem dX10_judge_7 : decode cX10_judge 7 = .ok (.ifCond .ne 6, 3) := by decide +kernel
theorem dX10_judge_10 : decode cX10_judge 10 = .ok (.bipush (-2), 2) := by decide +kernel
theorem dX10_judge_12 : decode cX10_judge 12 = .ok (.ireturn, 1) := by decide +kernel
theorem dX10_judge_13 : decode cX10_judge 13 = .ok (.aload_n 0, 1) := by decide +kernel
theorem dX10_judge_14 : decode cX10_judge 14 = .ok (.iconst 1, 1) := by decide +kernel
theorem dX10_judge_15 : decode cX10_judge 15 = .ok (.invokevirtual 197, 3) := by decide +kernel
theorem dX10_judge_18 : decode cX10_judge 18 = .ok (.ifCond .lt 6, 3) := by decide +kernel
theorem dX10_judge_21 : decode cX10_judge 21 = .ok (.bipush (-5), 2) := by decide +kernel
theorem dX10_judge_23 : decode cX10_judge 23 = .ok (.ireturn, 1) := by decide +kernel
theorem dX10_judge_24 : decode cX10_judge 24 = .ok (.aload_n 0, 1) := by decide +kernel
theorem dX10_judge_25 : decode cX10_judge 25 = .ok (.invokevirtual 200, 3) := by decide +kernel
theorem dX10_judge_28 : decode cX10_judge 28 = .ok (.iload_n 1, 1) := by decide +kernel
theorem dX10_judge_29 : decode cX10_judge 29 = .ok (.ifCond .ne 10, 3) := by decide +kernel
theorem dX10_judge_32 : decode cX10_judge 32 = .ok (.aload_n 0, 1) := by decide +kernel
theorem dX10_judge_33 : decode cX10_judge 33 = .ok (.getfield 175, 3) := by decide +kernel
theorem dX10_judge_36 : decode cX10_judge 36 = .ok (.goto 7, 3) := by decide +kernel
theorem dX10_judge_39 : decode cX10_judge 39 = .ok (.aload_n 0, 1) := by decide +kernel
theorem dX10_judge_40 : decode cX10_judge 40 = .ok (.getfield 178, 3) := by decide +kernel
theorem dX10_judge_43 : decode cX10_judge 43 = .ok (.ireturn, 1) := by decide +kernel
theorem dX10_evening_0 : decode cX10_evening 0 = .ok (.iload_n 1, 1) := by decide +kernel
theorem dX10_evening_1 : decode cX10_evening 1 = .ok (.i2l, 1) := by decide +kernel
theorem dX10_evening_2 : decode cX10_evening 2 = .ok (.lconst 0, 1) := by decide +kernel
theorem dX10_evening_3 : decode cX10_evening 3 = .ok (.ldc2_w 120, 3) := by decide +kernel
theorem dX10_evening_6 : decode cX10_evening 6 = .ok (.invokestatic 77, 3) := by decide +kernel
theorem dX10_evening_9 : decode cX10_evening 9 = .ok (.ifCond .ne 6, 3) := by decide +kernel
theorem dX10_evening_12 : decode cX10_evening 12 = .ok (.bipush (-2), 2) := by decide +kernel
theorem dX10_evening_14 : decode cX10_evening 14 = .ok (.ireturn, 1) := by decide +kernel
theorem dX10_evening_15 : decode cX10_evening 15 = .ok (.aload_n 0, 1) := by decide +kernel
theorem dX10_evening_16 : decode cX10_evening 16 = .ok (.iconst 1, 1) := by decide +kernel
theorem dX10_evening_17 : decode cX10_evening 17 = .ok (.invokevirtual 197, 3) := by decide +kernel
theorem dX10_evening_20 : decode cX10_evening 20 = .ok (.ifCond .lt 6, 3) := by decide +kernel
theorem dX10_evening_23 : decode cX10_evening 23 = .ok (.bipush (-5), 2) := by decide +kernel
theorem dX10_evening_25 : decode cX10_evening 25 = .ok (.ireturn, 1) := by decide +kernel
theorem dX10_evening_26 : decode cX10_evening 26 = .ok (.aload_n 0, 1) := by decide +kernel
theorem dX10_evening_27 : decode cX10_evening 27 = .ok (.invokevirtual 200, 3) := by decide +kernel
theorem dX10_evening_30 : decode cX10_evening 30 = .ok (.aload_n 0, 1) := by decide +kernel
theorem dX10_evening_31 : decode cX10_evening 31 = .ok (.getfield 175, 3) := by decide +kernel
theorem dX10_evening_34 : decode cX10_evening 34 = .ok (.ifCond .lt 6, 3) := by decide +kernel
theorem dX10_evening_37 : decode cX10_evening 37 = .ok (.bipush (-3), 2) := by decide +kernel
theorem dX10_evening_39 : decode cX10_evening 39 = .ok (.ireturn, 1) := by decide +kernel
theorem dX10_evening_40 : decode cX10_evening 40 = .ok (.iload_n 1, 1) := by decide +kernel
theorem dX10_evening_41 : decode cX10_evening 41 = .ok (.ifCond .ne 13, 3) := by decide +kernel
theorem dX10_evening_44 : decode cX10_evening 44 = .ok (.aload_n 0, 1) := by decide +kernel
theorem dX10_evening_45 : decode cX10_evening 45 = .ok (.getfield 134, 3) := by decide +kernel
theorem dX10_evening_48 : decode cX10_evening 48 = .ok (.invokestatic 146, 3) := by decide +kernel
theorem dX10_evening_51 : decode cX10_evening 51 = .ok (.goto 19, 3) := by decide +kernel
theorem dX10_evening_54 : decode cX10_evening 54 = .ok (.iload_n 1, 1) := by decide +kernel
theorem dX10_evening_55 : decode cX10_evening 55 = .ok (.iconst 1, 1) := by decide +kernel
theorem dX10_evening_56 : decode cX10_evening 56 = .ok (.if_icmp .ne 10, 3) := by decide +kernel
theorem dX10_evening_59 : decode cX10_evening 59 = .ok (.aload_n 0, 1) := by decide +kernel
theorem dX10_evening_60 : decode cX10_evening 60 = .ok (.getfield 181, 3) := by decide +kernel
theorem dX10_evening_63 : decode cX10_evening 63 = .ok (.goto 7, 3) := by decide +kernel
theorem dX10_evening_66 : decode cX10_evening 66 = .ok (.aload_n 0, 1) := by decide +kernel
theorem dX10_evening_67 : decode cX10_evening 67 = .ok (.getfield 184, 3) := by decide +kernel
theorem dX10_evening_70 : decode cX10_evening 70 = .ok (.ireturn, 1) := by decide +kernel
theorem dX10_toldAll_0 : decode cX10_toldAll 0 = .ok (.aload_n 0, 1) := by decide +kernel
theorem dX10_toldAll_1 : decode cX10_toldAll 1 = .ok (.getfield 43, 3) := by decide +kernel
theorem dX10_toldAll_4 : decode cX10_toldAll 4 = .ok (.iconst 0, 1) := by decide +kernel
theorem dX10_toldAll_5 : decode cX10_toldAll 5 = .ok (.iaload, 1) := by decide +kernel
theorem dX10_toldAll_6 : decode cX10_toldAll 6 = .ok (.aload_n 0, 1) := by decide +kernel
theorem dX10_toldAll_7 : decode cX10_toldAll 7 = .ok (.getfield 43, 3) := by decide +kernel
theorem dX10_toldAll_10 : decode cX10_toldAll 10 = .ok (.iconst 1, 1) := by decide +kernel
theorem dX10_toldAll_11 : decode cX10_toldAll 11 = .ok (.iaload, 1) := by decide +kernel
theorem dX10_toldAll_12 : decode cX10_toldAll 12 = .ok (.iadd, 1) := by decide +kernel
