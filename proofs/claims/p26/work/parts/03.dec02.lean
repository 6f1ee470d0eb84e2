theorem dX4_canCome_20 : decode cX4_canCome 20 = .ok (.getfield 42, 3) := by decide +kernel
theorem dX4_canCome_23 : decode cX4_canCome 23 = .ok (.if_icmp .gt 22, 3) := by decide +kernel
theorem dX4_canCome_26 : decode cX4_canCome 26 = .ok (.aload_n 0, 1) := by decide +kernel
theorem dX4_canCome_27 : decode cX4_canCome 27 = .ok (.getfield 34, 3) := by decide +kernel
theorem dX4_canCome_30 : decode cX4_canCome 30 = .ok (.iload_n 1, 1) := by decide +kernel
theorem dX4_canCome_31 : decode cX4_canCome 31 = .ok (.aload_n 0, 1) := by decide +kernel
theorem dX4_canCome_32 : decode cX4_canCome 32 = .ok (.getfield 38, 3) := by decide +kernel
theorem dX4_canCome_35 : decode cX4_canCome 35 = .ok (.invokevirtual 76, 3) := by decide +kernel
theorem dX4_canCome_38 : decode cX4_canCome 38 = .ok (.ifCond .ne 7, 3) := by decide +kernel
theorem dX4_canCome_41 : decode cX4_canCome 41 = .ok (.iconst 1, 1) := by decide +kernel
theorem dX4_canCome_42 : decode cX4_canCome 42 = .ok (.goto 4, 3) := by decide +kernel
theorem dX4_canCome_45 : decode cX4_canCome 45 = .ok (.iconst 0, 1) := by decide +kernel
theorem dX4_canCome_46 : decode cX4_canCome 46 = .ok (.ireturn, 1) := by decide +kernel
theorem dX4_nodeOf_0 : decode cX4_nodeOf 0 = .ok (.iload_n 1, 1) := by decide +kernel
theorem dX4_nodeOf_1 : decode cX4_nodeOf 1 = .ok (.ldc 80, 2) := by decide +kernel
theorem dX4_nodeOf_3 : decode cX4_nodeOf 3 = .ok (.imul, 1) := by decide +kernel
theorem dX4_nodeOf_4 : decode cX4_nodeOf 4 = .ok (.bipush 19, 2) := by decide +kernel
theorem dX4_nodeOf_6 : decode cX4_nodeOf 6 = .ok (.iushr, 1) := by decide +kernel
theorem dX4_nodeOf_7 : decode cX4_nodeOf 7 = .ok (.istore_n 2, 1) := by decide +kernel
theorem dX4_nodeOf_8 : decode cX4_nodeOf 8 = .ok (.iconst 0, 1) := by decide +kernel
theorem dX4_nodeOf_9 : decode cX4_nodeOf 9 = .ok (.istore_n 3, 1) := by decide +kernel
theorem dX4_nodeOf_10 : decode cX4_nodeOf 10 = .ok (.iload_n 3, 1) := by decide +kernel
theorem dX4_nodeOf_11 : decode cX4_nodeOf 11 = .ok (.sipush 8192, 3) := by decide +kernel
theorem dX4_nodeOf_14 : decode cX4_nodeOf 14 = .ok (.if_icmp .ge 75, 3) := by decide +kernel
theorem dX4_nodeOf_17 : decode cX4_nodeOf 17 = .ok (.aload_n 0, 1) := by decide +kernel
theorem dX4_nodeOf_18 : decode cX4_nodeOf 18 = .ok (.getfield 22, 3) := by decide +kernel
theorem dX4_nodeOf_21 : decode cX4_nodeOf 21 = .ok (.iload_n 2, 1) := by decide +kernel
theorem dX4_nodeOf_22 : decode cX4_nodeOf 22 = .ok (.iaload, 1) := by decide +kernel
theorem dX4_nodeOf_23 : decode cX4_nodeOf 23 = .ok (.istore 4, 2) := by decide +kernel
theorem dX4_nodeOf_25 : decode cX4_nodeOf 25 = .ok (.iload 4, 2) := by decide +kernel
theorem dX4_nodeOf_27 : decode cX4_nodeOf 27 = .ok (.bipush 12, 2) := by decide +kernel
theorem dX4_nodeOf_29 : decode cX4_nodeOf 29 = .ok (.ishr, 1) := by decide +kernel
theorem dX4_nodeOf_30 : decode cX4_nodeOf 30 = .ok (.aload_n 0, 1) := by decide +kernel
theorem dX4_nodeOf_31 : decode cX4_nodeOf 31 = .ok (.getfield 59, 3) := by decide +kernel
theorem dX4_nodeOf_34 : decode cX4_nodeOf 34 = .ok (.if_icmp .eq 10, 3) := by decide +kernel
theorem dX4_nodeOf_37 : decode cX4_nodeOf 37 = .ok (.aload_n 0, 1) := by decide +kernel
theorem dX4_nodeOf_38 : decode cX4_nodeOf 38 = .ok (.iload_n 1, 1) := by decide +kernel
theorem dX4_nodeOf_39 : decode cX4_nodeOf 39 = .ok (.iload_n 2, 1) := by decide +kernel
theorem dX4_nodeOf_40 : decode cX4_nodeOf 40 = .ok (.invokevirtual 81, 3) := by decide +kernel
theorem dX4_nodeOf_43 : decode cX4_nodeOf 43 = .ok (.ireturn, 1) := by decide +kernel
theorem dX4_nodeOf_44 : decode cX4_nodeOf 44 = .ok (.iload 4, 2) := by decide +kernel
theorem dX4_nodeOf_46 : decode cX4_nodeOf 46 = .ok (.sipush 4095, 3) := by decide +kernel
theorem dX4_nodeOf_49 : decode cX4_nodeOf 49 = .ok (.iand, 1) := by decide +kernel
theorem dX4_nodeOf_50 : decode cX4_nodeOf 50 = .ok (.istore 5, 2) := by decide +kernel
theorem dX4_nodeOf_52 : decode cX4_nodeOf 52 = .ok (.iload 5, 2) := by decide +kernel
theorem dX4_nodeOf_54 : decode cX4_nodeOf 54 = .ok (.aload_n 0, 1) := by decide +kernel
theorem dX4_nodeOf_55 : decode cX4_nodeOf 55 = .ok (.getfield 52, 3) := by decide +kernel
theorem dX4_nodeOf_58 : decode cX4_nodeOf 58 = .ok (.if_icmp .ge 17, 3) := by decide +kernel
theorem dX4_nodeOf_61 : decode cX4_nodeOf 61 = .ok (.aload_n 0, 1) := by decide +kernel
theorem dX4_nodeOf_62 : decode cX4_nodeOf 62 = .ok (.getfield 11, 3) := by decide +kernel
theorem dX4_nodeOf_65 : decode cX4_nodeOf 65 = .ok (.iload 5, 2) := by decide +kernel
theorem dX4_nodeOf_67 : decode cX4_nodeOf 67 = .ok (.iaload, 1) := by decide +kernel
theorem dX4_nodeOf_68 : decode cX4_nodeOf 68 = .ok (.iload_n 1, 1) := by decide +kernel
theorem dX4_nodeOf_69 : decode cX4_nodeOf 69 = .ok (.if_icmp .ne 6, 3) := by decide +kernel
theorem dX4_nodeOf_72 : decode cX4_nodeOf 72 = .ok (.iload 5, 2) := by decide +kernel
theorem dX4_nodeOf_74 : decode cX4_nodeOf 74 = .ok (.ireturn, 1) := by decide +kernel
theorem dX4_nodeOf_75 : decode cX4_nodeOf 75 = .ok (.iload_n 2, 1) := by decide +kernel
theorem dX4_nodeOf_76 : decode cX4_nodeOf 76 = .ok (.iconst 1, 1) := by decide +kernel
theorem dX4_nodeOf_77 : decode cX4_nodeOf 77 = .ok (.iadd, 1) := by decide +kernel
theorem dX4_nodeOf_78 : decode cX4_nodeOf 78 = .ok (.sipush 8191, 3) := by decide +kernel
theorem dX4_nodeOf_81 : decode cX4_nodeOf 81 = .ok (.iand, 1) := by decide +kernel
theorem dX4_nodeOf_82 : decode cX4_nodeOf 82 = .ok (.istore_n 2, 1) := by decide +kernel
theorem dX4_nodeOf_83 : decode cX4_nodeOf 83 = .ok (.iinc 3 1, 3) := by decide +kernel
theorem dX4_nodeOf_86 : decode cX4_nodeOf 86 = .ok (.goto (-76), 3) := by decide +kernel
theorem dX4_nodeOf_89 : decode cX4_nodeOf 89 = .ok (.bipush (-6), 2) := by decide +kernel
theorem dX4_nodeOf_91 : decode cX4_nodeOf 91 = .ok (.ireturn, 1) := by decide +kernel
theorem dX4_addNode_0 : decode cX4_addNode 0 = .ok (.aload_n 0, 1) := by decide +kernel
theorem dX4_addNode_1 : decode cX4_addNode 1 = .ok (.getfield 52, 3) := by decide +kernel
theorem dX4_addNode_4 : decode cX4_addNode 4 = .ok (.sipush 3784, 3) := by decide +kernel
theorem dX4_addNode_7 : decode cX4_addNode 7 = .ok (.if_icmp .lt 6, 3) := by decide +kernel
theorem dX4_addNode_10 : decode cX4_addNode 10 = .ok (.bipush (-6), 2) := by decide +kernel
theorem dX4_addNode_12 : decode cX4_addNode 12 = .ok (.ireturn, 1) := by decide +kernel
theorem dX4_addNode_13 : decode cX4_addNode 13 = .ok (.aload_n 0, 1) := by decide +kernel
theorem dX4_addNode_14 : decode cX4_addNode 14 = .ok (.getfield 52, 3) := by decide +kernel
theorem dX4_addNode_17 : decode cX4_addNode 17 = .ok (.istore_n 3, 1) := by decide +kernel
theorem dX4_addNode_18 : decode cX4_addNode 18 = .ok (.aload_n 0, 1) := by decide +kernel
theorem dX4_addNode_19 : decode cX4_addNode 19 = .ok (.getfield 11, 3) := by decide +kernel
theorem dX4_addNode_22 : decode cX4_addNode 22 = .ok (.iload_n 3, 1) := by decide +kernel
theorem dX4_addNode_23 : decode cX4_addNode 23 = .ok (.iload_n 1, 1) := by decide +kernel
theorem dX4_addNode_24 : decode cX4_addNode 24 = .ok (.iastore, 1) := by decide +kernel
theorem dX4_addNode_25 : decode cX4_addNode 25 = .ok (.aload_n 0, 1) := by decide +kernel
theorem dX4_addNode_26 : decode cX4_addNode 26 = .ok (.getfield 22, 3) := by decide +kernel
theorem dX4_addNode_29 : decode cX4_addNode 29 = .ok (.iload_n 2, 1) := by decide +kernel
theorem dX4_addNode_30 : decode cX4_addNode 30 = .ok (.aload_n 0, 1) := by decide +kernel
theorem dX4_addNode_31 : decode cX4_addNode 31 = .ok (.getfield 59, 3) := by decide +kernel
theorem dX4_addNode_34 : decode cX4_addNode 34 = .ok (.bipush 12, 2) := by decide +kernel
theorem dX4_addNode_36 : decode cX4_addNode 36 = .ok (.ishl, 1) := by decide +kernel
theorem dX4_addNode_37 : decode cX4_addNode 37 = .ok (.iload_n 3, 1) := by decide +kernel
theorem dX4_addNode_38 : decode cX4_addNode 38 = .ok (.ior, 1) := by decide +kernel
theorem dX4_addNode_39 : decode cX4_addNode 39 = .ok (.iastore, 1) := by decide +kernel
theorem dX4_addNode_40 : decode cX4_addNode 40 = .ok (.aload_n 0, 1) := by decide +kernel
theorem dX4_addNode_41 : decode cX4_addNode 41 = .ok (.dup, 1) := by decide +kernel
theorem dX4_addNode_42 : decode cX4_addNode 42 = .ok (.getfield 52, 3) := by decide +kernel
theorem dX4_addNode_45 : decode cX4_addNode 45 = .ok (.iconst 1, 1) := by decide +kernel
theorem dX4_addNode_46 : decode cX4_addNode 46 = .ok (.iadd, 1) := by decide +kernel
theorem dX4_addNode_47 : decode cX4_addNode 47 = .ok (.putfield 52, 3) := by decide +kernel
theorem dX4_addNode_50 : decode cX4_addNode 50 = .ok (.iload_n 3, 1) := by decide +kernel
theorem dX4_addNode_51 : decode cX4_addNode 51 = .ok (.ireturn, 1) := by decide +kernel
theorem dX4_nodeAfter_0 : decode cX4_nodeAfter 0 = .ok (.aload_n 0, 1) := by decide +kernel
theorem dX4_nodeAfter_1 : decode cX4_nodeAfter 1 = .ok (.getfield 15, 3) := by decide +kernel
theorem dX4_nodeAfter_4 : decode cX4_nodeAfter 4 = .ok (.iload_n 1, 1) := by decide +kernel
theorem dX4_nodeAfter_5 : decode cX4_nodeAfter 5 = .ok (.iconst 4, 1) := by decide +kernel
theorem dX4_nodeAfter_6 : decode cX4_nodeAfter 6 = .ok (.imul, 1) := by decide +kernel
theorem dX4_nodeAfter_7 : decode cX4_nodeAfter 7 = .ok (.iload_n 2, 1) := by decide +kernel
theorem dX4_nodeAfter_8 : decode cX4_nodeAfter 8 = .ok (.iadd, 1) := by decide +kernel
theorem dX4_nodeAfter_9 : decode cX4_nodeAfter 9 = .ok (.iaload, 1) := by decide +kernel
theorem dX4_nodeAfter_10 : decode cX4_nodeAfter 10 = .ok (.istore_n 3, 1) := by decide +kernel
theorem dX4_nodeAfter_11 : decode cX4_nodeAfter 11 = .ok (.iload_n 3, 1) := by decide +kernel
theorem dX4_nodeAfter_12 : decode cX4_nodeAfter 12 = .ok (.iconst 0, 1) := by decide +kernel
theorem dX4_nodeAfter_13 : decode cX4_nodeAfter 13 = .ok (.aload_n 0, 1) := by decide +kernel
theorem dX4_nodeAfter_14 : decode cX4_nodeAfter 14 = .ok (.getfield 52, 3) := by decide +kernel
theorem dX4_nodeAfter_17 : decode cX4_nodeAfter 17 = .ok (.iconst 1, 1) := by decide +kernel
theorem dX4_nodeAfter_18 : decode cX4_nodeAfter 18 = .ok (.isub, 1) := by decide +kernel
theorem dX4_nodeAfter_19 : decode cX4_nodeAfter 19 = .ok (.invokestatic 84, 3) := by decide +kernel
theorem dX4_nodeAfter_22 : decode cX4_nodeAfter 22 = .ok (.ifCond .eq 7, 3) := by decide +kernel
theorem dX4_nodeAfter_25 : decode cX4_nodeAfter 25 = .ok (.iload_n 3, 1) := by decide +kernel
theorem dX4_nodeAfter_26 : decode cX4_nodeAfter 26 = .ok (.goto 5, 3) := by decide +kernel
theorem dX4_nodeAfter_29 : decode cX4_nodeAfter 29 = .ok (.bipush (-6), 2) := by decide +kernel
theorem dX4_nodeAfter_31 : decode cX4_nodeAfter 31 = .ok (.ireturn, 1) := by decide +kernel
theorem dX4_isOut_0 : decode cX4_isOut 0 = .ok (.aload_n 0, 1) := by decide +kernel
theorem dX4_isOut_1 : decode cX4_isOut 1 = .ok (.getfield 11, 3) := by decide +kernel
theorem dX4_isOut_4 : decode cX4_isOut 4 = .ok (.iload_n 1, 1) := by decide +kernel
theorem dX4_isOut_5 : decode cX4_isOut 5 = .ok (.iaload, 1) := by decide +kernel
theorem dX4_isOut_6 : decode cX4_isOut 6 = .ok (.iload_n 2, 1) := by decide +kernel
theorem dX4_isOut_7 : decode cX4_isOut 7 = .ok (.invokestatic 88, 3) := by decide +kernel
theorem dX4_isOut_10 : decode cX4_isOut 10 = .ok (.aload_n 0, 1) := by decide +kernel
theorem dX4_isOut_11 : decode cX4_isOut 11 = .ok (.getfield 25, 3) := by decide +kernel
theorem dX4_isOut_14 : decode cX4_isOut 14 = .ok (.getfield 91, 3) := by decide +kernel
theorem dX4_isOut_17 : decode cX4_isOut 17 = .ok (.iload_n 2, 1) := by decide +kernel
theorem dX4_isOut_18 : decode cX4_isOut 18 = .ok (.iaload, 1) := by decide +kernel
theorem dX4_isOut_19 : decode cX4_isOut 19 = .ok (.if_icmp .lt 7, 3) := by decide +kernel
theorem dX4_isOut_22 : decode cX4_isOut 22 = .ok (.iconst 1, 1) := by decide +kernel
theorem dX4_isOut_23 : decode cX4_isOut 23 = .ok (.goto 4, 3) := by decide +kernel
theorem dX4_isOut_26 : decode cX4_isOut 26 = .ok (.iconst 0, 1) := by decide +kernel
theorem dX4_isOut_27 : decode cX4_isOut 27 = .ok (.ireturn, 1) := by decide +kernel
theorem dX4_isAllOut_0 : decode cX4_isAllOut 0 = .ok (.iconst 0, 1) := by decide +kernel
theorem dX4_isAllOut_1 : decode cX4_isAllOut 1 = .ok (.istore_n 2, 1) := by decide +kernel
theorem dX4_isAllOut_2 : decode cX4_isAllOut 2 = .ok (.iload_n 2, 1) := by decide +kernel
theorem dX4_isAllOut_3 : decode cX4_isAllOut 3 = .ok (.iconst 4, 1) := by decide +kernel
theorem dX4_isAllOut_4 : decode cX4_isAllOut 4 = .ok (.if_icmp .ge 31, 3) := by decide +kernel
theorem dX4_isAllOut_7 : decode cX4_isAllOut 7 = .ok (.aload_n 0, 1) := by decide +kernel
theorem dX4_isAllOut_8 : decode cX4_isAllOut 8 = .ok (.getfield 38, 3) := by decide +kernel
theorem dX4_isAllOut_11 : decode cX4_isAllOut 11 = .ok (.iload_n 2, 1) := by decide +kernel
theorem dX4_isAllOut_12 : decode cX4_isAllOut 12 = .ok (.ishr, 1) := by decide +kernel
theorem dX4_isAllOut_13 : decode cX4_isAllOut 13 = .ok (.iconst 1, 1) := by decide +kernel
theorem dX4_isAllOut_14 : decode cX4_isAllOut 14 = .ok (.iand, 1) := by decide +kernel
theorem dX4_isAllOut_15 : decode cX4_isAllOut 15 = .ok (.ifCond .eq 14, 3) := by decide +kernel
theorem dX4_isAllOut_18 : decode cX4_isAllOut 18 = .ok (.aload_n 0, 1) := by decide +kernel
theorem dX4_isAllOut_19 : decode cX4_isAllOut 19 = .ok (.iload_n 1, 1) := by decide +kernel
theorem dX4_isAllOut_20 : decode cX4_isAllOut 20 = .ok (.iload_n 2, 1) := by decide +kernel
theorem dX4_isAllOut_21 : decode cX4_isAllOut 21 = .ok (.invokevirtual 96, 3) := by decide +kernel
theorem dX4_isAllOut_24 : decode cX4_isAllOut 24 = .ok (.ifCond .ne 5, 3) := by decide +kernel
theorem dX4_isAllOut_27 : decode cX4_isAllOut 27 = .ok (.iconst 0, 1) := by decide +kernel
theorem dX4_isAllOut_28 : decode cX4_isAllOut 28 = .ok (.ireturn, 1) := by decide +kernel
theorem dX4_isAllOut_29 : decode cX4_isAllOut 29 = .ok (.iinc 2 1, 3) := by decide +kernel
theorem dX4_isAllOut_32 : decode cX4_isAllOut 32 = .ok (.goto (-30), 3) := by decide +kernel
theorem dX4_isAllOut_35 : decode cX4_isAllOut 35 = .ok (.iconst 1, 1) := by decide +kernel
theorem dX4_isAllOut_36 : decode cX4_isAllOut 36 = .ok (.ireturn, 1) := by decide +kernel
theorem dX4_minutesAt_0 : decode cX4_minutesAt 0 = .ok (.iconst 0, 1) := by decide +kernel
theorem dX4_minutesAt_1 : decode cX4_minutesAt 1 = .ok (.istore_n 2, 1) := by decide +kernel
theorem dX4_minutesAt_2 : decode cX4_minutesAt 2 = .ok (.iconst 0, 1) := by decide +kernel
theorem dX4_minutesAt_3 : decode cX4_minutesAt 3 = .ok (.istore_n 3, 1) := by decide +kernel
theorem dX4_minutesAt_4 : decode cX4_minutesAt 4 = .ok (.iload_n 3, 1) := by decide +kernel
theorem dX4_minutesAt_5 : decode cX4_minutesAt 5 = .ok (.iconst 4, 1) := by decide +kernel
theorem dX4_minutesAt_6 : decode cX4_minutesAt 6 = .ok (.if_icmp .ge 30, 3) := by decide +kernel
theorem dX4_minutesAt_9 : decode cX4_minutesAt 9 = .ok (.iload_n 2, 1) := by decide +kernel
theorem dX4_minutesAt_10 : decode cX4_minutesAt 10 = .ok (.aload_n 0, 1) := by decide +kernel
theorem dX4_minutesAt_11 : decode cX4_minutesAt 11 = .ok (.getfield 25, 3) := by decide +kernel
theorem dX4_minutesAt_14 : decode cX4_minutesAt 14 = .ok (.iload_n 3, 1) := by decide +kernel
theorem dX4_minutesAt_15 : decode cX4_minutesAt 15 = .ok (.aload_n 0, 1) := by decide +kernel
theorem dX4_minutesAt_16 : decode cX4_minutesAt 16 = .ok (.getfield 11, 3) := by decide +kernel
theorem dX4_minutesAt_19 : decode cX4_minutesAt 19 = .ok (.iload_n 1, 1) := by decide +kernel
theorem dX4_minutesAt_20 : decode cX4_minutesAt 20 = .ok (.iaload, 1) := by decide +kernel
theorem dX4_minutesAt_21 : decode cX4_minutesAt 21 = .ok (.iload_n 3, 1) := by decide +kernel
theorem dX4_minutesAt_22 : decode cX4_minutesAt 22 = .ok (.invokestatic 88, 3) := by decide +kernel
theorem dX4_minutesAt_25 : decode cX4_minutesAt 25 = .ok (.invokevirtual 100, 3) := by decide +kernel
theorem dX4_minutesAt_28 : decode cX4_minutesAt 28 = .ok (.iadd, 1) := by decide +kernel
theorem dX4_minutesAt_29 : decode cX4_minutesAt 29 = .ok (.istore_n 2, 1) := by decide +kernel
theorem dX4_minutesAt_30 : decode cX4_minutesAt 30 = .ok (.iinc 3 1, 3) := by decide +kernel
theorem dX4_minutesAt_33 : decode cX4_minutesAt 33 = .ok (.goto (-29), 3) := by decide +kernel
theorem dX4_minutesAt_36 : decode cX4_minutesAt 36 = .ok (.iload_n 2, 1) := by decide +kernel
theorem dX4_minutesAt_37 : decode cX4_minutesAt 37 = .ok (.ireturn, 1) := by decide +kernel
theorem dX5_init_0 : decode cX5_init 0 = .ok (.aload_n 0, 1) := by decide +kernel
theorem dX5_init_1 : decode cX5_init 1 = .ok (.invokespecial 3, 3) := by decide +kernel
theorem dX5_init_4 : decode cX5_init 4 = .ok (.aload_n 0, 1) := by decide +kernel
theorem dX5_init_5 : decode cX5_init 5 = .ok (.iconst 4, 1) := by decide +kernel
theorem dX5_init_6 : decode cX5_init 6 = .ok (.newarray .int, 2) := by decide +kernel
theorem dX5_init_8 : decode cX5_init 8 = .ok (.putfield 9, 3) := by decide +kernel
theorem dX5_init_11 : decode cX5_init 11 = .ok (.aload_n 0, 1) := by decide +kernel
theorem dX5_init_12 : decode cX5_init 12 = .ok (.sipush 145, 3) := by decide +kernel
theorem dX5_init_15 : decode cX5_init 15 = .ok (.newarray .boolean, 2) := by decide +kernel
theorem dX5_init_17 : decode cX5_init 17 = .ok (.putfield 15, 3) := by decide +kernel
theorem dX5_init_20 : decode cX5_init 20 = .ok (.aload_n 0, 1) := by decide +kernel
theorem dX5_init_21 : decode cX5_init 21 = .ok (.aload_n 1, 1) := by decide +kernel
theorem dX5_init_22 : decode cX5_init 22 = .ok (.putfield 19, 3) := by decide +kernel
theorem dX5_init_25 : decode cX5_init 25 = .ok (.aload_n 0, 1) := by decide +kernel
theorem dX5_init_26 : decode cX5_init 26 = .ok (.aload_n 2, 1) := by decide +kernel
theorem dX5_init_27 : decode cX5_init 27 = .ok (.putfield 23, 3) := by decide +kernel
theorem dX5_init_30 : decode cX5_init 30 = .ok (.return_, 1) := by decide +kernel
theorem dX5_evenings_0 : decode cX5_evenings 0 = .ok (.aload_n 0, 1) := by decide +kernel
theorem dX5_evenings_1 : decode cX5_evenings 1 = .ok (.getfield 23, 3) := by decide +kernel
theorem dX5_evenings_4 : decode cX5_evenings 4 = .ok (.getfield 27, 3) := by decide +kernel
theorem dX5_evenings_7 : decode cX5_evenings 7 = .ok (.iconst 1, 1) := by decide +kernel
theorem dX5_evenings_8 : decode cX5_evenings 8 = .ok (.isub, 1) := by decide +kernel
theorem dX5_evenings_9 : decode cX5_evenings 9 = .ok (.istore_n 1, 1) := by decide +kernel
theorem dX5_evenings_10 : decode cX5_evenings 10 = .ok (.iload_n 1, 1) := by decide +kernel
theorem dX5_evenings_11 : decode cX5_evenings 11 = .ok (.ifCond .lt 87, 3) := by decide +kernel
theorem dX5_evenings_14 : decode cX5_evenings 14 = .ok (.aload_n 0, 1) := by decide +kernel
theorem dX5_evenings_15 : decode cX5_evenings 15 = .ok (.getfield 23, 3) := by decide +kernel
theorem dX5_evenings_18 : decode cX5_evenings 18 = .ok (.iload_n 1, 1) := by decide +kernel
theorem dX5_evenings_19 : decode cX5_evenings 19 = .ok (.invokevirtual 33, 3) := by decide +kernel
theorem dX5_evenings_22 : decode cX5_evenings 22 = .ok (.ifCond .eq 7, 3) := by decide +kernel
theorem dX5_evenings_25 : decode cX5_evenings 25 = .ok (.lconst 1, 1) := by decide +kernel
theorem dX5_evenings_26 : decode cX5_evenings 26 = .ok (.goto 4, 3) := by decide +kernel
theorem dX5_evenings_29 : decode cX5_evenings 29 = .ok (.lconst 0, 1) := by decide +kernel
theorem dX5_evenings_30 : decode cX5_evenings 30 = .ok (.lstore_n 2, 1) := by decide +kernel
theorem dX5_evenings_31 : decode cX5_evenings 31 = .ok (.iconst 0, 1) := by decide +kernel
theorem dX5_evenings_32 : decode cX5_evenings 32 = .ok (.istore 4, 2) := by decide +kernel
theorem dX5_evenings_34 : decode cX5_evenings 34 = .ok (.iload 4, 2) := by decide +kernel
theorem dX5_evenings_36 : decode cX5_evenings 36 = .ok (.iconst 4, 1) := by decide +kernel
theorem dX5_evenings_37 : decode cX5_evenings 37 = .ok (.if_icmp .ge 45, 3) := by decide +kernel
theorem dX5_evenings_40 : decode cX5_evenings 40 = .ok (.aload_n 0, 1) := by decide +kernel
theorem dX5_evenings_41 : decode cX5_evenings 41 = .ok (.getfield 23, 3) := by decide +kernel
theorem dX5_evenings_44 : decode cX5_evenings 44 = .ok (.iload_n 1, 1) := by decide +kernel
theorem dX5_evenings_45 : decode cX5_evenings 45 = .ok (.iload 4, 2) := by decide +kernel
theorem dX5_evenings_47 : decode cX5_evenings 47 = .ok (.invokevirtual 37, 3) := by decide +kernel
theorem dX5_evenings_50 : decode cX5_evenings 50 = .ok (.istore 5, 2) := by decide +kernel
theorem dX5_evenings_52 : decode cX5_evenings 52 = .ok (.lload_n 2, 1) := by decide +kernel
theorem dX5_evenings_53 : decode cX5_evenings 53 = .ok (.iload 5, 2) := by decide +kernel
theorem dX5_evenings_55 : decode cX5_evenings 55 = .ok (.bipush (-6), 2) := by decide +kernel
theorem dX5_evenings_57 : decode cX5_evenings 57 = .ok (.if_icmp .ne 7, 3) := by decide +kernel
theorem dX5_evenings_60 : decode cX5_evenings 60 = .ok (.lconst 0, 1) := by decide +kernel
theorem dX5_evenings_61 : decode cX5_evenings 61 = .ok (.goto 13, 3) := by decide +kernel
theorem dX5_evenings_64 : decode cX5_evenings 64 = .ok (.aload_n 0, 1) := by decide +kernel
theorem dX5_evenings_65 : decode cX5_evenings 65 = .ok (.getfield 23, 3) := by decide +kernel
theorem dX5_evenings_68 : decode cX5_evenings 68 = .ok (.getfield 41, 3) := by decide +kernel
theorem dX5_evenings_71 : decode cX5_evenings 71 = .ok (.iload 5, 2) := by decide +kernel
theorem dX5_evenings_73 : decode cX5_evenings 73 = .ok (.laload, 1) := by decide +kernel
theorem dX5_evenings_74 : decode cX5_evenings 74 = .ok (.ladd, 1) := by decide +kernel
theorem dX5_evenings_75 : decode cX5_evenings 75 = .ok (.lstore_n 2, 1) := by decide +kernel
theorem dX5_evenings_76 : decode cX5_evenings 76 = .ok (.iinc 4 1, 3) := by decide +kernel
theorem dX5_evenings_79 : decode cX5_evenings 79 = .ok (.goto (-45), 3) := by decide +kernel
theorem dX5_evenings_82 : decode cX5_evenings 82 = .ok (.aload_n 0, 1) := by decide +kernel
theorem dX5_evenings_83 : decode cX5_evenings 83 = .ok (.getfield 23, 3) := by decide +kernel
theorem dX5_evenings_86 : decode cX5_evenings 86 = .ok (.getfield 41, 3) := by decide +kernel
theorem dX5_evenings_89 : decode cX5_evenings 89 = .ok (.iload_n 1, 1) := by decide +kernel
theorem dX5_evenings_90 : decode cX5_evenings 90 = .ok (.lload_n 2, 1) := by decide +kernel
theorem dX5_evenings_91 : decode cX5_evenings 91 = .ok (.lastore, 1) := by decide +kernel
theorem dX5_evenings_92 : decode cX5_evenings 92 = .ok (.iinc 1 (-1), 3) := by decide +kernel
theorem dX5_evenings_95 : decode cX5_evenings 95 = .ok (.goto (-85), 3) := by decide +kernel
theorem dX5_evenings_98 : decode cX5_evenings 98 = .ok (.aload_n 0, 1) := by decide +kernel
theorem dX5_evenings_99 : decode cX5_evenings 99 = .ok (.getfield 23, 3) := by decide +kernel
theorem dX5_evenings_102 : decode cX5_evenings 102 = .ok (.getfield 41, 3) := by decide +kernel
theorem dX5_evenings_105 : decode cX5_evenings 105 = .ok (.iconst 0, 1) := by decide +kernel
theorem dX5_evenings_106 : decode cX5_evenings 106 = .ok (.laload, 1) := by decide +kernel
theorem dX5_evenings_107 : decode cX5_evenings 107 = .ok (.lreturn, 1) := by decide +kernel
theorem dX5_leastMinutes_0 : decode cX5_leastMinutes 0 = .ok (.aload_n 0, 1) := by decide +kernel
theorem dX5_leastMinutes_1 : decode cX5_leastMinutes 1 = .ok (.invokevirtual 45, 3) := by decide +kernel
theorem dX5_leastMinutes_4 : decode cX5_leastMinutes 4 = .ok (.aload_n 0, 1) := by decide +kernel
theorem dX5_leastMinutes_5 : decode cX5_leastMinutes 5 = .ok (.iconst 0, 1) := by decide +kernel
theorem dX5_leastMinutes_6 : decode cX5_leastMinutes 6 = .ok (.bipush (-6), 2) := by decide +kernel
theorem dX5_leastMinutes_8 : decode cX5_leastMinutes 8 = .ok (.invokevirtual 48, 3) := by decide +kernel
theorem dX5_leastMinutes_11 : decode cX5_leastMinutes 11 = .ok (.istore_n 1, 1) := by decide +kernel
theorem dX5_leastMinutes_12 : decode cX5_leastMinutes 12 = .ok (.iload_n 1, 1) := by decide +kernel
theorem dX5_leastMinutes_13 : decode cX5_leastMinutes 13 = .ok (.sipush 10000, 3) := by decide +kernel
theorem dX5_leastMinutes_16 : decode cX5_leastMinutes 16 = .ok (.if_icmp .lt 6, 3) := by decide +kernel
theorem dX5_leastMinutes_19 : decode cX5_leastMinutes 19 = .ok (.bipush (-6), 2) := by decide +kernel
theorem dX5_leastMinutes_21 : decode cX5_leastMinutes 21 = .ok (.ireturn, 1) := by decide +kernel
theorem dX5_leastMinutes_22 : decode cX5_leastMinutes 22 = .ok (.iload_n 1, 1) := by decide +kernel
theorem dX5_leastMinutes_23 : decode cX5_leastMinutes 23 = .ok (.istore_n 2, 1) := by decide +kernel
theorem dX5_leastMinutes_24 : decode cX5_leastMinutes 24 = .ok (.iconst 0, 1) := by decide +kernel
theorem dX5_leastMinutes_25 : decode cX5_leastMinutes 25 = .ok (.istore_n 3, 1) := by decide +kernel
theorem dX5_leastMinutes_26 : decode cX5_leastMinutes 26 = .ok (.iload_n 3, 1) := by decide +kernel
theorem dX5_leastMinutes_27 : decode cX5_leastMinutes 27 = .ok (.iconst 4, 1) := by decide +kernel
theorem dX5_leastMinutes_28 : decode cX5_leastMinutes 28 = .ok (.if_icmp .ge 47, 3) := by decide +kernel
theorem dX5_leastMinutes_31 : decode cX5_leastMinutes 31 = .ok (.iload_n 2, 1) := by decide +kernel
theorem dX5_leastMinutes_32 : decode cX5_leastMinutes 32 = .ok (.aload_n 0, 1) := by decide +kernel
theorem dX5_leastMinutes_33 : decode cX5_leastMinutes 33 = .ok (.getfield 23, 3) := by decide +kernel
theorem dX5_leastMinutes_36 : decode cX5_leastMinutes 36 = .ok (.getfield 51, 3) := by decide +kernel
theorem dX5_leastMinutes_39 : decode cX5_leastMinutes 39 = .ok (.iload_n 3, 1) := by decide +kernel
theorem dX5_leastMinutes_40 : decode cX5_leastMinutes 40 = .ok (.ishr, 1) := by decide +kernel
theorem dX5_leastMinutes_41 : decode cX5_leastMinutes 41 = .ok (.iconst 1, 1) := by decide +kernel
theorem dX5_leastMinutes_42 : decode cX5_leastMinutes 42 = .ok (.iand, 1) := by decide +kernel
theorem dX5_leastMinutes_43 : decode cX5_leastMinutes 43 = .ok (.ifCond .ne 7, 3) := by decide +kernel
theorem dX5_leastMinutes_46 : decode cX5_leastMinutes 46 = .ok (.iconst 0, 1) := by decide +kernel
theorem dX5_leastMinutes_47 : decode cX5_leastMinutes 47 = .ok (.goto 20, 3) := by decide +kernel
theorem dX5_leastMinutes_50 : decode cX5_leastMinutes 50 = .ok (.aload_n 0, 1) := by decide +kernel
theorem dX5_leastMinutes_51 : decode cX5_leastMinutes 51 = .ok (.getfield 19, 3) := by decide +kernel
theorem dX5_leastMinutes_54 : decode cX5_leastMinutes 54 = .ok (.iload_n 3, 1) := by decide +kernel
theorem dX5_leastMinutes_55 : decode cX5_leastMinutes 55 = .ok (.aload_n 0, 1) := by decide +kernel
theorem dX5_leastMinutes_56 : decode cX5_leastMinutes 56 = .ok (.getfield 19, 3) := by decide +kernel
theorem dX5_leastMinutes_59 : decode cX5_leastMinutes 59 = .ok (.getfield 54, 3) := by decide +kernel
theorem dX5_leastMinutes_62 : decode cX5_leastMinutes 62 = .ok (.iload_n 3, 1) := by decide +kernel
theorem dX5_leastMinutes_63 : decode cX5_leastMinutes 63 = .ok (.iaload, 1) := by decide +kernel
theorem dX5_leastMinutes_64 : decode cX5_leastMinutes 64 = .ok (.invokevirtual 59, 3) := by decide +kernel
theorem dX5_leastMinutes_67 : decode cX5_leastMinutes 67 = .ok (.iadd, 1) := by decide +kernel
theorem dX5_leastMinutes_68 : decode cX5_leastMinutes 68 = .ok (.istore_n 2, 1) := by decide +kernel
theorem dX5_leastMinutes_69 : decode cX5_leastMinutes 69 = .ok (.iinc 3 1, 3) := by decide +kernel
theorem dX5_leastMinutes_72 : decode cX5_leastMinutes 72 = .ok (.goto (-46), 3) := by decide +kernel
theorem dX5_leastMinutes_75 : decode cX5_leastMinutes 75 = .ok (.iload_n 2, 1) := by decide +kernel
theorem dX5_leastMinutes_76 : decode cX5_leastMinutes 76 = .ok (.ireturn, 1) := by decide +kernel
theorem dX5_leastLetter_0 : decode cX5_leastLetter 0 = .ok (.aload_n 0, 1) := by decide +kernel
theorem dX5_leastLetter_1 : decode cX5_leastLetter 1 = .ok (.invokevirtual 45, 3) := by decide +kernel
theorem dX5_leastLetter_4 : decode cX5_leastLetter 4 = .ok (.iconst 0, 1) := by decide +kernel
theorem dX5_leastLetter_5 : decode cX5_leastLetter 5 = .ok (.istore_n 2, 1) := by decide +kernel
theorem dX5_leastLetter_6 : decode cX5_leastLetter 6 = .ok (.bipush (-6), 2) := by decide +kernel
theorem dX5_leastLetter_8 : decode cX5_leastLetter 8 = .ok (.istore_n 3, 1) := by decide +kernel
theorem dX5_leastLetter_9 : decode cX5_leastLetter 9 = .ok (.iconst 0, 1) := by decide +kernel
theorem dX5_leastLetter_10 : decode cX5_leastLetter 10 = .ok (.istore 4, 2) := by decide +kernel
theorem dX5_leastLetter_12 : decode cX5_leastLetter 12 = .ok (.iload 4, 2) := by decide +kernel
theorem dX5_leastLetter_14 : decode cX5_leastLetter 14 = .ok (.bipush 16, 2) := by decide +kernel
theorem dX5_leastLetter_16 : decode cX5_leastLetter 16 = .ok (.if_icmp .ge 76, 3) := by decide +kernel
theorem dX5_leastLetter_19 : decode cX5_leastLetter 19 = .ok (.iload_n 2, 1) := by decide +kernel
theorem dX5_leastLetter_20 : decode cX5_leastLetter 20 = .ok (.bipush (-6), 2) := by decide +kernel
theorem dX5_leastLetter_22 : decode cX5_leastLetter 22 = .ok (.if_icmp .eq 70, 3) := by decide +kernel
theorem dX5_leastLetter_25 : decode cX5_leastLetter 25 = .ok (.aload_n 0, 1) := by decide +kernel
theorem dX5_leastLetter_26 : decode cX5_leastLetter 26 = .ok (.iload_n 2, 1) := by decide +kernel
theorem dX5_leastLetter_27 : decode cX5_leastLetter 27 = .ok (.iload_n 3, 1) := by decide +kernel
theorem dX5_leastLetter_28 : decode cX5_leastLetter 28 = .ok (.invokevirtual 62, 3) := by decide +kernel
theorem dX5_leastLetter_31 : decode cX5_leastLetter 31 = .ok (.istore 5, 2) := by decide +kernel
theorem dX5_leastLetter_33 : decode cX5_leastLetter 33 = .ok (.iload 5, 2) := by decide +kernel
theorem dX5_leastLetter_35 : decode cX5_leastLetter 35 = .ok (.bipush (-6), 2) := by decide +kernel
theorem dX5_leastLetter_37 : decode cX5_leastLetter 37 = .ok (.if_icmp .eq 9, 3) := by decide +kernel
theorem dX5_leastLetter_40 : decode cX5_leastLetter 40 = .ok (.iload 4, 2) := by decide +kernel
theorem dX5_leastLetter_42 : decode cX5_leastLetter 42 = .ok (.iload_n 1, 1) := by decide +kernel
theorem dX5_leastLetter_43 : decode cX5_leastLetter 43 = .ok (.if_icmp .ne 21, 3) := by decide +kernel
theorem dX5_leastLetter_46 : decode cX5_leastLetter 46 = .ok (.iload 5, 2) := by decide +kernel
theorem dX5_leastLetter_48 : decode cX5_leastLetter 48 = .ok (.bipush (-6), 2) := by decide +kernel
theorem dX5_leastLetter_50 : decode cX5_leastLetter 50 = .ok (.if_icmp .ne 8, 3) := by decide +kernel
theorem dX5_leastLetter_53 : decode cX5_leastLetter 53 = .ok (.bipush (-6), 2) := by decide +kernel
theorem dX5_leastLetter_55 : decode cX5_leastLetter 55 = .ok (.goto 8, 3) := by decide +kernel
theorem dX5_leastLetter_58 : decode cX5_leastLetter 58 = .ok (.bipush 97, 2) := by decide +kernel
theorem dX5_leastLetter_60 : decode cX5_leastLetter 60 = .ok (.iload 5, 2) := by decide +kernel
theorem dX5_leastLetter_62 : decode cX5_leastLetter 62 = .ok (.iadd, 1) := by decide +kernel
theorem dX5_leastLetter_63 : decode cX5_leastLetter 63 = .ok (.ireturn, 1) := by decide +kernel
theorem dX5_leastLetter_64 : decode cX5_leastLetter 64 = .ok (.aload_n 0, 1) := by decide +kernel
theorem dX5_leastLetter_65 : decode cX5_leastLetter 65 = .ok (.getfield 23, 3) := by decide +kernel
theorem dX5_leastLetter_68 : decode cX5_leastLetter 68 = .ok (.iload_n 2, 1) := by decide +kernel
theorem dX5_leastLetter_69 : decode cX5_leastLetter 69 = .ok (.iload 5, 2) := by decide +kernel
theorem dX5_leastLetter_71 : decode cX5_leastLetter 71 = .ok (.invokevirtual 37, 3) := by decide +kernel
theorem dX5_leastLetter_74 : decode cX5_leastLetter 74 = .ok (.istore_n 2, 1) := by decide +kernel
theorem dX5_leastLetter_75 : decode cX5_leastLetter 75 = .ok (.aload_n 0, 1) := by decide +kernel
theorem dX5_leastLetter_76 : decode cX5_leastLetter 76 = .ok (.getfield 19, 3) := by decide +kernel
theorem dX5_leastLetter_79 : decode cX5_leastLetter 79 = .ok (.getfield 65, 3) := by decide +kernel
theorem dX5_leastLetter_82 : decode cX5_leastLetter 82 = .ok (.iload 5, 2) := by decide +kernel
theorem dX5_leastLetter_84 : decode cX5_leastLetter 84 = .ok (.iaload, 1) := by decide +kernel
theorem dX5_leastLetter_85 : decode cX5_leastLetter 85 = .ok (.istore_n 3, 1) := by decide +kernel
theorem dX5_leastLetter_86 : decode cX5_leastLetter 86 = .ok (.iinc 4 1, 3) := by decide +kernel
theorem dX5_leastLetter_89 : decode cX5_leastLetter 89 = .ok (.goto (-77), 3) := by decide +kernel
theorem dX5_leastLetter_92 : decode cX5_leastLetter 92 = .ok (.bipush (-6), 2) := by decide +kernel
theorem dX5_leastLetter_94 : decode cX5_leastLetter 94 = .ok (.ireturn, 1) := by decide +kernel
theorem dX5_priceAll_0 : decode cX5_priceAll 0 = .ok (.aload_n 0, 1) := by decide +kernel
theorem dX5_priceAll_1 : decode cX5_priceAll 1 = .ok (.getfield 23, 3) := by decide +kernel
theorem dX5_priceAll_4 : decode cX5_priceAll 4 = .ok (.getfield 27, 3) := by decide +kernel
theorem dX5_priceAll_7 : decode cX5_priceAll 7 = .ok (.iconst 1, 1) := by decide +kernel
theorem dX5_priceAll_8 : decode cX5_priceAll 8 = .ok (.isub, 1) := by decide +kernel
theorem dX5_priceAll_9 : decode cX5_priceAll 9 = .ok (.istore_n 1, 1) := by decide +kernel
theorem dX5_priceAll_10 : decode cX5_priceAll 10 = .ok (.iload_n 1, 1) := by decide +kernel
theorem dX5_priceAll_11 : decode cX5_priceAll 11 = .ok (.ifCond .lt 38, 3) := by decide +kernel
theorem dX5_priceAll_14 : decode cX5_priceAll 14 = .ok (.aload_n 0, 1) := by decide +kernel
theorem dX5_priceAll_15 : decode cX5_priceAll 15 = .ok (.getfield 23, 3) := by decide +kernel
theorem dX5_priceAll_18 : decode cX5_priceAll 18 = .ok (.getfield 41, 3) := by decide +kernel
theorem dX5_priceAll_21 : decode cX5_priceAll 21 = .ok (.iload_n 1, 1) := by decide +kernel
theorem dX5_priceAll_22 : decode cX5_priceAll 22 = .ok (.aload_n 0, 1) := by decide +kernel
theorem dX5_priceAll_23 : decode cX5_priceAll 23 = .ok (.getfield 23, 3) := by decide +kernel
theorem dX5_priceAll_26 : decode cX5_priceAll 26 = .ok (.iload_n 1, 1) := by decide +kernel
theorem dX5_priceAll_27 : decode cX5_priceAll 27 = .ok (.invokevirtual 33, 3) := by decide +kernel
theorem dX5_priceAll_30 : decode cX5_priceAll 30 = .ok (.ifCond .eq 7, 3) := by decide +kernel
theorem dX5_priceAll_33 : decode cX5_priceAll 33 = .ok (.lconst 0, 1) := by decide +kernel
theorem dX5_priceAll_34 : decode cX5_priceAll 34 = .ok (.goto 8, 3) := by decide +kernel
theorem dX5_priceAll_37 : decode cX5_priceAll 37 = .ok (.aload_n 0, 1) := by decide +kernel
theorem dX5_priceAll_38 : decode cX5_priceAll 38 = .ok (.iload_n 1, 1) := by decide +kernel
theorem dX5_priceAll_39 : decode cX5_priceAll 39 = .ok (.invokevirtual 68, 3) := by decide +kernel
theorem dX5_priceAll_42 : decode cX5_priceAll 42 = .ok (.lastore, 1) := by decide +kernel
theorem dX5_priceAll_43 : decode cX5_priceAll 43 = .ok (.iinc 1 (-1), 3) := by decide +kernel
theorem dX5_priceAll_46 : decode cX5_priceAll 46 = .ok (.goto (-36), 3) := by decide +kernel
theorem dX5_priceAll_49 : decode cX5_priceAll 49 = .ok (.return_, 1) := by decide +kernel
theorem dX5_packedPrices_0 : decode cX5_packedPrices 0 = .ok (.iconst 0, 1) := by decide +kernel
theorem dX5_packedPrices_1 : decode cX5_packedPrices 1 = .ok (.istore_n 2, 1) := by decide +kernel
theorem dX5_packedPrices_2 : decode cX5_packedPrices 2 = .ok (.iload_n 2, 1) := by decide +kernel
theorem dX5_packedPrices_3 : decode cX5_packedPrices 3 = .ok (.iconst 4, 1) := by decide +kernel
theorem dX5_packedPrices_4 : decode cX5_packedPrices 4 = .ok (.if_icmp .ge 18, 3) := by decide +kernel
theorem dX5_packedPrices_7 : decode cX5_packedPrices 7 = .ok (.aload_n 0, 1) := by decide +kernel
theorem dX5_packedPrices_8 : decode cX5_packedPrices 8 = .ok (.getfield 9, 3) := by decide +kernel
theorem dX5_packedPrices_11 : decode cX5_packedPrices 11 = .ok (.iload_n 2, 1) := by decide +kernel
theorem dX5_packedPrices_12 : decode cX5_packedPrices 12 = .ok (.sipush 10000, 3) := by decide +kernel
theorem dX5_packedPrices_15 : decode cX5_packedPrices 15 = .ok (.iastore, 1) := by decide +kernel
theorem dX5_packedPrices_16 : decode cX5_packedPrices 16 = .ok (.iinc 2 1, 3) := by decide +kernel
theorem dX5_packedPrices_19 : decode cX5_packedPrices 19 = .ok (.goto (-17), 3) := by decide +kernel
theorem dX5_packedPrices_22 : decode cX5_packedPrices 22 = .ok (.sipush 10000, 3) := by decide +kernel
theorem dX5_packedPrices_25 : decode cX5_packedPrices 25 = .ok (.istore_n 2, 1) := by decide +kernel
theorem dX5_packedPrices_26 : decode cX5_packedPrices 26 = .ok (.iconst 0, 1) := by decide +kernel
theorem dX5_packedPrices_27 : decode cX5_packedPrices 27 = .ok (.istore_n 3, 1) := by decide +kernel
theorem dX5_packedPrices_28 : decode cX5_packedPrices 28 = .ok (.iload_n 3, 1) := by decide +kernel
theorem dX5_packedPrices_29 : decode cX5_packedPrices 29 = .ok (.iconst 4, 1) := by decide +kernel
theorem dX5_packedPrices_30 : decode cX5_packedPrices 30 = .ok (.if_icmp .ge 56, 3) := by decide +kernel
theorem dX5_packedPrices_33 : decode cX5_packedPrices 33 = .ok (.aload_n 0, 1) := by decide +kernel
theorem dX5_packedPrices_34 : decode cX5_packedPrices 34 = .ok (.getfield 19, 3) := by decide +kernel
theorem dX5_packedPrices_37 : decode cX5_packedPrices 37 = .ok (.getfield 65, 3) := by decide +kernel
theorem dX5_packedPrices_40 : decode cX5_packedPrices 40 = .ok (.iload_n 3, 1) := by decide +kernel
theorem dX5_packedPrices_41 : decode cX5_packedPrices 41 = .ok (.iaload, 1) := by decide +kernel
theorem dX5_packedPrices_42 : decode cX5_packedPrices 42 = .ok (.istore 4, 2) := by decide +kernel
theorem dX5_packedPrices_44 : decode cX5_packedPrices 44 = .ok (.aload_n 0, 1) := by decide +kernel
theorem dX5_packedPrices_45 : decode cX5_packedPrices 45 = .ok (.iload_n 1, 1) := by decide +kernel
theorem dX5_packedPrices_46 : decode cX5_packedPrices 46 = .ok (.iload_n 3, 1) := by decide +kernel
theorem dX5_packedPrices_47 : decode cX5_packedPrices 47 = .ok (.iload 4, 2) := by decide +kernel
theorem dX5_packedPrices_49 : decode cX5_packedPrices 49 = .ok (.invokevirtual 72, 3) := by decide +kernel
theorem dX5_packedPrices_52 : decode cX5_packedPrices 52 = .ok (.istore 5, 2) := by decide +kernel
theorem dX5_packedPrices_54 : decode cX5_packedPrices 54 = .ok (.aload_n 0, 1) := by decide +kernel
theorem dX5_packedPrices_55 : decode cX5_packedPrices 55 = .ok (.getfield 9, 3) := by decide +kernel
theorem dX5_packedPrices_58 : decode cX5_packedPrices 58 = .ok (.iload 4, 2) := by decide +kernel
theorem dX5_packedPrices_60 : decode cX5_packedPrices 60 = .ok (.aload_n 0, 1) := by decide +kernel
theorem dX5_packedPrices_61 : decode cX5_packedPrices 61 = .ok (.getfield 9, 3) := by decide +kernel
theorem dX5_packedPrices_64 : decode cX5_packedPrices 64 = .ok (.iload 4, 2) := by decide +kernel
theorem dX5_packedPrices_66 : decode cX5_packedPrices 66 = .ok (.iaload, 1) := by decide +kernel
theorem dX5_packedPrices_67 : decode cX5_packedPrices 67 = .ok (.iload 5, 2) := by decide +kernel
theorem dX5_packedPrices_69 : decode cX5_packedPrices 69 = .ok (.invokestatic 76, 3) := by decide +kernel
theorem dX5_packedPrices_72 : decode cX5_packedPrices 72 = .ok (.iastore, 1) := by decide +kernel
theorem dX5_packedPrices_73 : decode cX5_packedPrices 73 = .ok (.iload_n 2, 1) := by decide +kernel
theorem dX5_packedPrices_74 : decode cX5_packedPrices 74 = .ok (.iload 5, 2) := by decide +kernel
theorem dX5_packedPrices_76 : decode cX5_packedPrices 76 = .ok (.invokestatic 76, 3) := by decide +kernel
theorem dX5_packedPrices_79 : decode cX5_packedPrices 79 = .ok (.istore_n 2, 1) := by decide +kernel
theorem dX5_packedPrices_80 : decode cX5_packedPrices 80 = .ok (.iinc 3 1, 3) := by decide +kernel
theorem dX5_packedPrices_83 : decode cX5_packedPrices 83 = .ok (.goto (-55), 3) := by decide +kernel
theorem dX5_packedPrices_86 : decode cX5_packedPrices 86 = .ok (.lconst 0, 1) := by decide +kernel
theorem dX5_packedPrices_87 : decode cX5_packedPrices 87 = .ok (.lstore_n 3, 1) := by decide +kernel
theorem dX5_packedPrices_88 : decode cX5_packedPrices 88 = .ok (.iconst 0, 1) := by decide +kernel
theorem dX5_packedPrices_89 : decode cX5_packedPrices 89 = .ok (.istore 5, 2) := by decide +kernel
theorem dX5_packedPrices_91 : decode cX5_packedPrices 91 = .ok (.iload 5, 2) := by decide +kernel
theorem dX5_packedPrices_93 : decode cX5_packedPrices 93 = .ok (.iconst 4, 1) := by decide +kernel
theorem dX5_packedPrices_94 : decode cX5_packedPrices 94 = .ok (.if_icmp .ge 38, 3) := by decide +kernel
theorem dX5_packedPrices_97 : decode cX5_packedPrices 97 = .ok (.lload_n 3, 1) := by decide +kernel
theorem dX5_packedPrices_98 : decode cX5_packedPrices 98 = .ok (.aload_n 0, 1) := by decide +kernel
theorem dX5_packedPrices_99 : decode cX5_packedPrices 99 = .ok (.getfield 9, 3) := by decide +kernel
theorem dX5_packedPrices_102 : decode cX5_packedPrices 102 = .ok (.iload 5, 2) := by decide +kernel
theorem dX5_packedPrices_104 : decode cX5_packedPrices 104 = .ok (.iaload, 1) := by decide +kernel
theorem dX5_packedPrices_105 : decode cX5_packedPrices 105 = .ok (.iload_n 2, 1) := by decide +kernel
theorem dX5_packedPrices_106 : decode cX5_packedPrices 106 = .ok (.aload_n 0, 1) := by decide +kernel
theorem dX5_packedPrices_107 : decode cX5_packedPrices 107 = .ok (.getfield 19, 3) := by decide +kernel
theorem dX5_packedPrices_110 : decode cX5_packedPrices 110 = .ok (.getfield 81, 3) := by decide +kernel
theorem dX5_packedPrices_113 : decode cX5_packedPrices 113 = .ok (.iadd, 1) := by decide +kernel
theorem dX5_packedPrices_114 : decode cX5_packedPrices 114 = .ok (.invokestatic 76, 3) := by decide +kernel
theorem dX5_packedPrices_117 : decode cX5_packedPrices 117 = .ok (.i2l, 1) := by decide +kernel
theorem dX5_packedPrices_118 : decode cX5_packedPrices 118 = .ok (.bipush 16, 2) := by decide +kernel
theorem dX5_packedPrices_120 : decode cX5_packedPrices 120 = .ok (.iload 5, 2) := by decide +kernel
theorem dX5_packedPrices_122 : decode cX5_packedPrices 122 = .ok (.imul, 1) := by decide +kernel
theorem dX5_packedPrices_123 : decode cX5_packedPrices 123 = .ok (.lshl, 1) := by decide +kernel
theorem dX5_packedPrices_124 : decode cX5_packedPrices 124 = .ok (.lor, 1) := by decide +kernel
theorem dX5_packedPrices_125 : decode cX5_packedPrices 125 = .ok (.lstore_n 3, 1) := by decide +kernel
theorem dX5_packedPrices_126 : decode cX5_packedPrices 126 = .ok (.iinc 5 1, 3) := by decide +kernel
theorem dX5_packedPrices_129 : decode cX5_packedPrices 129 = .ok (.goto (-38), 3) := by decide +kernel
theorem dX5_packedPrices_132 : decode cX5_packedPrices 132 = .ok (.lload_n 3, 1) := by decide +kernel
theorem dX5_packedPrices_133 : decode cX5_packedPrices 133 = .ok (.lreturn, 1) := by decide +kernel
theorem dX5_priceOf_0 : decode cX5_priceOf 0 = .ok (.aload_n 0, 1) := by decide +kernel
theorem dX5_priceOf_1 : decode cX5_priceOf 1 = .ok (.getfield 23, 3) := by decide +kernel
theorem dX5_priceOf_4 : decode cX5_priceOf 4 = .ok (.iload_n 1, 1) := by decide +kernel
theorem dX5_priceOf_5 : decode cX5_priceOf 5 = .ok (.iload_n 2, 1) := by decide +kernel
theorem dX5_priceOf_6 : decode cX5_priceOf 6 = .ok (.invokevirtual 37, 3) := by decide +kernel
theorem dX5_priceOf_9 : decode cX5_priceOf 9 = .ok (.istore 4, 2) := by decide +kernel
theorem dX5_priceOf_11 : decode cX5_priceOf 11 = .ok (.iload 4, 2) := by decide +kernel
theorem dX5_priceOf_13 : decode cX5_priceOf 13 = .ok (.bipush (-6), 2) := by decide +kernel
theorem dX5_priceOf_15 : decode cX5_priceOf 15 = .ok (.if_icmp .ne 7, 3) := by decide +kernel
theorem dX5_priceOf_18 : decode cX5_priceOf 18 = .ok (.sipush 10000, 3) := by decide +kernel
theorem dX5_priceOf_21 : decode cX5_priceOf 21 = .ok (.ireturn, 1) := by decide +kernel
theorem dX5_priceOf_22 : decode cX5_priceOf 22 = .ok (.aload_n 0, 1) := by decide +kernel
theorem dX5_priceOf_23 : decode cX5_priceOf 23 = .ok (.getfield 19, 3) := by decide +kernel
theorem dX5_priceOf_26 : decode cX5_priceOf 26 = .ok (.getfield 65, 3) := by decide +kernel
theorem dX5_priceOf_29 : decode cX5_priceOf 29 = .ok (.iload_n 2, 1) := by decide +kernel
theorem dX5_priceOf_30 : decode cX5_priceOf 30 = .ok (.iaload, 1) := by decide +kernel
theorem dX5_priceOf_31 : decode cX5_priceOf 31 = .ok (.istore 5, 2) := by decide +kernel
theorem dX5_priceOf_33 : decode cX5_priceOf 33 = .ok (.aload_n 0, 1) := by decide +kernel
theorem dX5_priceOf_34 : decode cX5_priceOf 34 = .ok (.getfield 23, 3) := by decide +kernel
theorem dX5_priceOf_37 : decode cX5_priceOf 37 = .ok (.getfield 41, 3) := by decide +kernel
theorem dX5_priceOf_40 : decode cX5_priceOf 40 = .ok (.iload 4, 2) := by decide +kernel
theorem dX5_priceOf_42 : decode cX5_priceOf 42 = .ok (.laload, 1) := by decide +kernel
theorem dX5_priceOf_43 : decode cX5_priceOf 43 = .ok (.bipush 16, 2) := by decide +kernel
theorem dX5_priceOf_45 : decode cX5_priceOf 45 = .ok (.iload 5, 2) := by decide +kernel
theorem dX5_priceOf_47 : decode cX5_priceOf 47 = .ok (.imul, 1) := by decide +kernel
theorem dX5_priceOf_48 : decode cX5_priceOf 48 = .ok (.lshr, 1) := by decide +kernel
theorem dX5_priceOf_49 : decode cX5_priceOf 49 = .ok (.l2i, 1) := by decide +kernel
theorem dX5_priceOf_50 : decode cX5_priceOf 50 = .ok (.ldc 84, 2) := by decide +kernel
theorem dX5_priceOf_52 : decode cX5_priceOf 52 = .ok (.iand, 1) := by decide +kernel
theorem dX5_priceOf_53 : decode cX5_priceOf 53 = .ok (.istore 6, 2) := by decide +kernel
theorem dX5_priceOf_55 : decode cX5_priceOf 55 = .ok (.iload_n 3, 1) := by decide +kernel
theorem dX5_priceOf_56 : decode cX5_priceOf 56 = .ok (.bipush (-6), 2) := by decide +kernel
theorem dX5_priceOf_58 : decode cX5_priceOf 58 = .ok (.if_icmp .eq 9, 3) := by decide +kernel
theorem dX5_priceOf_61 : decode cX5_priceOf 61 = .ok (.iload_n 3, 1) := by decide +kernel
theorem dX5_priceOf_62 : decode cX5_priceOf 62 = .ok (.iload 5, 2) := by decide +kernel
theorem dX5_priceOf_64 : decode cX5_priceOf 64 = .ok (.if_icmp .ne 8, 3) := by decide +kernel
theorem dX5_priceOf_67 : decode cX5_priceOf 67 = .ok (.iload 6, 2) := by decide +kernel
theorem dX5_priceOf_69 : decode cX5_priceOf 69 = .ok (.goto 13, 3) := by decide +kernel
theorem dX5_priceOf_72 : decode cX5_priceOf 72 = .ok (.iload 6, 2) := by decide +kernel
theorem dX5_priceOf_74 : decode cX5_priceOf 74 = .ok (.aload_n 0, 1) := by decide +kernel
theorem dX5_priceOf_75 : decode cX5_priceOf 75 = .ok (.getfield 19, 3) := by decide +kernel
theorem dX5_priceOf_78 : decode cX5_priceOf 78 = .ok (.getfield 81, 3) := by decide +kernel
theorem dX5_priceOf_81 : decode cX5_priceOf 81 = .ok (.iadd, 1) := by decide +kernel
theorem dX5_priceOf_82 : decode cX5_priceOf 82 = .ok (.ireturn, 1) := by decide +kernel
theorem dX5_leastPrice_0 : decode cX5_leastPrice 0 = .ok (.sipush 10000, 3) := by decide +kernel
theorem dX5_leastPrice_3 : decode cX5_leastPrice 3 = .ok (.istore_n 3, 1) := by decide +kernel
theorem dX5_leastPrice_4 : decode cX5_leastPrice 4 = .ok (.iconst 0, 1) := by decide +kernel
theorem dX5_leastPrice_5 : decode cX5_leastPrice 5 = .ok (.istore 4, 2) := by decide +kernel
theorem dX5_leastPrice_7 : decode cX5_leastPrice 7 = .ok (.iload 4, 2) := by decide +kernel
theorem dX5_leastPrice_9 : decode cX5_leastPrice 9 = .ok (.iconst 4, 1) := by decide +kernel
theorem dX5_leastPrice_10 : decode cX5_leastPrice 10 = .ok (.if_icmp .ge 22, 3) := by decide +kernel
theorem dX5_leastPrice_13 : decode cX5_leastPrice 13 = .ok (.iload_n 3, 1) := by decide +kernel
theorem dX5_leastPrice_14 : decode cX5_leastPrice 14 = .ok (.aload_n 0, 1) := by decide +kernel
theorem dX5_leastPrice_15 : decode cX5_leastPrice 15 = .ok (.iload_n 1, 1) := by decide +kernel
theorem dX5_leastPrice_16 : decode cX5_leastPrice 16 = .ok (.iload 4, 2) := by decide +kernel
theorem dX5_leastPrice_18 : decode cX5_leastPrice 18 = .ok (.iload_n 2, 1) := by decide +kernel
theorem dX5_leastPrice_19 : decode cX5_leastPrice 19 = .ok (.invokevirtual 72, 3) := by decide +kernel
theorem dX5_leastPrice_22 : decode cX5_leastPrice 22 = .ok (.invokestatic 76, 3) := by decide +kernel
theorem dX5_leastPrice_25 : decode cX5_leastPrice 25 = .ok (.istore_n 3, 1) := by decide +kernel
theorem dX5_leastPrice_26 : decode cX5_leastPrice 26 = .ok (.iinc 4 1, 3) := by decide +kernel
theorem dX5_leastPrice_29 : decode cX5_leastPrice 29 = .ok (.goto (-22), 3) := by decide +kernel
theorem dX5_leastPrice_32 : decode cX5_leastPrice 32 = .ok (.iload_n 3, 1) := by decide +kernel
theorem dX5_leastPrice_33 : decode cX5_leastPrice 33 = .ok (.ireturn, 1) := by decide +kernel
theorem dX5_cheapestStory_0 : decode cX5_cheapestStory 0 = .ok (.aload_n 0, 1) := by decide +kernel
theorem dX5_cheapestStory_1 : decode cX5_cheapestStory 1 = .ok (.iload_n 1, 1) := by decide +kernel
theorem dX5_cheapestStory_2 : decode cX5_cheapestStory 2 = .ok (.iload_n 2, 1) := by decide +kernel
theorem dX5_cheapestStory_3 : decode cX5_cheapestStory 3 = .ok (.invokevirtual 48, 3) := by decide +kernel
theorem dX5_cheapestStory_6 : decode cX5_cheapestStory 6 = .ok (.istore_n 3, 1) := by decide +kernel
theorem dX5_cheapestStory_7 : decode cX5_cheapestStory 7 = .ok (.iload_n 3, 1) := by decide +kernel
theorem dX5_cheapestStory_8 : decode cX5_cheapestStory 8 = .ok (.sipush 10000, 3) := by decide +kernel
theorem dX5_cheapestStory_11 : decode cX5_cheapestStory 11 = .ok (.if_icmp .lt 6, 3) := by decide +kernel
theorem dX5_cheapestStory_14 : decode cX5_cheapestStory 14 = .ok (.bipush (-6), 2) := by decide +kernel
theorem dX5_cheapestStory_16 : decode cX5_cheapestStory 16 = .ok (.ireturn, 1) := by decide +kernel
theorem dX5_cheapestStory_17 : decode cX5_cheapestStory 17 = .ok (.iconst 0, 1) := by decide +kernel
theorem dX5_cheapestStory_18 : decode cX5_cheapestStory 18 = .ok (.istore 4, 2) := by decide +kernel
theorem dX5_cheapestStory_20 : decode cX5_cheapestStory 20 = .ok (.iload 4, 2) := by decide +kernel
theorem dX5_cheapestStory_22 : decode cX5_cheapestStory 22 = .ok (.iconst 4, 1) := by decide +kernel
theorem dX5_cheapestStory_23 : decode cX5_cheapestStory 23 = .ok (.if_icmp .ge 24, 3) := by decide +kernel
theorem dX5_cheapestStory_26 : decode cX5_cheapestStory 26 = .ok (.aload_n 0, 1) := by decide +kernel
theorem dX5_cheapestStory_27 : decode cX5_cheapestStory 27 = .ok (.iload_n 1, 1) := by decide +kernel
theorem dX5_cheapestStory_28 : decode cX5_cheapestStory 28 = .ok (.iload 4, 2) := by decide +kernel
theorem dX5_cheapestStory_30 : decode cX5_cheapestStory 30 = .ok (.iload_n 2, 1) := by decide +kernel
theorem dX5_cheapestStory_31 : decode cX5_cheapestStory 31 = .ok (.invokevirtual 72, 3) := by decide +kernel
theorem dX5_cheapestStory_34 : decode cX5_cheapestStory 34 = .ok (.iload_n 3, 1) := by decide +kernel
theorem dX5_cheapestStory_35 : decode cX5_cheapestStory 35 = .ok (.if_icmp .ne 6, 3) := by decide +kernel
theorem dX5_cheapestStory_38 : decode cX5_cheapestStory 38 = .ok (.iload 4, 2) := by decide +kernel
theorem dX5_cheapestStory_40 : decode cX5_cheapestStory 40 = .ok (.ireturn, 1) := by decide +kernel
theorem dX5_cheapestStory_41 : decode cX5_cheapestStory 41 = .ok (.iinc 4 1, 3) := by decide +kernel
theorem dX5_cheapestStory_44 : decode cX5_cheapestStory 44 = .ok (.goto (-24), 3) := by decide +kernel
theorem dX5_cheapestStory_47 : decode cX5_cheapestStory 47 = .ok (.bipush (-6), 2) := by decide +kernel
theorem dX5_cheapestStory_49 : decode cX5_cheapestStory 49 = .ok (.ireturn, 1) := by decide +kernel
theorem dX5_markEnds_0 : decode cX5_markEnds 0 = .ok (.iconst 0, 1) := by decide +kernel
theorem dX5_markEnds_1 : decode cX5_markEnds 1 = .ok (.istore_n 2, 1) := by decide +kernel
theorem dX5_markEnds_2 : decode cX5_markEnds 2 = .ok (.iload_n 2, 1) := by decide +kernel
theorem dX5_markEnds_3 : decode cX5_markEnds 3 = .ok (.sipush 144, 3) := by decide +kernel
theorem dX5_markEnds_6 : decode cX5_markEnds 6 = .ok (.if_icmp .gt 16, 3) := by decide +kernel
theorem dX5_markEnds_9 : decode cX5_markEnds 9 = .ok (.aload_n 0, 1) := by decide +kernel
theorem dX5_markEnds_10 : decode cX5_markEnds 10 = .ok (.getfield 15, 3) := by decide +kernel
theorem dX5_markEnds_13 : decode cX5_markEnds 13 = .ok (.iload_n 2, 1) := by decide +kernel
theorem dX5_markEnds_14 : decode cX5_markEnds 14 = .ok (.iconst 0, 1) := by decide +kernel
theorem dX5_markEnds_15 : decode cX5_markEnds 15 = .ok (.bastore, 1) := by decide +kernel
theorem dX5_markEnds_16 : decode cX5_markEnds 16 = .ok (.iinc 2 1, 3) := by decide +kernel
theorem dX5_markEnds_19 : decode cX5_markEnds 19 = .ok (.goto (-17), 3) := by decide +kernel
theorem dX5_markEnds_22 : decode cX5_markEnds 22 = .ok (.aload_n 0, 1) := by decide +kernel
theorem dX5_markEnds_23 : decode cX5_markEnds 23 = .ok (.invokevirtual 85, 3) := by decide +kernel
theorem dX5_markEnds_26 : decode cX5_markEnds 26 = .ok (.pop2, 1) := by decide +kernel
theorem dX5_markEnds_27 : decode cX5_markEnds 27 = .ok (.iconst 0, 1) := by decide +kernel
theorem dX5_markEnds_28 : decode cX5_markEnds 28 = .ok (.istore_n 2, 1) := by decide +kernel
theorem dX5_markEnds_29 : decode cX5_markEnds 29 = .ok (.iload_n 2, 1) := by decide +kernel
theorem dX5_markEnds_30 : decode cX5_markEnds 30 = .ok (.aload_n 0, 1) := by decide +kernel
theorem dX5_markEnds_31 : decode cX5_markEnds 31 = .ok (.getfield 23, 3) := by decide +kernel
theorem dX5_markEnds_34 : decode cX5_markEnds 34 = .ok (.getfield 27, 3) := by decide +kernel
theorem dX5_markEnds_37 : decode cX5_markEnds 37 = .ok (.if_icmp .ge 63, 3) := by decide +kernel
theorem dX5_markEnds_40 : decode cX5_markEnds 40 = .ok (.aload_n 0, 1) := by decide +kernel
theorem dX5_markEnds_41 : decode cX5_markEnds 41 = .ok (.getfield 23, 3) := by decide +kernel
theorem dX5_markEnds_44 : decode cX5_markEnds 44 = .ok (.iload_n 2, 1) := by decide +kernel
theorem dX5_markEnds_45 : decode cX5_markEnds 45 = .ok (.iload_n 1, 1) := by decide +kernel
theorem dX5_markEnds_46 : decode cX5_markEnds 46 = .ok (.invokevirtual 37, 3) := by decide +kernel
theorem dX5_markEnds_49 : decode cX5_markEnds 49 = .ok (.istore_n 3, 1) := by decide +kernel
theorem dX5_markEnds_50 : decode cX5_markEnds 50 = .ok (.iload_n 3, 1) := by decide +kernel
theorem dX5_markEnds_51 : decode cX5_markEnds 51 = .ok (.bipush (-6), 2) := by decide +kernel
theorem dX5_markEnds_53 : decode cX5_markEnds 53 = .ok (.if_icmp .eq 41, 3) := by decide +kernel
theorem dX5_markEnds_56 : decode cX5_markEnds 56 = .ok (.aload_n 0, 1) := by decide +kernel
theorem dX5_markEnds_57 : decode cX5_markEnds 57 = .ok (.getfield 23, 3) := by decide +kernel
theorem dX5_markEnds_60 : decode cX5_markEnds 60 = .ok (.iload_n 3, 1) := by decide +kernel
theorem dX5_markEnds_61 : decode cX5_markEnds 61 = .ok (.iload_n 1, 1) := by decide +kernel
theorem dX5_markEnds_62 : decode cX5_markEnds 62 = .ok (.invokevirtual 89, 3) := by decide +kernel
theorem dX5_markEnds_65 : decode cX5_markEnds 65 = .ok (.ifCond .eq 29, 3) := by decide +kernel
theorem dX5_markEnds_68 : decode cX5_markEnds 68 = .ok (.aload_n 0, 1) := by decide +kernel
theorem dX5_markEnds_69 : decode cX5_markEnds 69 = .ok (.getfield 23, 3) := by decide +kernel
theorem dX5_markEnds_72 : decode cX5_markEnds 72 = .ok (.getfield 41, 3) := by decide +kernel
theorem dX5_markEnds_75 : decode cX5_markEnds 75 = .ok (.iload_n 3, 1) := by decide +kernel
theorem dX5_markEnds_76 : decode cX5_markEnds 76 = .ok (.laload, 1) := by decide +kernel
theorem dX5_markEnds_77 : decode cX5_markEnds 77 = .ok (.lconst 0, 1) := by decide +kernel
theorem dX5_markEnds_78 : decode cX5_markEnds 78 = .ok (.lcmp, 1) := by decide +kernel
theorem dX5_markEnds_79 : decode cX5_markEnds 79 = .ok (.ifCond .le 15, 3) := by decide +kernel
theorem dX5_markEnds_82 : decode cX5_markEnds 82 = .ok (.aload_n 0, 1) := by decide +kernel
theorem dX5_markEnds_83 : decode cX5_markEnds 83 = .ok (.aload_n 0, 1) := by decide +kernel
theorem dX5_markEnds_84 : decode cX5_markEnds 84 = .ok (.getfield 23, 3) := by decide +kernel
theorem dX5_markEnds_87 : decode cX5_markEnds 87 = .ok (.iload_n 3, 1) := by decide +kernel
theorem dX5_markEnds_88 : decode cX5_markEnds 88 = .ok (.invokevirtual 93, 3) := by decide +kernel
theorem dX5_markEnds_91 : decode cX5_markEnds 91 = .ok (.invokevirtual 97, 3) := by decide +kernel
theorem dX5_markEnds_94 : decode cX5_markEnds 94 = .ok (.iinc 2 1, 3) := by decide +kernel
theorem dX5_markEnds_97 : decode cX5_markEnds 97 = .ok (.goto (-68), 3) := by decide +kernel
theorem dX5_markEnds_100 : decode cX5_markEnds 100 = .ok (.return_, 1) := by decide +kernel
theorem dX5_markMinute_0 : decode cX5_markMinute 0 = .ok (.iload_n 1, 1) := by decide +kernel
theorem dX5_markMinute_1 : decode cX5_markMinute 1 = .ok (.iconst 0, 1) := by decide +kernel
theorem dX5_markMinute_2 : decode cX5_markMinute 2 = .ok (.sipush 144, 3) := by decide +kernel
theorem dX5_markMinute_5 : decode cX5_markMinute 5 = .ok (.invokestatic 101, 3) := by decide +kernel
theorem dX5_markMinute_8 : decode cX5_markMinute 8 = .ok (.ifCond .eq 10, 3) := by decide +kernel
theorem dX5_markMinute_11 : decode cX5_markMinute 11 = .ok (.aload_n 0, 1) := by decide +kernel
theorem dX5_markMinute_12 : decode cX5_markMinute 12 = .ok (.getfield 15, 3) := by decide +kernel
theorem dX5_markMinute_15 : decode cX5_markMinute 15 = .ok (.iload_n 1, 1) := by decide +kernel
theorem dX5_markMinute_16 : decode cX5_markMinute 16 = .ok (.iconst 1, 1) := by decide +kernel
theorem dX5_markMinute_17 : decode cX5_markMinute 17 = .ok (.bastore, 1) := by decide +kernel
theorem dX5_markMinute_18 : decode cX5_markMinute 18 = .ok (.return_, 1) := by decide +kernel
theorem dX5_marked_0 : decode cX5_marked 0 = .ok (.iconst 0, 1) := by decide +kernel
theorem dX5_marked_1 : decode cX5_marked 1 = .ok (.istore_n 1, 1) := by decide +kernel
theorem dX5_marked_2 : decode cX5_marked 2 = .ok (.iconst 0, 1) := by decide +kernel
theorem dX5_marked_3 : decode cX5_marked 3 = .ok (.istore_n 2, 1) := by decide +kernel
theorem dX5_marked_4 : decode cX5_marked 4 = .ok (.iload_n 2, 1) := by decide +kernel
theorem dX5_marked_5 : decode cX5_marked 5 = .ok (.sipush 144, 3) := by decide +kernel
theorem dX5_marked_8 : decode cX5_marked 8 = .ok (.if_icmp .gt 26, 3) := by decide +kernel
theorem dX5_marked_11 : decode cX5_marked 11 = .ok (.iload_n 1, 1) := by decide +kernel
theorem dX5_marked_12 : decode cX5_marked 12 = .ok (.aload_n 0, 1) := by decide +kernel
theorem dX5_marked_13 : decode cX5_marked 13 = .ok (.getfield 15, 3) := by decide +kernel
theorem dX5_marked_16 : decode cX5_marked 16 = .ok (.iload_n 2, 1) := by decide +kernel
theorem dX5_marked_17 : decode cX5_marked 17 = .ok (.baload, 1) := by decide +kernel
theorem dX5_marked_18 : decode cX5_marked 18 = .ok (.ifCond .eq 7, 3) := by decide +kernel
theorem dX5_marked_21 : decode cX5_marked 21 = .ok (.iconst 1, 1) := by decide +kernel
theorem dX5_marked_22 : decode cX5_marked 22 = .ok (.goto 4, 3) := by decide +kernel
theorem dX5_marked_25 : decode cX5_marked 25 = .ok (.iconst 0, 1) := by decide +kernel
theorem dX5_marked_26 : decode cX5_marked 26 = .ok (.iadd, 1) := by decide +kernel
theorem dX5_marked_27 : decode cX5_marked 27 = .ok (.istore_n 1, 1) := by decide +kernel
theorem dX5_marked_28 : decode cX5_marked 28 = .ok (.iinc 2 1, 3) := by decide +kernel
theorem dX5_marked_31 : decode cX5_marked 31 = .ok (.goto (-27), 3) := by decide +kernel
theorem dX5_marked_34 : decode cX5_marked 34 = .ok (.iload_n 1, 1) := by decide +kernel
theorem dX5_marked_35 : decode cX5_marked 35 = .ok (.ireturn, 1) := by decide +kernel
theorem dX5_markedMinute_0 : decode cX5_markedMinute 0 = .ok (.iconst 0, 1) := by decide +kernel
theorem dX5_markedMinute_1 : decode cX5_markedMinute 1 = .ok (.istore_n 2, 1) := by decide +kernel
theorem dX5_markedMinute_2 : decode cX5_markedMinute 2 = .ok (.iconst 0, 1) := by decide +kernel
theorem dX5_markedMinute_3 : decode cX5_markedMinute 3 = .ok (.istore_n 3, 1) := by decide +kernel
theorem dX5_markedMinute_4 : decode cX5_markedMinute 4 = .ok (.iload_n 3, 1) := by decide +kernel
theorem dX5_markedMinute_5 : decode cX5_markedMinute 5 = .ok (.sipush 144, 3) := by decide +kernel
theorem dX5_markedMinute_8 : decode cX5_markedMinute 8 = .ok (.if_icmp .gt 42, 3) := by decide +kernel
theorem dX5_markedMinute_11 : decode cX5_markedMinute 11 = .ok (.aload_n 0, 1) := by decide +kernel
theorem dX5_markedMinute_12 : decode cX5_markedMinute 12 = .ok (.getfield 15, 3) := by decide +kernel
theorem dX5_markedMinute_15 : decode cX5_markedMinute 15 = .ok (.iload_n 3, 1) := by decide +kernel
theorem dX5_markedMinute_16 : decode cX5_markedMinute 16 = .ok (.baload, 1) := by decide +kernel
theorem dX5_markedMinute_17 : decode cX5_markedMinute 17 = .ok (.ifCond .eq 10, 3) := by decide +kernel
theorem dX5_markedMinute_20 : decode cX5_markedMinute 20 = .ok (.iload_n 2, 1) := by decide +kernel
theorem dX5_markedMinute_21 : decode cX5_markedMinute 21 = .ok (.iload_n 1, 1) := by decide +kernel
theorem dX5_markedMinute_22 : decode cX5_markedMinute 22 = .ok (.if_icmp .ne 5, 3) := by decide +kernel
theorem dX5_markedMinute_25 : decode cX5_markedMinute 25 = .ok (.iload_n 3, 1) := by decide +kernel
theorem dX5_markedMinute_26 : decode cX5_markedMinute 26 = .ok (.ireturn, 1) := by decide +kernel
theorem dX5_markedMinute_27 : decode cX5_markedMinute 27 = .ok (.iload_n 2, 1) := by decide +kernel
theorem dX5_markedMinute_28 : decode cX5_markedMinute 28 = .ok (.aload_n 0, 1) := by decide +kernel
theorem dX5_markedMinute_29 : decode cX5_markedMinute 29 = .ok (.getfield 15, 3) := by decide +kernel
theorem dX5_markedMinute_32 : decode cX5_markedMinute 32 = .ok (.iload_n 3, 1) := by decide +kernel
theorem dX5_markedMinute_33 : decode cX5_markedMinute 33 = .ok (.baload, 1) := by decide +kernel
theorem dX5_markedMinute_34 : decode cX5_markedMinute 34 = .ok (.ifCond .eq 7, 3) := by decide +kernel
theorem dX5_markedMinute_37 : decode cX5_markedMinute 37 = .ok (.iconst 1, 1) := by decide +kernel
theorem dX5_markedMinute_38 : decode cX5_markedMinute 38 = .ok (.goto 4, 3) := by decide +kernel
theorem dX5_markedMinute_41 : decode cX5_markedMinute 41 = .ok (.iconst 0, 1) := by decide +kernel
theorem dX5_markedMinute_42 : decode cX5_markedMinute 42 = .ok (.iadd, 1) := by decide +kernel
theorem dX5_markedMinute_43 : decode cX5_markedMinute 43 = .ok (.istore_n 2, 1) := by decide +kernel
theorem dX5_markedMinute_44 : decode cX5_markedMinute 44 = .ok (.iinc 3 1, 3) := by decide +kernel
theorem dX5_markedMinute_47 : decode cX5_markedMinute 47 = .ok (.goto (-43), 3) := by decide +kernel
theorem dX5_markedMinute_50 : decode cX5_markedMinute 50 = .ok (.bipush (-6), 2) := by decide +kernel
theorem dX5_markedMinute_52 : decode cX5_markedMinute 52 = .ok (.ireturn, 1) := by decide +kernel
theorem dX6_init_0 : decode cX6_init 0 = .ok (.aload_n 0, 1) := by decide +kernel
theorem dX6_init_1 : decode cX6_init 1 = .ok (.invokespecial 3, 3) := by decide +kernel
theorem dX6_init_4 : decode cX6_init 4 = .ok (.aload_n 0, 1) := by decide +kernel
theorem dX6_init_5 : decode cX6_init 5 = .ok (.bipush 30, 2) := by decide +kernel
theorem dX6_init_7 : decode cX6_init 7 = .ok (.newarray .int, 2) := by decide +kernel
theorem dX6_init_9 : decode cX6_init 9 = .ok (.putfield 9, 3) := by decide +kernel
theorem dX6_init_12 : decode cX6_init 12 = .ok (.return_, 1) := by decide +kernel
theorem dX6_isFull_0 : decode cX6_isFull 0 = .ok (.aload_n 0, 1) := by decide +kernel
theorem dX6_isFull_1 : decode cX6_isFull 1 = .ok (.getfield 15, 3) := by decide +kernel
theorem dX6_isFull_4 : decode cX6_isFull 4 = .ok (.bipush 30, 2) := by decide +kernel
theorem dX6_isFull_6 : decode cX6_isFull 6 = .ok (.if_icmp .lt 7, 3) := by decide +kernel
theorem dX6_isFull_9 : decode cX6_isFull 9 = .ok (.iconst 1, 1) := by decide +kernel
theorem dX6_isFull_10 : decode cX6_isFull 10 = .ok (.goto 4, 3) := by decide +kernel
theorem dX6_isFull_13 : decode cX6_isFull 13 = .ok (.iconst 0, 1) := by decide +kernel
theorem dX6_isFull_14 : decode cX6_isFull 14 = .ok (.ireturn, 1) := by decide +kernel
theorem dX6_add_0 : decode cX6_add 0 = .ok (.aload_n 0, 1) := by decide +kernel
theorem dX6_add_1 : decode cX6_add 1 = .ok (.invokevirtual 19, 3) := by decide +kernel
theorem dX6_add_4 : decode cX6_add 4 = .ok (.ifCond .ne 23, 3) := by decide +kernel
theorem dX6_add_7 : decode cX6_add 7 = .ok (.aload_n 0, 1) := by decide +kernel
theorem dX6_add_8 : decode cX6_add 8 = .ok (.getfield 9, 3) := by decide +kernel
theorem dX6_add_11 : decode cX6_add 11 = .ok (.aload_n 0, 1) := by decide +kernel
theorem dX6_add_12 : decode cX6_add 12 = .ok (.getfield 15, 3) := by decide +kernel
theorem dX6_add_15 : decode cX6_add 15 = .ok (.iload_n 1, 1) := by decide +kernel
theorem dX6_add_16 : decode cX6_add 16 = .ok (.iastore, 1) := by decide +kernel
theorem dX6_add_17 : decode cX6_add 17 = .ok (.aload_n 0, 1) := by decide +kernel
theorem dX6_add_18 : decode cX6_add 18 = .ok (.dup, 1) := by decide +kernel
theorem dX6_add_19 : decode cX6_add 19 = .ok (.getfield 15, 3) := by decide +kernel
theorem dX6_add_22 : decode cX6_add 22 = .ok (.iconst 1, 1) := by decide +kernel
theorem dX6_add_23 : decode cX6_add 23 = .ok (.iadd, 1) := by decide +kernel
theorem dX6_add_24 : decode cX6_add 24 = .ok (.putfield 15, 3) := by decide +kernel
theorem dX6_add_27 : decode cX6_add 27 = .ok (.aload_n 0, 1) := by decide +kernel
theorem dX6_add_28 : decode cX6_add 28 = .ok (.getfield 15, 3) := by decide +kernel
theorem dX6_add_31 : decode cX6_add 31 = .ok (.ireturn, 1) := by decide +kernel
theorem dX6_clear_0 : decode cX6_clear 0 = .ok (.aload_n 0, 1) := by decide +kernel
theorem dX6_clear_1 : decode cX6_clear 1 = .ok (.getfield 15, 3) := by decide +kernel
theorem dX6_clear_4 : decode cX6_clear 4 = .ok (.istore_n 1, 1) := by decide +kernel
theorem dX6_clear_5 : decode cX6_clear 5 = .ok (.aload_n 0, 1) := by decide +kernel
theorem dX6_clear_6 : decode cX6_clear 6 = .ok (.iconst 0, 1) := by decide +kernel
theorem dX6_clear_7 : decode cX6_clear 7 = .ok (.putfield 15, 3) := by decide +kernel
theorem dX6_clear_10 : decode cX6_clear 10 = .ok (.iload_n 1, 1) := by decide +kernel
theorem dX6_clear_11 : decode cX6_clear 11 = .ok (.ireturn, 1) := by decide +kernel
theorem dX6_signAt_0 : decode cX6_signAt 0 = .ok (.iload_n 1, 1) := by decide +kernel
theorem dX6_signAt_1 : decode cX6_signAt 1 = .ok (.iconst 0, 1) := by decide +kernel
theorem dX6_signAt_2 : decode cX6_signAt 2 = .ok (.aload_n 0, 1) := by decide +kernel
theorem dX6_signAt_3 : decode cX6_signAt 3 = .ok (.getfield 15, 3) := by decide +kernel
theorem dX6_signAt_6 : decode cX6_signAt 6 = .ok (.iconst 1, 1) := by decide +kernel
theorem dX6_signAt_7 : decode cX6_signAt 7 = .ok (.isub, 1) := by decide +kernel
theorem dX6_signAt_8 : decode cX6_signAt 8 = .ok (.invokestatic 23, 3) := by decide +kernel
theorem dX6_signAt_11 : decode cX6_signAt 11 = .ok (.ifCond .eq 12, 3) := by decide +kernel
theorem dX6_signAt_14 : decode cX6_signAt 14 = .ok (.aload_n 0, 1) := by decide +kernel
theorem dX6_signAt_15 : decode cX6_signAt 15 = .ok (.getfield 9, 3) := by decide +kernel
theorem dX6_signAt_18 : decode cX6_signAt 18 = .ok (.iload_n 1, 1) := by decide +kernel
theorem dX6_signAt_19 : decode cX6_signAt 19 = .ok (.iaload, 1) := by decide +kernel
theorem dX6_signAt_20 : decode cX6_signAt 20 = .ok (.goto 4, 3) := by decide +kernel
theorem dX6_signAt_23 : decode cX6_signAt 23 = .ok (.iconst 0, 1) := by decide +kernel
theorem dX6_signAt_24 : decode cX6_signAt 24 = .ok (.ireturn, 1) := by decide +kernel
theorem dX6_faultAs_0 : decode cX6_faultAs 0 = .ok (.iload_n 1, 1) := by decide +kernel
theorem dX6_faultAs_1 : decode cX6_faultAs 1 = .ok (.ifCond .ne 8, 3) := by decide +kernel
theorem dX6_faultAs_4 : decode cX6_faultAs 4 = .ok (.aload_n 0, 1) := by decide +kernel
theorem dX6_faultAs_5 : decode cX6_faultAs 5 = .ok (.invokevirtual 27, 3) := by decide +kernel
theorem dX6_faultAs_8 : decode cX6_faultAs 8 = .ok (.ireturn, 1) := by decide +kernel
theorem dX6_faultAs_9 : decode cX6_faultAs 9 = .ok (.iload_n 1, 1) := by decide +kernel
theorem dX6_faultAs_10 : decode cX6_faultAs 10 = .ok (.iconst 1, 1) := by decide +kernel
theorem dX6_faultAs_11 : decode cX6_faultAs 11 = .ok (.if_icmp .ne 14, 3) := by decide +kernel
theorem dX6_faultAs_14 : decode cX6_faultAs 14 = .ok (.aload_n 0, 1) := by decide +kernel
theorem dX6_faultAs_15 : decode cX6_faultAs 15 = .ok (.bipush 97, 2) := by decide +kernel
theorem dX6_faultAs_17 : decode cX6_faultAs 17 = .ok (.bipush 100, 2) := by decide +kernel
theorem dX6_faultAs_19 : decode cX6_faultAs 19 = .ok (.invokevirtual 31, 3) := by decide +kernel
theorem dX6_faultAs_22 : decode cX6_faultAs 22 = .ok (.goto 11, 3) := by decide +kernel
theorem dX6_faultAs_25 : decode cX6_faultAs 25 = .ok (.aload_n 0, 1) := by decide +kernel
theorem dX6_faultAs_26 : decode cX6_faultAs 26 = .ok (.bipush 49, 2) := by decide +kernel
theorem dX6_faultAs_28 : decode cX6_faultAs 28 = .ok (.bipush 57, 2) := by decide +kernel
theorem dX6_faultAs_30 : decode cX6_faultAs 30 = .ok (.invokevirtual 31, 3) := by decide +kernel
theorem dX6_faultAs_33 : decode cX6_faultAs 33 = .ok (.ireturn, 1) := by decide +kernel
theorem dX6_storyFault_0 : decode cX6_storyFault 0 = .ok (.iconst 0, 1) := by decide +kernel
theorem dX6_storyFault_1 : decode cX6_storyFault 1 = .ok (.istore_n 1, 1) := by decide +kernel
theorem dX6_storyFault_2 : decode cX6_storyFault 2 = .ok (.iconst 1, 1) := by decide +kernel
theorem dX6_storyFault_3 : decode cX6_storyFault 3 = .ok (.istore_n 2, 1) := by decide +kernel
theorem dX6_storyFault_4 : decode cX6_storyFault 4 = .ok (.iconst 0, 1) := by decide +kernel
theorem dX6_storyFault_5 : decode cX6_storyFault 5 = .ok (.istore_n 3, 1) := by decide +kernel
theorem dX6_storyFault_6 : decode cX6_storyFault 6 = .ok (.iload_n 3, 1) := by decide +kernel
theorem dX6_storyFault_7 : decode cX6_storyFault 7 = .ok (.aload_n 0, 1) := by decide +kernel
theorem dX6_storyFault_8 : decode cX6_storyFault 8 = .ok (.getfield 15, 3) := by decide +kernel
theorem dX6_storyFault_11 : decode cX6_storyFault 11 = .ok (.if_icmp .ge 65, 3) := by decide +kernel
theorem dX6_storyFault_14 : decode cX6_storyFault 14 = .ok (.aload_n 0, 1) := by decide +kernel
theorem dX6_storyFault_15 : decode cX6_storyFault 15 = .ok (.getfield 9, 3) := by decide +kernel
theorem dX6_storyFault_18 : decode cX6_storyFault 18 = .ok (.iload_n 3, 1) := by decide +kernel
theorem dX6_storyFault_19 : decode cX6_storyFault 19 = .ok (.iaload, 1) := by decide +kernel
theorem dX6_storyFault_20 : decode cX6_storyFault 20 = .ok (.istore 4, 2) := by decide +kernel
theorem dX6_storyFault_22 : decode cX6_storyFault 22 = .ok (.iload 4, 2) := by decide +kernel
theorem dX6_storyFault_24 : decode cX6_storyFault 24 = .ok (.bipush 49, 2) := by decide +kernel
theorem dX6_storyFault_26 : decode cX6_storyFault 26 = .ok (.bipush 57, 2) := by decide +kernel
theorem dX6_storyFault_28 : decode cX6_storyFault 28 = .ok (.invokestatic 23, 3) := by decide +kernel
theorem dX6_storyFault_31 : decode cX6_storyFault 31 = .ok (.ifCond .eq 16, 3) := by decide +kernel
theorem dX6_storyFault_34 : decode cX6_storyFault 34 = .ok (.iload_n 1, 1) := by decide +kernel
theorem dX6_storyFault_35 : decode cX6_storyFault 35 = .ok (.iconst 4, 1) := by decide +kernel
theorem dX6_storyFault_36 : decode cX6_storyFault 36 = .ok (.if_icmp .ge 11, 3) := by decide +kernel
theorem dX6_storyFault_39 : decode cX6_storyFault 39 = .ok (.iinc 1 1, 3) := by decide +kernel
theorem dX6_storyFault_42 : decode cX6_storyFault 42 = .ok (.iconst 0, 1) := by decide +kernel
theorem dX6_storyFault_43 : decode cX6_storyFault 43 = .ok (.istore_n 2, 1) := by decide +kernel
theorem dX6_storyFault_44 : decode cX6_storyFault 44 = .ok (.goto 26, 3) := by decide +kernel
theorem dX6_storyFault_47 : decode cX6_storyFault 47 = .ok (.iload 4, 2) := by decide +kernel
theorem dX6_storyFault_49 : decode cX6_storyFault 49 = .ok (.bipush 58, 2) := by decide +kernel
theorem dX6_storyFault_51 : decode cX6_storyFault 51 = .ok (.if_icmp .ne 17, 3) := by decide +kernel
theorem dX6_storyFault_54 : decode cX6_storyFault 54 = .ok (.iload_n 2, 1) := by decide +kernel
theorem dX6_storyFault_55 : decode cX6_storyFault 55 = .ok (.ifCond .ne 13, 3) := by decide +kernel
theorem dX6_storyFault_58 : decode cX6_storyFault 58 = .ok (.iload_n 1, 1) := by decide +kernel
theorem dX6_storyFault_59 : decode cX6_storyFault 59 = .ok (.iconst 4, 1) := by decide +kernel
theorem dX6_storyFault_60 : decode cX6_storyFault 60 = .ok (.if_icmp .ge 8, 3) := by decide +kernel
theorem dX6_storyFault_63 : decode cX6_storyFault 63 = .ok (.iconst 1, 1) := by decide +kernel
theorem dX6_storyFault_64 : decode cX6_storyFault 64 = .ok (.istore_n 2, 1) := by decide +kernel
theorem dX6_storyFault_65 : decode cX6_storyFault 65 = .ok (.goto 5, 3) := by decide +kernel
theorem dX6_storyFault_68 : decode cX6_storyFault 68 = .ok (.iload_n 3, 1) := by decide +kernel
theorem dX6_storyFault_69 : decode cX6_storyFault 69 = .ok (.ireturn, 1) := by decide +kernel
theorem dX6_storyFault_70 : decode cX6_storyFault 70 = .ok (.iinc 3 1, 3) := by decide +kernel
theorem dX6_storyFault_73 : decode cX6_storyFault 73 = .ok (.goto (-67), 3) := by decide +kernel
theorem dX6_storyFault_76 : decode cX6_storyFault 76 = .ok (.iload_n 2, 1) := by decide +kernel
theorem dX6_storyFault_77 : decode cX6_storyFault 77 = .ok (.ifCond .eq 10, 3) := by decide +kernel
theorem dX6_storyFault_80 : decode cX6_storyFault 80 = .ok (.aload_n 0, 1) := by decide +kernel
theorem dX6_storyFault_81 : decode cX6_storyFault 81 = .ok (.getfield 15, 3) := by decide +kernel
theorem dX6_storyFault_84 : decode cX6_storyFault 84 = .ok (.goto 5, 3) := by decide +kernel
theorem dX6_storyFault_87 : decode cX6_storyFault 87 = .ok (.bipush (-6), 2) := by decide +kernel
theorem dX6_storyFault_89 : decode cX6_storyFault 89 = .ok (.ireturn, 1) := by decide +kernel
theorem dX6_rowFault_0 : decode cX6_rowFault 0 = .ok (.iconst 0, 1) := by decide +kernel
theorem dX6_rowFault_1 : decode cX6_rowFault 1 = .ok (.istore_n 3, 1) := by decide +kernel
theorem dX6_rowFault_2 : decode cX6_rowFault 2 = .ok (.iload_n 3, 1) := by decide +kernel
theorem dX6_rowFault_3 : decode cX6_rowFault 3 = .ok (.aload_n 0, 1) := by decide +kernel
theorem dX6_rowFault_4 : decode cX6_rowFault 4 = .ok (.getfield 15, 3) := by decide +kernel
theorem dX6_rowFault_7 : decode cX6_rowFault 7 = .ok (.if_icmp .ge 31, 3) := by decide +kernel
theorem dX6_rowFault_10 : decode cX6_rowFault 10 = .ok (.iload_n 3, 1) := by decide +kernel
theorem dX6_rowFault_11 : decode cX6_rowFault 11 = .ok (.bipush 16, 2) := by decide +kernel
theorem dX6_rowFault_13 : decode cX6_rowFault 13 = .ok (.if_icmp .ge 17, 3) := by decide +kernel
theorem dX6_rowFault_16 : decode cX6_rowFault 16 = .ok (.aload_n 0, 1) := by decide +kernel
theorem dX6_rowFault_17 : decode cX6_rowFault 17 = .ok (.getfield 9, 3) := by decide +kernel
theorem dX6_rowFault_20 : decode cX6_rowFault 20 = .ok (.iload_n 3, 1) := by decide +kernel
theorem dX6_rowFault_21 : decode cX6_rowFault 21 = .ok (.iaload, 1) := by decide +kernel
theorem dX6_rowFault_22 : decode cX6_rowFault 22 = .ok (.iload_n 1, 1) := by decide +kernel
theorem dX6_rowFault_23 : decode cX6_rowFault 23 = .ok (.iload_n 2, 1) := by decide +kernel
theorem dX6_rowFault_24 : decode cX6_rowFault 24 = .ok (.invokestatic 23, 3) := by decide +kernel
theorem dX6_rowFault_27 : decode cX6_rowFault 27 = .ok (.ifCond .ne 5, 3) := by decide +kernel
theorem dX6_rowFault_30 : decode cX6_rowFault 30 = .ok (.iload_n 3, 1) := by decide +kernel
theorem dX6_rowFault_31 : decode cX6_rowFault 31 = .ok (.ireturn, 1) := by decide +kernel
theorem dX6_rowFault_32 : decode cX6_rowFault 32 = .ok (.iinc 3 1, 3) := by decide +kernel
theorem dX6_rowFault_35 : decode cX6_rowFault 35 = .ok (.goto (-33), 3) := by decide +kernel
theorem dX6_rowFault_38 : decode cX6_rowFault 38 = .ok (.bipush (-6), 2) := by decide +kernel
theorem dX6_rowFault_40 : decode cX6_rowFault 40 = .ok (.ireturn, 1) := by decide +kernel
theorem dX7_init_0 : decode cX7_init 0 = .ok (.aload_n 0, 1) := by decide +kernel
theorem dX7_init_1 : decode cX7_init 1 = .ok (.invokespecial 3, 3) := by decide +kernel
theorem dX7_init_4 : decode cX7_init 4 = .ok (.aload_n 0, 1) := by decide +kernel
theorem dX7_init_5 : decode cX7_init 5 = .ok (.aload_n 1, 1) := by decide +kernel
theorem dX7_init_6 : decode cX7_init 6 = .ok (.putfield 9, 3) := by decide +kernel
theorem dX7_init_9 : decode cX7_init 9 = .ok (.return_, 1) := by decide +kernel
theorem dX7_isRing_0 : decode cX7_isRing 0 = .ok (.iload_n 1, 1) := by decide +kernel
theorem dX7_isRing_1 : decode cX7_isRing 1 = .ok (.istore_n 3, 1) := by decide +kernel
theorem dX7_isRing_2 : decode cX7_isRing 2 = .ok (.iconst 0, 1) := by decide +kernel
theorem dX7_isRing_3 : decode cX7_isRing 3 = .ok (.istore 4, 2) := by decide +kernel
theorem dX7_isRing_5 : decode cX7_isRing 5 = .ok (.iload 4, 2) := by decide +kernel
theorem dX7_isRing_7 : decode cX7_isRing 7 = .ok (.iconst 4, 1) := by decide +kernel
theorem dX7_isRing_8 : decode cX7_isRing 8 = .ok (.if_icmp .ge 16, 3) := by decide +kernel
theorem dX7_isRing_11 : decode cX7_isRing 11 = .ok (.aload_n 0, 1) := by decide +kernel
theorem dX7_isRing_12 : decode cX7_isRing 12 = .ok (.iload_n 3, 1) := by decide +kernel
theorem dX7_isRing_13 : decode cX7_isRing 13 = .ok (.iload_n 2, 1) := by decide +kernel
theorem dX7_isRing_14 : decode cX7_isRing 14 = .ok (.invokevirtual 15, 3) := by decide +kernel
theorem dX7_isRing_17 : decode cX7_isRing 17 = .ok (.istore_n 3, 1) := by decide +kernel
theorem dX7_isRing_18 : decode cX7_isRing 18 = .ok (.iinc 4 1, 3) := by decide +kernel
theorem dX7_isRing_21 : decode cX7_isRing 21 = .ok (.goto (-16), 3) := by decide +kernel
theorem dX7_isRing_24 : decode cX7_isRing 24 = .ok (.iload_n 3, 1) := by decide +kernel
theorem dX7_isRing_25 : decode cX7_isRing 25 = .ok (.ifCond .eq 7, 3) := by decide +kernel
theorem dX7_isRing_28 : decode cX7_isRing 28 = .ok (.iconst 1, 1) := by decide +kernel
theorem dX7_isRing_29 : decode cX7_isRing 29 = .ok (.goto 4, 3) := by decide +kernel
theorem dX7_isRing_32 : decode cX7_isRing 32 = .ok (.iconst 0, 1) := by decide +kernel
theorem dX7_isRing_33 : decode cX7_isRing 33 = .ok (.ireturn, 1) := by decide +kernel
theorem dX7_waiting_0 : decode cX7_waiting 0 = .ok (.iconst 0, 1) := by decide +kernel
theorem dX7_waiting_1 : decode cX7_waiting 1 = .ok (.istore_n 3, 1) := by decide +kernel
theorem dX7_waiting_2 : decode cX7_waiting 2 = .ok (.iconst 0, 1) := by decide +kernel
theorem dX7_waiting_3 : decode cX7_waiting 3 = .ok (.istore 4, 2) := by decide +kernel
theorem dX7_waiting_5 : decode cX7_waiting 5 = .ok (.iload 4, 2) := by decide +kernel
theorem dX7_waiting_7 : decode cX7_waiting 7 = .ok (.aload_n 0, 1) := by decide +kernel
theorem dX7_waiting_8 : decode cX7_waiting 8 = .ok (.getfield 9, 3) := by decide +kernel
theorem dX7_waiting_11 : decode cX7_waiting 11 = .ok (.getfield 19, 3) := by decide +kernel
theorem dX7_waiting_14 : decode cX7_waiting 14 = .ok (.if_icmp .ge 73, 3) := by decide +kernel
theorem dX7_waiting_17 : decode cX7_waiting 17 = .ok (.aload_n 0, 1) := by decide +kernel
theorem dX7_waiting_18 : decode cX7_waiting 18 = .ok (.getfield 9, 3) := by decide +kernel
theorem dX7_waiting_21 : decode cX7_waiting 21 = .ok (.iload 4, 2) := by decide +kernel
theorem dX7_waiting_23 : decode cX7_waiting 23 = .ok (.invokevirtual 25, 3) := by decide +kernel
theorem dX7_waiting_26 : decode cX7_waiting 26 = .ok (.istore 5, 2) := by decide +kernel
theorem dX7_waiting_28 : decode cX7_waiting 28 = .ok (.iload_n 2, 1) := by decide +kernel
theorem dX7_waiting_29 : decode cX7_waiting 29 = .ok (.iload 4, 2) := by decide +kernel
theorem dX7_waiting_31 : decode cX7_waiting 31 = .ok (.ishr, 1) := by decide +kernel
theorem dX7_waiting_32 : decode cX7_waiting 32 = .ok (.iconst 1, 1) := by decide +kernel
theorem dX7_waiting_33 : decode cX7_waiting 33 = .ok (.iand, 1) := by decide +kernel
theorem dX7_waiting_34 : decode cX7_waiting 34 = .ok (.ifCond .ne 23, 3) := by decide +kernel
theorem dX7_waiting_37 : decode cX7_waiting 37 = .ok (.iload_n 1, 1) := by decide +kernel
theorem dX7_waiting_38 : decode cX7_waiting 38 = .ok (.aload_n 0, 1) := by decide +kernel
theorem dX7_waiting_39 : decode cX7_waiting 39 = .ok (.getfield 9, 3) := by decide +kernel
theorem dX7_waiting_42 : decode cX7_waiting 42 = .ok (.iload 4, 2) := by decide +kernel
theorem dX7_waiting_44 : decode cX7_waiting 44 = .ok (.invokevirtual 29, 3) := by decide +kernel
theorem dX7_waiting_47 : decode cX7_waiting 47 = .ok (.ishr, 1) := by decide +kernel
theorem dX7_waiting_48 : decode cX7_waiting 48 = .ok (.iconst 1, 1) := by decide +kernel
theorem dX7_waiting_49 : decode cX7_waiting 49 = .ok (.iand, 1) := by decide +kernel
theorem dX7_waiting_50 : decode cX7_waiting 50 = .ok (.ifCond .eq 7, 3) := by decide +kernel
theorem dX7_waiting_53 : decode cX7_waiting 53 = .ok (.iconst 1, 1) := by decide +kernel
theorem dX7_waiting_54 : decode cX7_waiting 54 = .ok (.goto 4, 3) := by decide +kernel
theorem dX7_waiting_57 : decode cX7_waiting 57 = .ok (.iconst 0, 1) := by decide +kernel
theorem dX7_waiting_58 : decode cX7_waiting 58 = .ok (.istore 6, 2) := by decide +kernel
theorem dX7_waiting_60 : decode cX7_waiting 60 = .ok (.iload 6, 2) := by decide +kernel
theorem dX7_waiting_62 : decode cX7_waiting 62 = .ok (.ifCond .eq 19, 3) := by decide +kernel
theorem dX7_waiting_65 : decode cX7_waiting 65 = .ok (.iload_n 1, 1) := by decide +kernel
theorem dX7_waiting_66 : decode cX7_waiting 66 = .ok (.iload 5, 2) := by decide +kernel
theorem dX7_waiting_68 : decode cX7_waiting 68 = .ok (.ishr, 1) := by decide +kernel
theorem dX7_waiting_69 : decode cX7_waiting 69 = .ok (.iconst 1, 1) := by decide +kernel
theorem dX7_waiting_70 : decode cX7_waiting 70 = .ok (.iand, 1) := by decide +kernel
theorem dX7_waiting_71 : decode cX7_waiting 71 = .ok (.ifCond .eq 10, 3) := by decide +kernel
theorem dX7_waiting_74 : decode cX7_waiting 74 = .ok (.iload_n 3, 1) := by decide +kernel
theorem dX7_waiting_75 : decode cX7_waiting 75 = .ok (.iconst 1, 1) := by decide +kernel
theorem dX7_waiting_76 : decode cX7_waiting 76 = .ok (.iload 5, 2) := by decide +kernel
theorem dX7_waiting_78 : decode cX7_waiting 78 = .ok (.ishl, 1) := by decide +kernel
theorem dX7_waiting_79 : decode cX7_waiting 79 = .ok (.ior, 1) := by decide +kernel
theorem dX7_waiting_80 : decode cX7_waiting 80 = .ok (.istore_n 3, 1) := by decide +kernel
theorem dX7_waiting_81 : decode cX7_waiting 81 = .ok (.iinc 4 1, 3) := by decide +kernel
theorem dX7_waiting_84 : decode cX7_waiting 84 = .ok (.goto (-79), 3) := by decide +kernel
theorem dX7_waiting_87 : decode cX7_waiting 87 = .ok (.iload_n 3, 1) := by decide +kernel
theorem dX7_waiting_88 : decode cX7_waiting 88 = .ok (.ireturn, 1) := by decide +kernel
theorem dX7_fewestToDrop_0 : decode cX7_fewestToDrop 0 = .ok (.iconst 1, 1) := by decide +kernel
theorem dX7_fewestToDrop_1 : decode cX7_fewestToDrop 1 = .ok (.aload_n 0, 1) := by decide +kernel
theorem dX7_fewestToDrop_2 : decode cX7_fewestToDrop 2 = .ok (.getfield 9, 3) := by decide +kernel
theorem dX7_fewestToDrop_5 : decode cX7_fewestToDrop 5 = .ok (.getfield 19, 3) := by decide +kernel
theorem dX7_fewestToDrop_8 : decode cX7_fewestToDrop 8 = .ok (.ishl, 1) := by decide +kernel
theorem dX7_fewestToDrop_9 : decode cX7_fewestToDrop 9 = .ok (.iconst 1, 1) := by decide +kernel
theorem dX7_fewestToDrop_10 : decode cX7_fewestToDrop 10 = .ok (.isub, 1) := by decide +kernel
theorem dX7_fewestToDrop_11 : decode cX7_fewestToDrop 11 = .ok (.istore_n 2, 1) := by decide +kernel
theorem dX7_fewestToDrop_12 : decode cX7_fewestToDrop 12 = .ok (.iconst 1, 1) := by decide +kernel
theorem dX7_fewestToDrop_13 : decode cX7_fewestToDrop 13 = .ok (.aload_n 0, 1) := by decide +kernel
theorem dX7_fewestToDrop_14 : decode cX7_fewestToDrop 14 = .ok (.getfield 9, 3) := by decide +kernel
theorem dX7_fewestToDrop_17 : decode cX7_fewestToDrop 17 = .ok (.getfield 19, 3) := by decide +kernel
theorem dX7_fewestToDrop_20 : decode cX7_fewestToDrop 20 = .ok (.ishl, 1) := by decide +kernel
theorem dX7_fewestToDrop_21 : decode cX7_fewestToDrop 21 = .ok (.iconst 1, 1) := by decide +kernel
theorem dX7_fewestToDrop_22 : decode cX7_fewestToDrop 22 = .ok (.isub, 1) := by decide +kernel
theorem dX7_fewestToDrop_23 : decode cX7_fewestToDrop 23 = .ok (.istore_n 3, 1) := by decide +kernel
theorem dX7_fewestToDrop_24 : decode cX7_fewestToDrop 24 = .ok (.iload_n 3, 1) := by decide +kernel
theorem dX7_fewestToDrop_25 : decode cX7_fewestToDrop 25 = .ok (.ifCond .lt 43, 3) := by decide +kernel
theorem dX7_fewestToDrop_28 : decode cX7_fewestToDrop 28 = .ok (.iload_n 3, 1) := by decide +kernel
theorem dX7_fewestToDrop_29 : decode cX7_fewestToDrop 29 = .ok (.invokestatic 32, 3) := by decide +kernel
theorem dX7_fewestToDrop_32 : decode cX7_fewestToDrop 32 = .ok (.iload_n 2, 1) := by decide +kernel
theorem dX7_fewestToDrop_33 : decode cX7_fewestToDrop 33 = .ok (.invokestatic 32, 3) := by decide +kernel
theorem dX7_fewestToDrop_36 : decode cX7_fewestToDrop 36 = .ok (.if_icmp .gt 7, 3) := by decide +kernel
theorem dX7_fewestToDrop_39 : decode cX7_fewestToDrop 39 = .ok (.iconst 1, 1) := by decide +kernel
theorem dX7_fewestToDrop_40 : decode cX7_fewestToDrop 40 = .ok (.goto 4, 3) := by decide +kernel
theorem dX7_fewestToDrop_43 : decode cX7_fewestToDrop 43 = .ok (.iconst 0, 1) := by decide +kernel
theorem dX7_fewestToDrop_44 : decode cX7_fewestToDrop 44 = .ok (.istore 4, 2) := by decide +kernel
theorem dX7_fewestToDrop_46 : decode cX7_fewestToDrop 46 = .ok (.iload 4, 2) := by decide +kernel
theorem dX7_fewestToDrop_48 : decode cX7_fewestToDrop 48 = .ok (.ifCond .eq 14, 3) := by decide +kernel
theorem dX7_fewestToDrop_51 : decode cX7_fewestToDrop 51 = .ok (.aload_n 0, 1) := by decide +kernel
theorem dX7_fewestToDrop_52 : decode cX7_fewestToDrop 52 = .ok (.iload_n 1, 1) := by decide +kernel
theorem dX7_fewestToDrop_53 : decode cX7_fewestToDrop 53 = .ok (.iload_n 3, 1) := by decide +kernel
theorem dX7_fewestToDrop_54 : decode cX7_fewestToDrop 54 = .ok (.invokevirtual 37, 3) := by decide +kernel
theorem dX7_fewestToDrop_57 : decode cX7_fewestToDrop 57 = .ok (.ifCond .ne 5, 3) := by decide +kernel
theorem dX7_fewestToDrop_60 : decode cX7_fewestToDrop 60 = .ok (.iload_n 3, 1) := by decide +kernel
theorem dX7_fewestToDrop_61 : decode cX7_fewestToDrop 61 = .ok (.istore_n 2, 1) := by decide +kernel
theorem dX7_fewestToDrop_62 : decode cX7_fewestToDrop 62 = .ok (.iinc 3 (-1), 3) := by decide +kernel
theorem dX7_fewestToDrop_65 : decode cX7_fewestToDrop 65 = .ok (.goto (-41), 3) := by decide +kernel
theorem dX7_fewestToDrop_68 : decode cX7_fewestToDrop 68 = .ok (.iload_n 2, 1) := by decide +kernel
theorem dX7_fewestToDrop_69 : decode cX7_fewestToDrop 69 = .ok (.ireturn, 1) := by decide +kernel
theorem dX8_init_0 : decode cX8_init 0 = .ok (.aload_n 0, 1) := by decide +kernel
theorem dX8_init_1 : decode cX8_init 1 = .ok (.invokespecial 3, 3) := by decide +kernel
theorem dX8_init_4 : decode cX8_init 4 = .ok (.aload_n 0, 1) := by decide +kernel
theorem dX8_init_5 : decode cX8_init 5 = .ok (.sipush 3784, 3) := by decide +kernel
theorem dX8_init_8 : decode cX8_init 8 = .ok (.newarray .boolean, 2) := by decide +kernel
theorem dX8_init_10 : decode cX8_init 10 = .ok (.putfield 11, 3) := by decide +kernel
theorem dX8_init_13 : decode cX8_init 13 = .ok (.aload_n 0, 1) := by decide +kernel
theorem dX8_init_14 : decode cX8_init 14 = .ok (.aload_n 1, 1) := by decide +kernel
theorem dX8_init_15 : decode cX8_init 15 = .ok (.putfield 17, 3) := by decide +kernel
theorem dX8_init_18 : decode cX8_init 18 = .ok (.aload_n 0, 1) := by decide +kernel
theorem dX8_init_19 : decode cX8_init 19 = .ok (.aload_n 2, 1) := by decide +kernel
theorem dX8_init_20 : decode cX8_init 20 = .ok (.putfield 21, 3) := by decide +kernel
theorem dX8_init_23 : decode cX8_init 23 = .ok (.aload_n 0, 1) := by decide +kernel
theorem dX8_init_24 : decode cX8_init 24 = .ok (.aload_n 3, 1) := by decide +kernel
theorem dX8_init_25 : decode cX8_init 25 = .ok (.putfield 25, 3) := by decide +kernel
theorem dX8_init_28 : decode cX8_init 28 = .ok (.return_, 1) := by decide +kernel
theorem dX8_evenings_0 : decode cX8_evenings 0 = .ok (.aload_n 0, 1) := by decide +kernel
theorem dX8_evenings_1 : decode cX8_evenings 1 = .ok (.getfield 21, 3) := by decide +kernel
theorem dX8_evenings_4 : decode cX8_evenings 4 = .ok (.getfield 29, 3) := by decide +kernel
theorem dX8_evenings_7 : decode cX8_evenings 7 = .ok (.iconst 1, 1) := by decide +kernel
theorem dX8_evenings_8 : decode cX8_evenings 8 = .ok (.isub, 1) := by decide +kernel
theorem dX8_evenings_9 : decode cX8_evenings 9 = .ok (.istore_n 1, 1) := by decide +kernel
theorem dX8_evenings_10 : decode cX8_evenings 10 = .ok (.iload_n 1, 1) := by decide +kernel
theorem dX8_evenings_11 : decode cX8_evenings 11 = .ok (.ifCond .lt 98, 3) := by decide +kernel
theorem dX8_evenings_14 : decode cX8_evenings 14 = .ok (.aload_n 0, 1) := by decide +kernel
theorem dX8_evenings_15 : decode cX8_evenings 15 = .ok (.getfield 21, 3) := by decide +kernel
theorem dX8_evenings_18 : decode cX8_evenings 18 = .ok (.getfield 33, 3) := by decide +kernel
theorem dX8_evenings_21 : decode cX8_evenings 21 = .ok (.iload_n 1, 1) := by decide +kernel
theorem dX8_evenings_22 : decode cX8_evenings 22 = .ok (.iaload, 1) := by decide +kernel
theorem dX8_evenings_23 : decode cX8_evenings 23 = .ok (.invokestatic 36, 3) := by decide +kernel
theorem dX8_evenings_26 : decode cX8_evenings 26 = .ok (.istore_n 2, 1) := by decide +kernel
theorem dX8_evenings_27 : decode cX8_evenings 27 = .ok (.iload_n 2, 1) := by decide +kernel
theorem dX8_evenings_28 : decode cX8_evenings 28 = .ok (.aload_n 0, 1) := by decide +kernel
theorem dX8_evenings_29 : decode cX8_evenings 29 = .ok (.getfield 25, 3) := by decide +kernel
theorem dX8_evenings_32 : decode cX8_evenings 32 = .ok (.getfield 42, 3) := by decide +kernel
theorem dX8_evenings_35 : decode cX8_evenings 35 = .ok (.if_icmp .ne 7, 3) := by decide +kernel
theorem dX8_evenings_38 : decode cX8_evenings 38 = .ok (.lconst 1, 1) := by decide +kernel
theorem dX8_evenings_39 : decode cX8_evenings 39 = .ok (.goto 4, 3) := by decide +kernel
theorem dX8_evenings_42 : decode cX8_evenings 42 = .ok (.lconst 0, 1) := by decide +kernel
theorem dX8_evenings_43 : decode cX8_evenings 43 = .ok (.lstore_n 3, 1) := by decide +kernel
theorem dX8_evenings_44 : decode cX8_evenings 44 = .ok (.iconst 0, 1) := by decide +kernel
theorem dX8_evenings_45 : decode cX8_evenings 45 = .ok (.istore 5, 2) := by decide +kernel
theorem dX8_evenings_47 : decode cX8_evenings 47 = .ok (.iload 5, 2) := by decide +kernel
theorem dX8_evenings_49 : decode cX8_evenings 49 = .ok (.iconst 4, 1) := by decide +kernel
theorem dX8_evenings_50 : decode cX8_evenings 50 = .ok (.if_icmp .ge 43, 3) := by decide +kernel
theorem dX8_evenings_53 : decode cX8_evenings 53 = .ok (.aload_n 0, 1) := by decide +kernel
theorem dX8_evenings_54 : decode cX8_evenings 54 = .ok (.iload_n 1, 1) := by decide +kernel
theorem dX8_evenings_55 : decode cX8_evenings 55 = .ok (.iload 5, 2) := by decide +kernel
theorem dX8_evenings_57 : decode cX8_evenings 57 = .ok (.iload_n 2, 1) := by decide +kernel
theorem dX8_evenings_58 : decode cX8_evenings 58 = .ok (.invokevirtual 45, 3) := by decide +kernel
theorem dX8_evenings_61 : decode cX8_evenings 61 = .ok (.istore 6, 2) := by decide +kernel
theorem dX8_evenings_63 : decode cX8_evenings 63 = .ok (.lload_n 3, 1) := by decide +kernel
theorem dX8_evenings_64 : decode cX8_evenings 64 = .ok (.iload 6, 2) := by decide +kernel
theorem dX8_evenings_66 : decode cX8_evenings 66 = .ok (.bipush (-6), 2) := by decide +kernel
theorem dX8_evenings_68 : decode cX8_evenings 68 = .ok (.if_icmp .ne 7, 3) := by decide +kernel
theorem dX8_evenings_71 : decode cX8_evenings 71 = .ok (.lconst 0, 1) := by decide +kernel
theorem dX8_evenings_72 : decode cX8_evenings 72 = .ok (.goto 13, 3) := by decide +kernel
theorem dX8_evenings_75 : decode cX8_evenings 75 = .ok (.aload_n 0, 1) := by decide +kernel
theorem dX8_evenings_76 : decode cX8_evenings 76 = .ok (.getfield 21, 3) := by decide +kernel
theorem dX8_evenings_79 : decode cX8_evenings 79 = .ok (.getfield 49, 3) := by decide +kernel
theorem dX8_evenings_82 : decode cX8_evenings 82 = .ok (.iload 6, 2) := by decide +kernel
theorem dX8_evenings_84 : decode cX8_evenings 84 = .ok (.laload, 1) := by decide +kernel
theorem dX8_evenings_85 : decode cX8_evenings 85 = .ok (.ladd, 1) := by decide +kernel
theorem dX8_evenings_86 : decode cX8_evenings 86 = .ok (.lstore_n 3, 1) := by decide +kernel
theorem dX8_evenings_87 : decode cX8_evenings 87 = .ok (.iinc 5 1, 3) := by decide +kernel
theorem dX8_evenings_90 : decode cX8_evenings 90 = .ok (.goto (-43), 3) := by decide +kernel
theorem dX8_evenings_93 : decode cX8_evenings 93 = .ok (.aload_n 0, 1) := by decide +kernel
theorem dX8_evenings_94 : decode cX8_evenings 94 = .ok (.getfield 21, 3) := by decide +kernel
theorem dX8_evenings_97 : decode cX8_evenings 97 = .ok (.getfield 49, 3) := by decide +kernel
theorem dX8_evenings_100 : decode cX8_evenings 100 = .ok (.iload_n 1, 1) := by decide +kernel
theorem dX8_evenings_101 : decode cX8_evenings 101 = .ok (.lload_n 3, 1) := by decide +kernel
theorem dX8_evenings_102 : decode cX8_evenings 102 = .ok (.lastore, 1) := by decide +kernel
theorem dX8_evenings_103 : decode cX8_evenings 103 = .ok (.iinc 1 (-1), 3) := by decide +kernel
theorem dX8_evenings_106 : decode cX8_evenings 106 = .ok (.goto (-96), 3) := by decide +kernel
theorem dX8_evenings_109 : decode cX8_evenings 109 = .ok (.aload_n 0, 1) := by decide +kernel
theorem dX8_evenings_110 : decode cX8_evenings 110 = .ok (.getfield 21, 3) := by decide +kernel
theorem dX8_evenings_113 : decode cX8_evenings 113 = .ok (.getfield 49, 3) := by decide +kernel
theorem dX8_evenings_116 : decode cX8_evenings 116 = .ok (.iconst 0, 1) := by decide +kernel
theorem dX8_evenings_117 : decode cX8_evenings 117 = .ok (.laload, 1) := by decide +kernel
theorem dX8_evenings_118 : decode cX8_evenings 118 = .ok (.lreturn, 1) := by decide +kernel
theorem dX8_soundsAfter_0 : decode cX8_soundsAfter 0 = .ok (.aload_n 0, 1) := by decide +kernel
theorem dX8_soundsAfter_1 : decode cX8_soundsAfter 1 = .ok (.getfield 21, 3) := by decide +kernel
theorem dX8_soundsAfter_4 : decode cX8_soundsAfter 4 = .ok (.getfield 33, 3) := by decide +kernel
theorem dX8_soundsAfter_7 : decode cX8_soundsAfter 7 = .ok (.iload_n 1, 1) := by decide +kernel
theorem dX8_soundsAfter_8 : decode cX8_soundsAfter 8 = .ok (.iaload, 1) := by decide +kernel
theorem dX8_soundsAfter_9 : decode cX8_soundsAfter 9 = .ok (.iload_n 2, 1) := by decide +kernel
theorem dX8_soundsAfter_10 : decode cX8_soundsAfter 10 = .ok (.invokestatic 53, 3) := by decide +kernel
theorem dX8_soundsAfter_13 : decode cX8_soundsAfter 13 = .ok (.istore 4, 2) := by decide +kernel
theorem dX8_soundsAfter_15 : decode cX8_soundsAfter 15 = .ok (.iload_n 3, 1) := by decide +kernel
theorem dX8_soundsAfter_16 : decode cX8_soundsAfter 16 = .ok (.aload_n 0, 1) := by decide +kernel
theorem dX8_soundsAfter_17 : decode cX8_soundsAfter 17 = .ok (.getfield 25, 3) := by decide +kernel
theorem dX8_soundsAfter_20 : decode cX8_soundsAfter 20 = .ok (.getfield 42, 3) := by decide +kernel
theorem dX8_soundsAfter_23 : decode cX8_soundsAfter 23 = .ok (.if_icmp .ge 31, 3) := by decide +kernel
theorem dX8_soundsAfter_26 : decode cX8_soundsAfter 26 = .ok (.aload_n 0, 1) := by decide +kernel
theorem dX8_soundsAfter_27 : decode cX8_soundsAfter 27 = .ok (.getfield 17, 3) := by decide +kernel
theorem dX8_soundsAfter_30 : decode cX8_soundsAfter 30 = .ok (.iload_n 2, 1) := by decide +kernel
theorem dX8_soundsAfter_31 : decode cX8_soundsAfter 31 = .ok (.iload 4, 2) := by decide +kernel
theorem dX8_soundsAfter_33 : decode cX8_soundsAfter 33 = .ok (.invokevirtual 57, 3) := by decide +kernel
theorem dX8_soundsAfter_36 : decode cX8_soundsAfter 36 = .ok (.aload_n 0, 1) := by decide +kernel
theorem dX8_soundsAfter_37 : decode cX8_soundsAfter 37 = .ok (.getfield 25, 3) := by decide +kernel
theorem dX8_soundsAfter_40 : decode cX8_soundsAfter 40 = .ok (.iload_n 3, 1) := by decide +kernel
theorem dX8_soundsAfter_41 : decode cX8_soundsAfter 41 = .ok (.invokevirtual 62, 3) := by decide +kernel
theorem dX8_soundsAfter_44 : decode cX8_soundsAfter 44 = .ok (.bipush 48, 2) := by decide +kernel
theorem dX8_soundsAfter_46 : decode cX8_soundsAfter 46 = .ok (.isub, 1) := by decide +kernel
theorem dX8_soundsAfter_47 : decode cX8_soundsAfter 47 = .ok (.if_icmp .ne 7, 3) := by decide +kernel
theorem dX8_soundsAfter_50 : decode cX8_soundsAfter 50 = .ok (.iconst 1, 1) := by decide +kernel
theorem dX8_soundsAfter_51 : decode cX8_soundsAfter 51 = .ok (.goto 4, 3) := by decide +kernel
theorem dX8_soundsAfter_54 : decode cX8_soundsAfter 54 = .ok (.iconst 0, 1) := by decide +kernel
theorem dX8_soundsAfter_55 : decode cX8_soundsAfter 55 = .ok (.istore 5, 2) := by decide +kernel
theorem dX8_soundsAfter_57 : decode cX8_soundsAfter 57 = .ok (.iload 5, 2) := by decide +kernel
theorem dX8_soundsAfter_59 : decode cX8_soundsAfter 59 = .ok (.ifCond .eq 15, 3) := by decide +kernel
theorem dX8_soundsAfter_62 : decode cX8_soundsAfter 62 = .ok (.aload_n 0, 1) := by decide +kernel
theorem dX8_soundsAfter_63 : decode cX8_soundsAfter 63 = .ok (.getfield 21, 3) := by decide +kernel
theorem dX8_soundsAfter_66 : decode cX8_soundsAfter 66 = .ok (.iload_n 1, 1) := by decide +kernel
theorem dX8_soundsAfter_67 : decode cX8_soundsAfter 67 = .ok (.iload_n 2, 1) := by decide +kernel
theorem dX8_soundsAfter_68 : decode cX8_soundsAfter 68 = .ok (.invokevirtual 65, 3) := by decide +kernel
theorem dX8_soundsAfter_71 : decode cX8_soundsAfter 71 = .ok (.goto 5, 3) := by decide +kernel
theorem dX8_soundsAfter_74 : decode cX8_soundsAfter 74 = .ok (.bipush (-6), 2) := by decide +kernel
theorem dX8_soundsAfter_76 : decode cX8_soundsAfter 76 = .ok (.ireturn, 1) := by decide +kernel
theorem dX8_firstLetter_0 : decode cX8_firstLetter 0 = .ok (.iload_n 1, 1) := by decide +kernel
theorem dX8_firstLetter_1 : decode cX8_firstLetter 1 = .ok (.iconst 0, 1) := by decide +kernel
theorem dX8_firstLetter_2 : decode cX8_firstLetter 2 = .ok (.aload_n 0, 1) := by decide +kernel
theorem dX8_firstLetter_3 : decode cX8_firstLetter 3 = .ok (.getfield 25, 3) := by decide +kernel
theorem dX8_firstLetter_6 : decode cX8_firstLetter 6 = .ok (.getfield 42, 3) := by decide +kernel
theorem dX8_firstLetter_9 : decode cX8_firstLetter 9 = .ok (.iconst 1, 1) := by decide +kernel
theorem dX8_firstLetter_10 : decode cX8_firstLetter 10 = .ok (.isub, 1) := by decide +kernel
theorem dX8_firstLetter_11 : decode cX8_firstLetter 11 = .ok (.invokestatic 68, 3) := by decide +kernel
theorem dX8_firstLetter_14 : decode cX8_firstLetter 14 = .ok (.ifCond .eq 12, 3) := by decide +kernel
theorem dX8_firstLetter_17 : decode cX8_firstLetter 17 = .ok (.aload_n 0, 1) := by decide +kernel
theorem dX8_firstLetter_18 : decode cX8_firstLetter 18 = .ok (.invokevirtual 72, 3) := by decide +kernel
theorem dX8_firstLetter_21 : decode cX8_firstLetter 21 = .ok (.lconst 0, 1) := by decide +kernel
theorem dX8_firstLetter_22 : decode cX8_firstLetter 22 = .ok (.lcmp, 1) := by decide +kernel
theorem dX8_firstLetter_23 : decode cX8_firstLetter 23 = .ok (.ifCond .ne 6, 3) := by decide +kernel
theorem dX8_firstLetter_26 : decode cX8_firstLetter 26 = .ok (.bipush (-6), 2) := by decide +kernel
theorem dX8_firstLetter_28 : decode cX8_firstLetter 28 = .ok (.ireturn, 1) := by decide +kernel
theorem dX8_firstLetter_29 : decode cX8_firstLetter 29 = .ok (.iconst 0, 1) := by decide +kernel
theorem dX8_firstLetter_30 : decode cX8_firstLetter 30 = .ok (.istore_n 2, 1) := by decide +kernel
theorem dX8_firstLetter_31 : decode cX8_firstLetter 31 = .ok (.iconst 0, 1) := by decide +kernel
theorem dX8_firstLetter_32 : decode cX8_firstLetter 32 = .ok (.istore_n 3, 1) := by decide +kernel
theorem dX8_firstLetter_33 : decode cX8_firstLetter 33 = .ok (.iload_n 3, 1) := by decide +kernel
theorem dX8_firstLetter_34 : decode cX8_firstLetter 34 = .ok (.aload_n 0, 1) := by decide +kernel
theorem dX8_firstLetter_35 : decode cX8_firstLetter 35 = .ok (.getfield 25, 3) := by decide +kernel
theorem dX8_firstLetter_38 : decode cX8_firstLetter 38 = .ok (.getfield 42, 3) := by decide +kernel
theorem dX8_firstLetter_41 : decode cX8_firstLetter 41 = .ok (.if_icmp .ge 64, 3) := by decide +kernel
theorem dX8_firstLetter_44 : decode cX8_firstLetter 44 = .ok (.iload_n 2, 1) := by decide +kernel
theorem dX8_firstLetter_45 : decode cX8_firstLetter 45 = .ok (.bipush (-6), 2) := by decide +kernel
theorem dX8_firstLetter_47 : decode cX8_firstLetter 47 = .ok (.if_icmp .eq 58, 3) := by decide +kernel
theorem dX8_firstLetter_50 : decode cX8_firstLetter 50 = .ok (.aload_n 0, 1) := by decide +kernel
theorem dX8_firstLetter_51 : decode cX8_firstLetter 51 = .ok (.iload_n 2, 1) := by decide +kernel
theorem dX8_firstLetter_52 : decode cX8_firstLetter 52 = .ok (.iload_n 3, 1) := by decide +kernel
theorem dX8_firstLetter_53 : decode cX8_firstLetter 53 = .ok (.invokevirtual 76, 3) := by decide +kernel
theorem dX8_firstLetter_56 : decode cX8_firstLetter 56 = .ok (.istore 4, 2) := by decide +kernel
theorem dX8_firstLetter_58 : decode cX8_firstLetter 58 = .ok (.iload 4, 2) := by decide +kernel
theorem dX8_firstLetter_60 : decode cX8_firstLetter 60 = .ok (.bipush (-6), 2) := by decide +kernel
theorem dX8_firstLetter_62 : decode cX8_firstLetter 62 = .ok (.if_icmp .eq 8, 3) := by decide +kernel
theorem dX8_firstLetter_65 : decode cX8_firstLetter 65 = .ok (.iload_n 3, 1) := by decide +kernel
theorem dX8_firstLetter_66 : decode cX8_firstLetter 66 = .ok (.iload_n 1, 1) := by decide +kernel
theorem dX8_firstLetter_67 : decode cX8_firstLetter 67 = .ok (.if_icmp .ne 21, 3) := by decide +kernel
theorem dX8_firstLetter_70 : decode cX8_firstLetter 70 = .ok (.iload 4, 2) := by decide +kernel
theorem dX8_firstLetter_72 : decode cX8_firstLetter 72 = .ok (.bipush (-6), 2) := by decide +kernel
theorem dX8_firstLetter_74 : decode cX8_firstLetter 74 = .ok (.if_icmp .ne 8, 3) := by decide +kernel
theorem dX8_firstLetter_77 : decode cX8_firstLetter 77 = .ok (.bipush (-6), 2) := by decide +kernel
theorem dX8_firstLetter_79 : decode cX8_firstLetter 79 = .ok (.goto 8, 3) := by decide +kernel
theorem dX8_firstLetter_82 : decode cX8_firstLetter 82 = .ok (.bipush 97, 2) := by decide +kernel
theorem dX8_firstLetter_84 : decode cX8_firstLetter 84 = .ok (.iload 4, 2) := by decide +kernel
theorem dX8_firstLetter_86 : decode cX8_firstLetter 86 = .ok (.iadd, 1) := by decide +kernel
theorem dX8_firstLetter_87 : decode cX8_firstLetter 87 = .ok (.ireturn, 1) := by decide +kernel
theorem dX8_firstLetter_88 : decode cX8_firstLetter 88 = .ok (.aload_n 0, 1) := by decide +kernel
theorem dX8_firstLetter_89 : decode cX8_firstLetter 89 = .ok (.getfield 21, 3) := by decide +kernel
theorem dX8_firstLetter_92 : decode cX8_firstLetter 92 = .ok (.iload_n 2, 1) := by decide +kernel
theorem dX8_firstLetter_93 : decode cX8_firstLetter 93 = .ok (.iload 4, 2) := by decide +kernel
theorem dX8_firstLetter_95 : decode cX8_firstLetter 95 = .ok (.invokevirtual 65, 3) := by decide +kernel
theorem dX8_firstLetter_98 : decode cX8_firstLetter 98 = .ok (.istore_n 2, 1) := by decide +kernel
theorem dX8_firstLetter_99 : decode cX8_firstLetter 99 = .ok (.iinc 3 1, 3) := by decide +kernel
theorem dX8_firstLetter_102 : decode cX8_firstLetter 102 = .ok (.goto (-69), 3) := by decide +kernel
theorem dX8_firstLetter_105 : decode cX8_firstLetter 105 = .ok (.bipush (-6), 2) := by decide +kernel
theorem dX8_firstLetter_107 : decode cX8_firstLetter 107 = .ok (.ireturn, 1) := by decide +kernel
theorem dX8_firstStory_0 : decode cX8_firstStory 0 = .ok (.iconst 0, 1) := by decide +kernel
theorem dX8_firstStory_1 : decode cX8_firstStory 1 = .ok (.istore_n 3, 1) := by decide +kernel
theorem dX8_firstStory_2 : decode cX8_firstStory 2 = .ok (.iload_n 3, 1) := by decide +kernel
theorem dX8_firstStory_3 : decode cX8_firstStory 3 = .ok (.iconst 4, 1) := by decide +kernel
theorem dX8_firstStory_4 : decode cX8_firstStory 4 = .ok (.if_icmp .ge 42, 3) := by decide +kernel
theorem dX8_firstStory_7 : decode cX8_firstStory 7 = .ok (.aload_n 0, 1) := by decide +kernel
theorem dX8_firstStory_8 : decode cX8_firstStory 8 = .ok (.iload_n 1, 1) := by decide +kernel
theorem dX8_firstStory_9 : decode cX8_firstStory 9 = .ok (.iload_n 3, 1) := by decide +kernel
theorem dX8_firstStory_10 : decode cX8_firstStory 10 = .ok (.iload_n 2, 1) := by decide +kernel
theorem dX8_firstStory_11 : decode cX8_firstStory 11 = .ok (.invokevirtual 45, 3) := by decide +kernel
theorem dX8_firstStory_14 : decode cX8_firstStory 14 = .ok (.istore 4, 2) := by decide +kernel
theorem dX8_firstStory_16 : decode cX8_firstStory 16 = .ok (.iload 4, 2) := by decide +kernel
theorem dX8_firstStory_18 : decode cX8_firstStory 18 = .ok (.bipush (-6), 2) := by decide +kernel
theorem dX8_firstStory_20 : decode cX8_firstStory 20 = .ok (.if_icmp .eq 20, 3) := by decide +kernel
theorem dX8_firstStory_23 : decode cX8_firstStory 23 = .ok (.aload_n 0, 1) := by decide +kernel
theorem dX8_firstStory_24 : decode cX8_firstStory 24 = .ok (.getfield 21, 3) := by decide +kernel
theorem dX8_firstStory_27 : decode cX8_firstStory 27 = .ok (.getfield 49, 3) := by decide +kernel
theorem dX8_firstStory_30 : decode cX8_firstStory 30 = .ok (.iload 4, 2) := by decide +kernel
theorem dX8_firstStory_32 : decode cX8_firstStory 32 = .ok (.laload, 1) := by decide +kernel
theorem dX8_firstStory_33 : decode cX8_firstStory 33 = .ok (.lconst 0, 1) := by decide +kernel
theorem dX8_firstStory_34 : decode cX8_firstStory 34 = .ok (.lcmp, 1) := by decide +kernel
theorem dX8_firstStory_35 : decode cX8_firstStory 35 = .ok (.ifCond .le 5, 3) := by decide +kernel
theorem dX8_firstStory_38 : decode cX8_firstStory 38 = .ok (.iload_n 3, 1) := by decide +kernel
theorem dX8_firstStory_39 : decode cX8_firstStory 39 = .ok (.ireturn, 1) := by decide +kernel
theorem dX8_firstStory_40 : decode cX8_firstStory 40 = .ok (.iinc 3 1, 3) := by decide +kernel
theorem dX8_firstStory_43 : decode cX8_firstStory 43 = .ok (.goto (-41), 3) := by decide +kernel
theorem dX8_firstStory_46 : decode cX8_firstStory 46 = .ok (.bipush (-6), 2) := by decide +kernel
theorem dX8_firstStory_48 : decode cX8_firstStory 48 = .ok (.ireturn, 1) := by decide +kernel
theorem dX8_storiesAt_0 : decode cX8_storiesAt 0 = .ok (.aload_n 0, 1) := by decide +kernel
theorem dX8_storiesAt_1 : decode cX8_storiesAt 1 = .ok (.invokevirtual 72, 3) := by decide +kernel
theorem dX8_storiesAt_4 : decode cX8_storiesAt 4 = .ok (.pop2, 1) := by decide +kernel
theorem dX8_storiesAt_5 : decode cX8_storiesAt 5 = .ok (.iconst 0, 1) := by decide +kernel
theorem dX8_storiesAt_6 : decode cX8_storiesAt 6 = .ok (.istore_n 2, 1) := by decide +kernel
theorem dX8_storiesAt_7 : decode cX8_storiesAt 7 = .ok (.iload_n 2, 1) := by decide +kernel
theorem dX8_storiesAt_8 : decode cX8_storiesAt 8 = .ok (.aload_n 0, 1) := by decide +kernel
theorem dX8_storiesAt_9 : decode cX8_storiesAt 9 = .ok (.getfield 21, 3) := by decide +kernel
theorem dX8_storiesAt_12 : decode cX8_storiesAt 12 = .ok (.getfield 29, 3) := by decide +kernel
theorem dX8_storiesAt_15 : decode cX8_storiesAt 15 = .ok (.if_icmp .ge 24, 3) := by decide +kernel
theorem dX8_storiesAt_18 : decode cX8_storiesAt 18 = .ok (.aload_n 0, 1) := by decide +kernel
theorem dX8_storiesAt_19 : decode cX8_storiesAt 19 = .ok (.getfield 11, 3) := by decide +kernel
theorem dX8_storiesAt_22 : decode cX8_storiesAt 22 = .ok (.iload_n 2, 1) := by decide +kernel
theorem dX8_storiesAt_23 : decode cX8_storiesAt 23 = .ok (.iload_n 2, 1) := by decide +kernel
theorem dX8_storiesAt_24 : decode cX8_storiesAt 24 = .ok (.ifCond .ne 7, 3) := by decide +kernel
theorem dX8_storiesAt_27 : decode cX8_storiesAt 27 = .ok (.iconst 1, 1) := by decide +kernel
theorem dX8_storiesAt_28 : decode cX8_storiesAt 28 = .ok (.goto 4, 3) := by decide +kernel
theorem dX8_storiesAt_31 : decode cX8_storiesAt 31 = .ok (.iconst 0, 1) := by decide +kernel
theorem dX8_storiesAt_32 : decode cX8_storiesAt 32 = .ok (.bastore, 1) := by decide +kernel
theorem dX8_storiesAt_33 : decode cX8_storiesAt 33 = .ok (.iinc 2 1, 3) := by decide +kernel
theorem dX8_storiesAt_36 : decode cX8_storiesAt 36 = .ok (.goto (-29), 3) := by decide +kernel
theorem dX8_storiesAt_39 : decode cX8_storiesAt 39 = .ok (.iconst 0, 1) := by decide +kernel
theorem dX8_storiesAt_40 : decode cX8_storiesAt 40 = .ok (.istore_n 2, 1) := by decide +kernel
theorem dX8_storiesAt_41 : decode cX8_storiesAt 41 = .ok (.iconst 0, 1) := by decide +kernel
theorem dX8_storiesAt_42 : decode cX8_storiesAt 42 = .ok (.istore_n 3, 1) := by decide +kernel
theorem dX8_storiesAt_43 : decode cX8_storiesAt 43 = .ok (.iload_n 3, 1) := by decide +kernel
theorem dX8_storiesAt_44 : decode cX8_storiesAt 44 = .ok (.aload_n 0, 1) := by decide +kernel
theorem dX8_storiesAt_45 : decode cX8_storiesAt 45 = .ok (.getfield 21, 3) := by decide +kernel
theorem dX8_storiesAt_48 : decode cX8_storiesAt 48 = .ok (.getfield 29, 3) := by decide +kernel
theorem dX8_storiesAt_51 : decode cX8_storiesAt 51 = .ok (.if_icmp .ge 62, 3) := by decide +kernel
theorem dX8_storiesAt_54 : decode cX8_storiesAt 54 = .ok (.aload_n 0, 1) := by decide +kernel
theorem dX8_storiesAt_55 : decode cX8_storiesAt 55 = .ok (.getfield 21, 3) := by decide +kernel
theorem dX8_storiesAt_58 : decode cX8_storiesAt 58 = .ok (.getfield 33, 3) := by decide +kernel
theorem dX8_storiesAt_61 : decode cX8_storiesAt 61 = .ok (.iload_n 3, 1) := by decide +kernel
theorem dX8_storiesAt_62 : decode cX8_storiesAt 62 = .ok (.iaload, 1) := by decide +kernel
theorem dX8_storiesAt_63 : decode cX8_storiesAt 63 = .ok (.invokestatic 36, 3) := by decide +kernel
theorem dX8_storiesAt_66 : decode cX8_storiesAt 66 = .ok (.istore 4, 2) := by decide +kernel
theorem dX8_storiesAt_68 : decode cX8_storiesAt 68 = .ok (.aload_n 0, 1) := by decide +kernel
theorem dX8_storiesAt_69 : decode cX8_storiesAt 69 = .ok (.getfield 11, 3) := by decide +kernel
theorem dX8_storiesAt_72 : decode cX8_storiesAt 72 = .ok (.iload_n 3, 1) := by decide +kernel
theorem dX8_storiesAt_73 : decode cX8_storiesAt 73 = .ok (.baload, 1) := by decide +kernel
theorem dX8_storiesAt_74 : decode cX8_storiesAt 74 = .ok (.ifCond .eq 33, 3) := by decide +kernel
theorem dX8_storiesAt_77 : decode cX8_storiesAt 77 = .ok (.iload 4, 2) := by decide +kernel
theorem dX8_storiesAt_79 : decode cX8_storiesAt 79 = .ok (.iload_n 1, 1) := by decide +kernel
theorem dX8_storiesAt_80 : decode cX8_storiesAt 80 = .ok (.if_icmp .gt 27, 3) := by decide +kernel
theorem dX8_storiesAt_83 : decode cX8_storiesAt 83 = .ok (.aload_n 0, 1) := by decide +kernel
theorem dX8_storiesAt_84 : decode cX8_storiesAt 84 = .ok (.iload_n 3, 1) := by decide +kernel
theorem dX8_storiesAt_85 : decode cX8_storiesAt 85 = .ok (.iload 4, 2) := by decide +kernel
theorem dX8_storiesAt_87 : decode cX8_storiesAt 87 = .ok (.invokevirtual 79, 3) := by decide +kernel
theorem dX8_storiesAt_90 : decode cX8_storiesAt 90 = .ok (.istore 5, 2) := by decide +kernel
theorem dX8_storiesAt_92 : decode cX8_storiesAt 92 = .ok (.iload_n 2, 1) := by decide +kernel
theorem dX8_storiesAt_93 : decode cX8_storiesAt 93 = .ok (.iload 4, 2) := by decide +kernel
theorem dX8_storiesAt_95 : decode cX8_storiesAt 95 = .ok (.iload_n 1, 1) := by decide +kernel
theorem dX8_storiesAt_96 : decode cX8_storiesAt 96 = .ok (.if_icmp .ne 8, 3) := by decide +kernel
theorem dX8_storiesAt_99 : decode cX8_storiesAt 99 = .ok (.iload 5, 2) := by decide +kernel
theorem dX8_storiesAt_101 : decode cX8_storiesAt 101 = .ok (.goto 4, 3) := by decide +kernel
theorem dX8_storiesAt_104 : decode cX8_storiesAt 104 = .ok (.iconst 0, 1) := by decide +kernel
theorem dX8_storiesAt_105 : decode cX8_storiesAt 105 = .ok (.ior, 1) := by decide +kernel
theorem dX8_storiesAt_106 : decode cX8_storiesAt 106 = .ok (.istore_n 2, 1) := by decide +kernel
theorem dX8_storiesAt_107 : decode cX8_storiesAt 107 = .ok (.iinc 3 1, 3) := by decide +kernel
theorem dX8_storiesAt_110 : decode cX8_storiesAt 110 = .ok (.goto (-67), 3) := by decide +kernel
theorem dX8_storiesAt_113 : decode cX8_storiesAt 113 = .ok (.iload_n 2, 1) := by decide +kernel
theorem dX8_storiesAt_114 : decode cX8_storiesAt 114 = .ok (.ireturn, 1) := by decide +kernel
theorem dX8_reachFrom_0 : decode cX8_reachFrom 0 = .ok (.iconst 0, 1) := by decide +kernel
theorem dX8_reachFrom_1 : decode cX8_reachFrom 1 = .ok (.istore_n 3, 1) := by decide +kernel
theorem dX8_reachFrom_2 : decode cX8_reachFrom 2 = .ok (.iconst 0, 1) := by decide +kernel
theorem dX8_reachFrom_3 : decode cX8_reachFrom 3 = .ok (.istore 4, 2) := by decide +kernel
theorem dX8_reachFrom_5 : decode cX8_reachFrom 5 = .ok (.iload 4, 2) := by decide +kernel
theorem dX8_reachFrom_7 : decode cX8_reachFrom 7 = .ok (.iconst 4, 1) := by decide +kernel
