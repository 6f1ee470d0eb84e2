theorem dX10_toldAll_13 : decode cX10_toldAll 13 = .ok (.aload_n 0, 1) := by decide +kernel
theorem dX10_toldAll_14 : decode cX10_toldAll 14 = .ok (.getfield 43, 3) := by decide +kernel
theorem dX10_toldAll_17 : decode cX10_toldAll 17 = .ok (.iconst 2, 1) := by decide +kernel
theorem dX10_toldAll_18 : decode cX10_toldAll 18 = .ok (.iaload, 1) := by decide +kernel
theorem dX10_toldAll_19 : decode cX10_toldAll 19 = .ok (.iadd, 1) := by decide +kernel
theorem dX10_toldAll_20 : decode cX10_toldAll 20 = .ok (.aload_n 0, 1) := by decide +kernel
theorem dX10_toldAll_21 : decode cX10_toldAll 21 = .ok (.getfield 43, 3) := by decide +kernel
theorem dX10_toldAll_24 : decode cX10_toldAll 24 = .ok (.iconst 3, 1) := by decide +kernel
theorem dX10_toldAll_25 : decode cX10_toldAll 25 = .ok (.iaload, 1) := by decide +kernel
theorem dX10_toldAll_26 : decode cX10_toldAll 26 = .ok (.iadd, 1) := by decide +kernel
theorem dX10_toldAll_27 : decode cX10_toldAll 27 = .ok (.ireturn, 1) := by decide +kernel
theorem dX10_canBe_0 : decode cX10_canBe 0 = .ok (.iconst 0, 1) := by decide +kernel
theorem dX10_canBe_1 : decode cX10_canBe 1 = .ok (.istore_n 2, 1) := by decide +kernel
theorem dX10_canBe_2 : decode cX10_canBe 2 = .ok (.iconst 1, 1) := by decide +kernel
theorem dX10_canBe_3 : decode cX10_canBe 3 = .ok (.istore_n 3, 1) := by decide +kernel
theorem dX10_canBe_4 : decode cX10_canBe 4 = .ok (.iconst 0, 1) := by decide +kernel
theorem dX10_canBe_5 : decode cX10_canBe 5 = .ok (.istore 4, 2) := by decide +kernel
theorem dX10_canBe_7 : decode cX10_canBe 7 = .ok (.iload 4, 2) := by decide +kernel
theorem dX10_canBe_9 : decode cX10_canBe 9 = .ok (.iconst 4, 1) := by decide +kernel
theorem dX10_canBe_10 : decode cX10_canBe 10 = .ok (.if_icmp .ge 88, 3) := by decide +kernel
theorem dX10_canBe_13 : decode cX10_canBe 13 = .ok (.iload_n 3, 1) := by decide +kernel
theorem dX10_canBe_14 : decode cX10_canBe 14 = .ok (.ifCond .eq 38, 3) := by decide +kernel
theorem dX10_canBe_17 : decode cX10_canBe 17 = .ok (.aload_n 0, 1) := by decide +kernel
theorem dX10_canBe_18 : decode cX10_canBe 18 = .ok (.getfield 43, 3) := by decide +kernel
theorem dX10_canBe_21 : decode cX10_canBe 21 = .ok (.iload 4, 2) := by decide +kernel
theorem dX10_canBe_23 : decode cX10_canBe 23 = .ok (.iaload, 1) := by decide +kernel
theorem dX10_canBe_24 : decode cX10_canBe 24 = .ok (.iload_n 1, 1) := by decide +kernel
theorem dX10_canBe_25 : decode cX10_canBe 25 = .ok (.iload 4, 2) := by decide +kernel
theorem dX10_canBe_27 : decode cX10_canBe 27 = .ok (.ishr, 1) := by decide +kernel
theorem dX10_canBe_28 : decode cX10_canBe 28 = .ok (.iconst 1, 1) := by decide +kernel
theorem dX10_canBe_29 : decode cX10_canBe 29 = .ok (.iand, 1) := by decide +kernel
theorem dX10_canBe_30 : decode cX10_canBe 30 = .ok (.iconst 1, 1) := by decide +kernel
theorem dX10_canBe_31 : decode cX10_canBe 31 = .ok (.if_icmp .ne 13, 3) := by decide +kernel
theorem dX10_canBe_34 : decode cX10_canBe 34 = .ok (.aload_n 0, 1) := by decide +kernel
theorem dX10_canBe_35 : decode cX10_canBe 35 = .ok (.getfield 16, 3) := by decide +kernel
theorem dX10_canBe_38 : decode cX10_canBe 38 = .ok (.iload 4, 2) := by decide +kernel
theorem dX10_canBe_40 : decode cX10_canBe 40 = .ok (.iaload, 1) := by decide +kernel
theorem dX10_canBe_41 : decode cX10_canBe 41 = .ok (.goto 4, 3) := by decide +kernel
theorem dX10_canBe_44 : decode cX10_canBe 44 = .ok (.iconst 0, 1) := by decide +kernel
theorem dX10_canBe_45 : decode cX10_canBe 45 = .ok (.if_icmp .gt 7, 3) := by decide +kernel
theorem dX10_canBe_48 : decode cX10_canBe 48 = .ok (.iconst 1, 1) := by decide +kernel
theorem dX10_canBe_49 : decode cX10_canBe 49 = .ok (.goto 4, 3) := by decide +kernel
theorem dX10_canBe_52 : decode cX10_canBe 52 = .ok (.iconst 0, 1) := by decide +kernel
theorem dX10_canBe_53 : decode cX10_canBe 53 = .ok (.istore_n 3, 1) := by decide +kernel
theorem dX10_canBe_54 : decode cX10_canBe 54 = .ok (.iload_n 2, 1) := by decide +kernel
theorem dX10_canBe_55 : decode cX10_canBe 55 = .ok (.aload_n 0, 1) := by decide +kernel
theorem dX10_canBe_56 : decode cX10_canBe 56 = .ok (.getfield 43, 3) := by decide +kernel
theorem dX10_canBe_59 : decode cX10_canBe 59 = .ok (.iload 4, 2) := by decide +kernel
theorem dX10_canBe_61 : decode cX10_canBe 61 = .ok (.iaload, 1) := by decide +kernel
theorem dX10_canBe_62 : decode cX10_canBe 62 = .ok (.ifCond .le 27, 3) := by decide +kernel
theorem dX10_canBe_65 : decode cX10_canBe 65 = .ok (.aload_n 0, 1) := by decide +kernel
theorem dX10_canBe_66 : decode cX10_canBe 66 = .ok (.getfield 43, 3) := by decide +kernel
theorem dX10_canBe_69 : decode cX10_canBe 69 = .ok (.iload 4, 2) := by decide +kernel
theorem dX10_canBe_71 : decode cX10_canBe 71 = .ok (.iaload, 1) := by decide +kernel
theorem dX10_canBe_72 : decode cX10_canBe 72 = .ok (.aload_n 0, 1) := by decide +kernel
theorem dX10_canBe_73 : decode cX10_canBe 73 = .ok (.getfield 16, 3) := by decide +kernel
theorem dX10_canBe_76 : decode cX10_canBe 76 = .ok (.iload 4, 2) := by decide +kernel
theorem dX10_canBe_78 : decode cX10_canBe 78 = .ok (.iaload, 1) := by decide +kernel
theorem dX10_canBe_79 : decode cX10_canBe 79 = .ok (.if_icmp .ge 10, 3) := by decide +kernel
theorem dX10_canBe_82 : decode cX10_canBe 82 = .ok (.iconst 1, 1) := by decide +kernel
theorem dX10_canBe_83 : decode cX10_canBe 83 = .ok (.iload 4, 2) := by decide +kernel
theorem dX10_canBe_85 : decode cX10_canBe 85 = .ok (.ishl, 1) := by decide +kernel
theorem dX10_canBe_86 : decode cX10_canBe 86 = .ok (.goto 4, 3) := by decide +kernel
theorem dX10_canBe_89 : decode cX10_canBe 89 = .ok (.iconst 0, 1) := by decide +kernel
theorem dX10_canBe_90 : decode cX10_canBe 90 = .ok (.ior, 1) := by decide +kernel
theorem dX10_canBe_91 : decode cX10_canBe 91 = .ok (.istore_n 2, 1) := by decide +kernel
theorem dX10_canBe_92 : decode cX10_canBe 92 = .ok (.iinc 4 1, 3) := by decide +kernel
theorem dX10_canBe_95 : decode cX10_canBe 95 = .ok (.goto (-88), 3) := by decide +kernel
theorem dX10_canBe_98 : decode cX10_canBe 98 = .ok (.iload_n 3, 1) := by decide +kernel
theorem dX10_canBe_99 : decode cX10_canBe 99 = .ok (.ifCond .eq 18, 3) := by decide +kernel
theorem dX10_canBe_102 : decode cX10_canBe 102 = .ok (.iload_n 2, 1) := by decide +kernel
theorem dX10_canBe_103 : decode cX10_canBe 103 = .ok (.aload_n 0, 1) := by decide +kernel
theorem dX10_canBe_104 : decode cX10_canBe 104 = .ok (.getfield 134, 3) := by decide +kernel
theorem dX10_canBe_107 : decode cX10_canBe 107 = .ok (.invokestatic 146, 3) := by decide +kernel
theorem dX10_canBe_110 : decode cX10_canBe 110 = .ok (.if_icmp .ne 7, 3) := by decide +kernel
theorem dX10_canBe_113 : decode cX10_canBe 113 = .ok (.iconst 1, 1) := by decide +kernel
theorem dX10_canBe_114 : decode cX10_canBe 114 = .ok (.goto 4, 3) := by decide +kernel
theorem dX10_canBe_117 : decode cX10_canBe 117 = .ok (.iconst 0, 1) := by decide +kernel
theorem dX10_canBe_118 : decode cX10_canBe 118 = .ok (.ireturn, 1) := by decide +kernel
theorem dX10_isWhole_0 : decode cX10_isWhole 0 = .ok (.iconst 1, 1) := by decide +kernel
theorem dX10_isWhole_1 : decode cX10_isWhole 1 = .ok (.istore_n 2, 1) := by decide +kernel
theorem dX10_isWhole_2 : decode cX10_isWhole 2 = .ok (.iconst 0, 1) := by decide +kernel
theorem dX10_isWhole_3 : decode cX10_isWhole 3 = .ok (.istore_n 3, 1) := by decide +kernel
theorem dX10_isWhole_4 : decode cX10_isWhole 4 = .ok (.iload_n 3, 1) := by decide +kernel
theorem dX10_isWhole_5 : decode cX10_isWhole 5 = .ok (.iconst 4, 1) := by decide +kernel
theorem dX10_isWhole_6 : decode cX10_isWhole 6 = .ok (.if_icmp .ge 35, 3) := by decide +kernel
theorem dX10_isWhole_9 : decode cX10_isWhole 9 = .ok (.iload_n 2, 1) := by decide +kernel
theorem dX10_isWhole_10 : decode cX10_isWhole 10 = .ok (.ifCond .eq 23, 3) := by decide +kernel
theorem dX10_isWhole_13 : decode cX10_isWhole 13 = .ok (.iload_n 1, 1) := by decide +kernel
theorem dX10_isWhole_14 : decode cX10_isWhole 14 = .ok (.iload_n 3, 1) := by decide +kernel
theorem dX10_isWhole_15 : decode cX10_isWhole 15 = .ok (.ishr, 1) := by decide +kernel
theorem dX10_isWhole_16 : decode cX10_isWhole 16 = .ok (.iconst 1, 1) := by decide +kernel
theorem dX10_isWhole_17 : decode cX10_isWhole 17 = .ok (.iand, 1) := by decide +kernel
theorem dX10_isWhole_18 : decode cX10_isWhole 18 = .ok (.ifCond .eq 11, 3) := by decide +kernel
theorem dX10_isWhole_21 : decode cX10_isWhole 21 = .ok (.aload_n 0, 1) := by decide +kernel
theorem dX10_isWhole_22 : decode cX10_isWhole 22 = .ok (.iload_n 3, 1) := by decide +kernel
theorem dX10_isWhole_23 : decode cX10_isWhole 23 = .ok (.invokevirtual 149, 3) := by decide +kernel
theorem dX10_isWhole_26 : decode cX10_isWhole 26 = .ok (.ifCond .eq 7, 3) := by decide +kernel
theorem dX10_isWhole_29 : decode cX10_isWhole 29 = .ok (.iconst 1, 1) := by decide +kernel
theorem dX10_isWhole_30 : decode cX10_isWhole 30 = .ok (.goto 4, 3) := by decide +kernel
theorem dX10_isWhole_33 : decode cX10_isWhole 33 = .ok (.iconst 0, 1) := by decide +kernel
theorem dX10_isWhole_34 : decode cX10_isWhole 34 = .ok (.istore_n 2, 1) := by decide +kernel
theorem dX10_isWhole_35 : decode cX10_isWhole 35 = .ok (.iinc 3 1, 3) := by decide +kernel
theorem dX10_isWhole_38 : decode cX10_isWhole 38 = .ok (.goto (-34), 3) := by decide +kernel
theorem dX10_isWhole_41 : decode cX10_isWhole 41 = .ok (.iload_n 2, 1) := by decide +kernel
theorem dX10_isWhole_42 : decode cX10_isWhole 42 = .ok (.ireturn, 1) := by decide +kernel
theorem dX10_nextOf_0 : decode cX10_nextOf 0 = .ok (.aload_n 0, 1) := by decide +kernel
theorem dX10_nextOf_1 : decode cX10_nextOf 1 = .ok (.iload_n 1, 1) := by decide +kernel
theorem dX10_nextOf_2 : decode cX10_nextOf 2 = .ok (.invokevirtual 172, 3) := by decide +kernel
theorem dX10_nextOf_5 : decode cX10_nextOf 5 = .ok (.iload_n 3, 1) := by decide +kernel
theorem dX10_nextOf_6 : decode cX10_nextOf 6 = .ok (.iload_n 2, 1) := by decide +kernel
theorem dX10_nextOf_7 : decode cX10_nextOf 7 = .ok (.ishr, 1) := by decide +kernel
theorem dX10_nextOf_8 : decode cX10_nextOf 8 = .ok (.iconst 1, 1) := by decide +kernel
theorem dX10_nextOf_9 : decode cX10_nextOf 9 = .ok (.iand, 1) := by decide +kernel
theorem dX10_nextOf_10 : decode cX10_nextOf 10 = .ok (.ifCond .eq 24, 3) := by decide +kernel
theorem dX10_nextOf_13 : decode cX10_nextOf 13 = .ok (.aload_n 0, 1) := by decide +kernel
theorem dX10_nextOf_14 : decode cX10_nextOf 14 = .ok (.iload_n 2, 1) := by decide +kernel
theorem dX10_nextOf_15 : decode cX10_nextOf 15 = .ok (.iload_n 3, 1) := by decide +kernel
theorem dX10_nextOf_16 : decode cX10_nextOf 16 = .ok (.iload 5, 2) := by decide +kernel
theorem dX10_nextOf_18 : decode cX10_nextOf 18 = .ok (.invokevirtual 187, 3) := by decide +kernel
theorem dX10_nextOf_21 : decode cX10_nextOf 21 = .ok (.ifCond .ge 13, 3) := by decide +kernel
theorem dX10_nextOf_24 : decode cX10_nextOf 24 = .ok (.aload_n 0, 1) := by decide +kernel
theorem dX10_nextOf_25 : decode cX10_nextOf 25 = .ok (.iload_n 2, 1) := by decide +kernel
theorem dX10_nextOf_26 : decode cX10_nextOf 26 = .ok (.invokevirtual 194, 3) := by decide +kernel
theorem dX10_nextOf_29 : decode cX10_nextOf 29 = .ok (.iload 4, 2) := by decide +kernel
theorem dX10_nextOf_31 : decode cX10_nextOf 31 = .ok (.if_icmp .le 6, 3) := by decide +kernel
theorem dX10_nextOf_34 : decode cX10_nextOf 34 = .ok (.bipush (-6), 2) := by decide +kernel
theorem dX10_nextOf_36 : decode cX10_nextOf 36 = .ok (.ireturn, 1) := by decide +kernel
theorem dX10_nextOf_37 : decode cX10_nextOf 37 = .ok (.aload_n 0, 1) := by decide +kernel
theorem dX10_nextOf_38 : decode cX10_nextOf 38 = .ok (.invokevirtual 203, 3) := by decide +kernel
theorem dX10_nextOf_41 : decode cX10_nextOf 41 = .ok (.ireturn, 1) := by decide +kernel
theorem dX10_sumOf_0 : decode cX10_sumOf 0 = .ok (.iload_n 0, 1) := by decide +kernel
theorem dX10_sumOf_1 : decode cX10_sumOf 1 = .ok (.iconst 5, 1) := by decide +kernel
theorem dX10_sumOf_2 : decode cX10_sumOf 2 = .ok (.irem, 1) := by decide +kernel
theorem dX10_sumOf_3 : decode cX10_sumOf 3 = .ok (.iload_n 0, 1) := by decide +kernel
theorem dX10_sumOf_4 : decode cX10_sumOf 4 = .ok (.iconst 5, 1) := by decide +kernel
theorem dX10_sumOf_5 : decode cX10_sumOf 5 = .ok (.idiv, 1) := by decide +kernel
theorem dX10_sumOf_6 : decode cX10_sumOf 6 = .ok (.iconst 5, 1) := by decide +kernel
theorem dX10_sumOf_7 : decode cX10_sumOf 7 = .ok (.irem, 1) := by decide +kernel
theorem dX10_sumOf_8 : decode cX10_sumOf 8 = .ok (.iadd, 1) := by decide +kernel
theorem dX10_sumOf_9 : decode cX10_sumOf 9 = .ok (.iload_n 0, 1) := by decide +kernel
theorem dX10_sumOf_10 : decode cX10_sumOf 10 = .ok (.bipush 25, 2) := by decide +kernel
theorem dX10_sumOf_12 : decode cX10_sumOf 12 = .ok (.idiv, 1) := by decide +kernel
theorem dX10_sumOf_13 : decode cX10_sumOf 13 = .ok (.iconst 5, 1) := by decide +kernel
theorem dX10_sumOf_14 : decode cX10_sumOf 14 = .ok (.irem, 1) := by decide +kernel
theorem dX10_sumOf_15 : decode cX10_sumOf 15 = .ok (.iadd, 1) := by decide +kernel
theorem dX10_sumOf_16 : decode cX10_sumOf 16 = .ok (.iload_n 0, 1) := by decide +kernel
theorem dX10_sumOf_17 : decode cX10_sumOf 17 = .ok (.bipush 125, 2) := by decide +kernel
theorem dX10_sumOf_19 : decode cX10_sumOf 19 = .ok (.idiv, 1) := by decide +kernel
theorem dX10_sumOf_20 : decode cX10_sumOf 20 = .ok (.iadd, 1) := by decide +kernel
theorem dX10_sumOf_21 : decode cX10_sumOf 21 = .ok (.ireturn, 1) := by decide +kernel
theorem dX10_findWays_0 : decode cX10_findWays 0 = .ok (.bipush 16, 2) := by decide +kernel
theorem dX10_findWays_2 : decode cX10_findWays 2 = .ok (.istore 4, 2) := by decide +kernel
theorem dX10_findWays_4 : decode cX10_findWays 4 = .ok (.iload 4, 2) := by decide +kernel
theorem dX10_findWays_6 : decode cX10_findWays 6 = .ok (.ifCond .lt 78, 3) := by decide +kernel
theorem dX10_findWays_9 : decode cX10_findWays 9 = .ok (.iconst 0, 1) := by decide +kernel
theorem dX10_findWays_10 : decode cX10_findWays 10 = .ok (.istore 5, 2) := by decide +kernel
theorem dX10_findWays_12 : decode cX10_findWays 12 = .ok (.iload 5, 2) := by decide +kernel
theorem dX10_findWays_14 : decode cX10_findWays 14 = .ok (.sipush 625, 3) := by decide +kernel
theorem dX10_findWays_17 : decode cX10_findWays 17 = .ok (.if_icmp .ge 61, 3) := by decide +kernel
theorem dX10_findWays_20 : decode cX10_findWays 20 = .ok (.iconst 0, 1) := by decide +kernel
theorem dX10_findWays_21 : decode cX10_findWays 21 = .ok (.istore 6, 2) := by decide +kernel
theorem dX10_findWays_23 : decode cX10_findWays 23 = .ok (.iload 6, 2) := by decide +kernel
theorem dX10_findWays_25 : decode cX10_findWays 25 = .ok (.bipush 65, 2) := by decide +kernel
theorem dX10_findWays_27 : decode cX10_findWays 27 = .ok (.if_icmp .ge 45, 3) := by decide +kernel
theorem dX10_findWays_30 : decode cX10_findWays 30 = .ok (.iload 5, 2) := by decide +kernel
theorem dX10_findWays_32 : decode cX10_findWays 32 = .ok (.invokestatic 206, 3) := by decide +kernel
theorem dX10_findWays_35 : decode cX10_findWays 35 = .ok (.iload 4, 2) := by decide +kernel
theorem dX10_findWays_37 : decode cX10_findWays 37 = .ok (.if_icmp .ne 35, 3) := by decide +kernel
theorem dX10_findWays_40 : decode cX10_findWays 40 = .ok (.bipush 65, 2) := by decide +kernel
theorem dX10_findWays_42 : decode cX10_findWays 42 = .ok (.iload 5, 2) := by decide +kernel
theorem dX10_findWays_44 : decode cX10_findWays 44 = .ok (.imul, 1) := by decide +kernel
theorem dX10_findWays_45 : decode cX10_findWays 45 = .ok (.iload 6, 2) := by decide +kernel
theorem dX10_findWays_47 : decode cX10_findWays 47 = .ok (.iadd, 1) := by decide +kernel
theorem dX10_findWays_48 : decode cX10_findWays 48 = .ok (.istore 7, 2) := by decide +kernel
theorem dX10_findWays_50 : decode cX10_findWays 50 = .ok (.aload_n 0, 1) := by decide +kernel
theorem dX10_findWays_51 : decode cX10_findWays 51 = .ok (.getfield 47, 3) := by decide +kernel
theorem dX10_findWays_54 : decode cX10_findWays 54 = .ok (.iload 7, 2) := by decide +kernel
theorem dX10_findWays_56 : decode cX10_findWays 56 = .ok (.aload_n 0, 1) := by decide +kernel
theorem dX10_findWays_57 : decode cX10_findWays 57 = .ok (.iload 7, 2) := by decide +kernel
theorem dX10_findWays_59 : decode cX10_findWays 59 = .ok (.iload_n 1, 1) := by decide +kernel
theorem dX10_findWays_60 : decode cX10_findWays 60 = .ok (.iload_n 2, 1) := by decide +kernel
theorem dX10_findWays_61 : decode cX10_findWays 61 = .ok (.iload_n 3, 1) := by decide +kernel
theorem dX10_findWays_62 : decode cX10_findWays 62 = .ok (.invokevirtual 209, 3) := by decide +kernel
theorem dX10_findWays_65 : decode cX10_findWays 65 = .ok (.lastore, 1) := by decide +kernel
theorem dX10_findWays_66 : decode cX10_findWays 66 = .ok (.iinc 6 1, 3) := by decide +kernel
theorem dX10_findWays_69 : decode cX10_findWays 69 = .ok (.goto (-46), 3) := by decide +kernel
theorem dX10_findWays_72 : decode cX10_findWays 72 = .ok (.iinc 5 1, 3) := by decide +kernel
theorem dX10_findWays_75 : decode cX10_findWays 75 = .ok (.goto (-63), 3) := by decide +kernel
theorem dX10_findWays_78 : decode cX10_findWays 78 = .ok (.iinc 4 (-1), 3) := by decide +kernel
theorem dX10_findWays_81 : decode cX10_findWays 81 = .ok (.goto (-77), 3) := by decide +kernel
theorem dX10_findWays_84 : decode cX10_findWays 84 = .ok (.return_, 1) := by decide +kernel
theorem dX10_waysOf_0 : decode cX10_waysOf 0 = .ok (.aload_n 0, 1) := by decide +kernel
theorem dX10_waysOf_1 : decode cX10_waysOf 1 = .ok (.iload_n 1, 1) := by decide +kernel
theorem dX10_waysOf_2 : decode cX10_waysOf 2 = .ok (.invokevirtual 172, 3) := by decide +kernel
theorem dX10_waysOf_5 : decode cX10_waysOf 5 = .ok (.aload_n 0, 1) := by decide +kernel
theorem dX10_waysOf_6 : decode cX10_waysOf 6 = .ok (.iload_n 2, 1) := by decide +kernel
theorem dX10_waysOf_7 : decode cX10_waysOf 7 = .ok (.invokevirtual 213, 3) := by decide +kernel
theorem dX10_waysOf_10 : decode cX10_waysOf 10 = .ok (.ifCond .ne 5, 3) := by decide +kernel
theorem dX10_waysOf_13 : decode cX10_waysOf 13 = .ok (.lconst 0, 1) := by decide +kernel
theorem dX10_waysOf_14 : decode cX10_waysOf 14 = .ok (.lreturn, 1) := by decide +kernel
theorem dX10_waysOf_15 : decode cX10_waysOf 15 = .ok (.aload_n 0, 1) := by decide +kernel
theorem dX10_waysOf_16 : decode cX10_waysOf 16 = .ok (.iload_n 2, 1) := by decide +kernel
theorem dX10_waysOf_17 : decode cX10_waysOf 17 = .ok (.invokevirtual 216, 3) := by decide +kernel
theorem dX10_waysOf_20 : decode cX10_waysOf 20 = .ok (.ifCond .eq 5, 3) := by decide +kernel
theorem dX10_waysOf_23 : decode cX10_waysOf 23 = .ok (.lconst 1, 1) := by decide +kernel
theorem dX10_waysOf_24 : decode cX10_waysOf 24 = .ok (.lreturn, 1) := by decide +kernel
theorem dX10_waysOf_25 : decode cX10_waysOf 25 = .ok (.lconst 0, 1) := by decide +kernel
theorem dX10_waysOf_26 : decode cX10_waysOf 26 = .ok (.lstore 5, 2) := by decide +kernel
theorem dX10_waysOf_28 : decode cX10_waysOf 28 = .ok (.iconst 0, 1) := by decide +kernel
theorem dX10_waysOf_29 : decode cX10_waysOf 29 = .ok (.istore 7, 2) := by decide +kernel
theorem dX10_waysOf_31 : decode cX10_waysOf 31 = .ok (.iload 7, 2) := by decide +kernel
theorem dX10_waysOf_33 : decode cX10_waysOf 33 = .ok (.iconst 4, 1) := by decide +kernel
theorem dX10_waysOf_34 : decode cX10_waysOf 34 = .ok (.if_icmp .ge 43, 3) := by decide +kernel
theorem dX10_waysOf_37 : decode cX10_waysOf 37 = .ok (.aload_n 0, 1) := by decide +kernel
theorem dX10_waysOf_38 : decode cX10_waysOf 38 = .ok (.iload_n 1, 1) := by decide +kernel
theorem dX10_waysOf_39 : decode cX10_waysOf 39 = .ok (.iload 7, 2) := by decide +kernel
theorem dX10_waysOf_41 : decode cX10_waysOf 41 = .ok (.iload_n 2, 1) := by decide +kernel
theorem dX10_waysOf_42 : decode cX10_waysOf 42 = .ok (.iload_n 3, 1) := by decide +kernel
theorem dX10_waysOf_43 : decode cX10_waysOf 43 = .ok (.iload 4, 2) := by decide +kernel
theorem dX10_waysOf_45 : decode cX10_waysOf 45 = .ok (.invokevirtual 219, 3) := by decide +kernel
theorem dX10_waysOf_48 : decode cX10_waysOf 48 = .ok (.istore 8, 2) := by decide +kernel
theorem dX10_waysOf_50 : decode cX10_waysOf 50 = .ok (.lload 5, 2) := by decide +kernel
theorem dX10_waysOf_52 : decode cX10_waysOf 52 = .ok (.iload 8, 2) := by decide +kernel
theorem dX10_waysOf_54 : decode cX10_waysOf 54 = .ok (.ifCond .ge 7, 3) := by decide +kernel
theorem dX10_waysOf_57 : decode cX10_waysOf 57 = .ok (.lconst 0, 1) := by decide +kernel
theorem dX10_waysOf_58 : decode cX10_waysOf 58 = .ok (.goto 10, 3) := by decide +kernel
theorem dX10_waysOf_61 : decode cX10_waysOf 61 = .ok (.aload_n 0, 1) := by decide +kernel
theorem dX10_waysOf_62 : decode cX10_waysOf 62 = .ok (.getfield 47, 3) := by decide +kernel
theorem dX10_waysOf_65 : decode cX10_waysOf 65 = .ok (.iload 8, 2) := by decide +kernel
theorem dX10_waysOf_67 : decode cX10_waysOf 67 = .ok (.laload, 1) := by decide +kernel
theorem dX10_waysOf_68 : decode cX10_waysOf 68 = .ok (.ladd, 1) := by decide +kernel
theorem dX10_waysOf_69 : decode cX10_waysOf 69 = .ok (.lstore 5, 2) := by decide +kernel
theorem dX10_waysOf_71 : decode cX10_waysOf 71 = .ok (.iinc 7 1, 3) := by decide +kernel
theorem dX10_waysOf_74 : decode cX10_waysOf 74 = .ok (.goto (-43), 3) := by decide +kernel
theorem dX10_waysOf_77 : decode cX10_waysOf 77 = .ok (.lload 5, 2) := by decide +kernel
theorem dX10_waysOf_79 : decode cX10_waysOf 79 = .ok (.lreturn, 1) := by decide +kernel
theorem dX10_isSet_0 : decode cX10_isSet 0 = .ok (.iload_n 0, 1) := by decide +kernel
theorem dX10_isSet_1 : decode cX10_isSet 1 = .ok (.i2l, 1) := by decide +kernel
theorem dX10_isSet_2 : decode cX10_isSet 2 = .ok (.lconst 1, 1) := by decide +kernel
theorem dX10_isSet_3 : decode cX10_isSet 3 = .ok (.ldc2_w 118, 3) := by decide +kernel
theorem dX10_isSet_6 : decode cX10_isSet 6 = .ok (.invokestatic 77, 3) := by decide +kernel
theorem dX10_isSet_9 : decode cX10_isSet 9 = .ok (.ireturn, 1) := by decide +kernel
theorem dX10_ways_0 : decode cX10_ways 0 = .ok (.iload_n 1, 1) := by decide +kernel
theorem dX10_ways_1 : decode cX10_ways 1 = .ok (.invokestatic 223, 3) := by decide +kernel
theorem dX10_ways_4 : decode cX10_ways 4 = .ok (.ifCond .eq 15, 3) := by decide +kernel
theorem dX10_ways_7 : decode cX10_ways 7 = .ok (.iload_n 2, 1) := by decide +kernel
theorem dX10_ways_8 : decode cX10_ways 8 = .ok (.i2l, 1) := by decide +kernel
theorem dX10_ways_9 : decode cX10_ways 9 = .ok (.lconst 1, 1) := by decide +kernel
theorem dX10_ways_10 : decode cX10_ways 10 = .ok (.ldc2_w 226, 3) := by decide +kernel
theorem dX10_ways_13 : decode cX10_ways 13 = .ok (.invokestatic 77, 3) := by decide +kernel
theorem dX10_ways_16 : decode cX10_ways 16 = .ok (.ifCond .ne 7, 3) := by decide +kernel
theorem dX10_ways_19 : decode cX10_ways 19 = .ok (.ldc2_w 228, 3) := by decide +kernel
theorem dX10_ways_22 : decode cX10_ways 22 = .ok (.lreturn, 1) := by decide +kernel
theorem dX10_ways_23 : decode cX10_ways 23 = .ok (.aload_n 0, 1) := by decide +kernel
theorem dX10_ways_24 : decode cX10_ways 24 = .ok (.iload_n 1, 1) := by decide +kernel
theorem dX10_ways_25 : decode cX10_ways 25 = .ok (.iload_n 2, 1) := by decide +kernel
theorem dX10_ways_26 : decode cX10_ways 26 = .ok (.iconst 0, 1) := by decide +kernel
theorem dX10_ways_27 : decode cX10_ways 27 = .ok (.invokevirtual 230, 3) := by decide +kernel
theorem dX10_ways_30 : decode cX10_ways 30 = .ok (.aload_n 0, 1) := by decide +kernel
theorem dX10_ways_31 : decode cX10_ways 31 = .ok (.getfield 47, 3) := by decide +kernel
theorem dX10_ways_34 : decode cX10_ways 34 = .ok (.iconst 0, 1) := by decide +kernel
theorem dX10_ways_35 : decode cX10_ways 35 = .ok (.laload, 1) := by decide +kernel
theorem dX10_ways_36 : decode cX10_ways 36 = .ok (.lreturn, 1) := by decide +kernel
theorem dX10_findChanges_0 : decode cX10_findChanges 0 = .ok (.aload_n 0, 1) := by decide +kernel
theorem dX10_findChanges_1 : decode cX10_findChanges 1 = .ok (.iload_n 1, 1) := by decide +kernel
theorem dX10_findChanges_2 : decode cX10_findChanges 2 = .ok (.iload_n 2, 1) := by decide +kernel
theorem dX10_findChanges_3 : decode cX10_findChanges 3 = .ok (.iconst 0, 1) := by decide +kernel
theorem dX10_findChanges_4 : decode cX10_findChanges 4 = .ok (.invokevirtual 230, 3) := by decide +kernel
theorem dX10_findChanges_7 : decode cX10_findChanges 7 = .ok (.bipush 16, 2) := by decide +kernel
theorem dX10_findChanges_9 : decode cX10_findChanges 9 = .ok (.istore_n 3, 1) := by decide +kernel
theorem dX10_findChanges_10 : decode cX10_findChanges 10 = .ok (.iload_n 3, 1) := by decide +kernel
theorem dX10_findChanges_11 : decode cX10_findChanges 11 = .ok (.ifCond .lt 98, 3) := by decide +kernel
theorem dX10_findChanges_14 : decode cX10_findChanges 14 = .ok (.iconst 0, 1) := by decide +kernel
theorem dX10_findChanges_15 : decode cX10_findChanges 15 = .ok (.istore 4, 2) := by decide +kernel
theorem dX10_findChanges_17 : decode cX10_findChanges 17 = .ok (.iload 4, 2) := by decide +kernel
theorem dX10_findChanges_19 : decode cX10_findChanges 19 = .ok (.sipush 625, 3) := by decide +kernel
theorem dX10_findChanges_22 : decode cX10_findChanges 22 = .ok (.if_icmp .ge 81, 3) := by decide +kernel
theorem dX10_findChanges_25 : decode cX10_findChanges 25 = .ok (.iconst 0, 1) := by decide +kernel
theorem dX10_findChanges_26 : decode cX10_findChanges 26 = .ok (.istore 5, 2) := by decide +kernel
theorem dX10_findChanges_28 : decode cX10_findChanges 28 = .ok (.iload 5, 2) := by decide +kernel
theorem dX10_findChanges_30 : decode cX10_findChanges 30 = .ok (.bipush 65, 2) := by decide +kernel
theorem dX10_findChanges_32 : decode cX10_findChanges 32 = .ok (.if_icmp .ge 65, 3) := by decide +kernel
theorem dX10_findChanges_35 : decode cX10_findChanges 35 = .ok (.iload 4, 2) := by decide +kernel
theorem dX10_findChanges_37 : decode cX10_findChanges 37 = .ok (.invokestatic 206, 3) := by decide +kernel
theorem dX10_findChanges_40 : decode cX10_findChanges 40 = .ok (.iload_n 3, 1) := by decide +kernel
theorem dX10_findChanges_41 : decode cX10_findChanges 41 = .ok (.if_icmp .ne 56, 3) := by decide +kernel
theorem dX10_findChanges_44 : decode cX10_findChanges 44 = .ok (.iconst 0, 1) := by decide +kernel
theorem dX10_findChanges_45 : decode cX10_findChanges 45 = .ok (.istore 6, 2) := by decide +kernel
theorem dX10_findChanges_47 : decode cX10_findChanges 47 = .ok (.iload 6, 2) := by decide +kernel
theorem dX10_findChanges_49 : decode cX10_findChanges 49 = .ok (.iconst 5, 1) := by decide +kernel
theorem dX10_findChanges_50 : decode cX10_findChanges 50 = .ok (.if_icmp .ge 41, 3) := by decide +kernel
theorem dX10_findChanges_53 : decode cX10_findChanges 53 = .ok (.bipush 65, 2) := by decide +kernel
theorem dX10_findChanges_55 : decode cX10_findChanges 55 = .ok (.iload 4, 2) := by decide +kernel
theorem dX10_findChanges_57 : decode cX10_findChanges 57 = .ok (.imul, 1) := by decide +kernel
theorem dX10_findChanges_58 : decode cX10_findChanges 58 = .ok (.iload 5, 2) := by decide +kernel
theorem dX10_findChanges_60 : decode cX10_findChanges 60 = .ok (.iadd, 1) := by decide +kernel
theorem dX10_findChanges_61 : decode cX10_findChanges 61 = .ok (.istore 7, 2) := by decide +kernel
theorem dX10_findChanges_63 : decode cX10_findChanges 63 = .ok (.aload_n 0, 1) := by decide +kernel
theorem dX10_findChanges_64 : decode cX10_findChanges 64 = .ok (.getfield 56, 3) := by decide +kernel
theorem dX10_findChanges_67 : decode cX10_findChanges 67 = .ok (.iconst 5, 1) := by decide +kernel
theorem dX10_findChanges_68 : decode cX10_findChanges 68 = .ok (.iload 7, 2) := by decide +kernel
theorem dX10_findChanges_70 : decode cX10_findChanges 70 = .ok (.imul, 1) := by decide +kernel
theorem dX10_findChanges_71 : decode cX10_findChanges 71 = .ok (.iload 6, 2) := by decide +kernel
theorem dX10_findChanges_73 : decode cX10_findChanges 73 = .ok (.iadd, 1) := by decide +kernel
theorem dX10_findChanges_74 : decode cX10_findChanges 74 = .ok (.aload_n 0, 1) := by decide +kernel
theorem dX10_findChanges_75 : decode cX10_findChanges 75 = .ok (.iload 7, 2) := by decide +kernel
theorem dX10_findChanges_77 : decode cX10_findChanges 77 = .ok (.iload 6, 2) := by decide +kernel
theorem dX10_findChanges_79 : decode cX10_findChanges 79 = .ok (.iload_n 1, 1) := by decide +kernel
theorem dX10_findChanges_80 : decode cX10_findChanges 80 = .ok (.iload_n 2, 1) := by decide +kernel
theorem dX10_findChanges_81 : decode cX10_findChanges 81 = .ok (.invokevirtual 234, 3) := by decide +kernel
theorem dX10_findChanges_84 : decode cX10_findChanges 84 = .ok (.iastore, 1) := by decide +kernel
theorem dX10_findChanges_85 : decode cX10_findChanges 85 = .ok (.iinc 6 1, 3) := by decide +kernel
theorem dX10_findChanges_88 : decode cX10_findChanges 88 = .ok (.goto (-41), 3) := by decide +kernel
theorem dX10_findChanges_91 : decode cX10_findChanges 91 = .ok (.iinc 5 1, 3) := by decide +kernel
theorem dX10_findChanges_94 : decode cX10_findChanges 94 = .ok (.goto (-66), 3) := by decide +kernel
theorem dX10_findChanges_97 : decode cX10_findChanges 97 = .ok (.iinc 4 1, 3) := by decide +kernel
theorem dX10_findChanges_100 : decode cX10_findChanges 100 = .ok (.goto (-83), 3) := by decide +kernel
theorem dX10_findChanges_103 : decode cX10_findChanges 103 = .ok (.iinc 3 (-1), 3) := by decide +kernel
theorem dX10_findChanges_106 : decode cX10_findChanges 106 = .ok (.goto (-96), 3) := by decide +kernel
theorem dX10_findChanges_109 : decode cX10_findChanges 109 = .ok (.return_, 1) := by decide +kernel
theorem dX10_changesBy_0 : decode cX10_changesBy 0 = .ok (.aload_n 0, 1) := by decide +kernel
theorem dX10_changesBy_1 : decode cX10_changesBy 1 = .ok (.iload_n 1, 1) := by decide +kernel
theorem dX10_changesBy_2 : decode cX10_changesBy 2 = .ok (.iload_n 3, 1) := by decide +kernel
theorem dX10_changesBy_3 : decode cX10_changesBy 3 = .ok (.iload 4, 2) := by decide +kernel
theorem dX10_changesBy_5 : decode cX10_changesBy 5 = .ok (.iload 5, 2) := by decide +kernel
theorem dX10_changesBy_7 : decode cX10_changesBy 7 = .ok (.iconst 0, 1) := by decide +kernel
theorem dX10_changesBy_8 : decode cX10_changesBy 8 = .ok (.invokevirtual 219, 3) := by decide +kernel
theorem dX10_changesBy_11 : decode cX10_changesBy 11 = .ok (.istore 6, 2) := by decide +kernel
theorem dX10_changesBy_13 : decode cX10_changesBy 13 = .ok (.iload 6, 2) := by decide +kernel
theorem dX10_changesBy_15 : decode cX10_changesBy 15 = .ok (.ifCond .lt 15, 3) := by decide +kernel
theorem dX10_changesBy_18 : decode cX10_changesBy 18 = .ok (.aload_n 0, 1) := by decide +kernel
theorem dX10_changesBy_19 : decode cX10_changesBy 19 = .ok (.getfield 47, 3) := by decide +kernel
theorem dX10_changesBy_22 : decode cX10_changesBy 22 = .ok (.iload 6, 2) := by decide +kernel
theorem dX10_changesBy_24 : decode cX10_changesBy 24 = .ok (.laload, 1) := by decide +kernel
theorem dX10_changesBy_25 : decode cX10_changesBy 25 = .ok (.lconst 0, 1) := by decide +kernel
theorem dX10_changesBy_26 : decode cX10_changesBy 26 = .ok (.lcmp, 1) := by decide +kernel
theorem dX10_changesBy_27 : decode cX10_changesBy 27 = .ok (.ifCond .ne 6, 3) := by decide +kernel
theorem dX10_changesBy_30 : decode cX10_changesBy 30 = .ok (.bipush (-6), 2) := by decide +kernel
theorem dX10_changesBy_32 : decode cX10_changesBy 32 = .ok (.ireturn, 1) := by decide +kernel
theorem dX10_changesBy_33 : decode cX10_changesBy 33 = .ok (.aload_n 0, 1) := by decide +kernel
theorem dX10_changesBy_34 : decode cX10_changesBy 34 = .ok (.getfield 56, 3) := by decide +kernel
theorem dX10_changesBy_37 : decode cX10_changesBy 37 = .ok (.iconst 5, 1) := by decide +kernel
theorem dX10_changesBy_38 : decode cX10_changesBy 38 = .ok (.iload 6, 2) := by decide +kernel
theorem dX10_changesBy_40 : decode cX10_changesBy 40 = .ok (.imul, 1) := by decide +kernel
theorem dX10_changesBy_41 : decode cX10_changesBy 41 = .ok (.aload_n 0, 1) := by decide +kernel
theorem dX10_changesBy_42 : decode cX10_changesBy 42 = .ok (.getfield 25, 3) := by decide +kernel
theorem dX10_changesBy_45 : decode cX10_changesBy 45 = .ok (.iload_n 3, 1) := by decide +kernel
theorem dX10_changesBy_46 : decode cX10_changesBy 46 = .ok (.iaload, 1) := by decide +kernel
theorem dX10_changesBy_47 : decode cX10_changesBy 47 = .ok (.iadd, 1) := by decide +kernel
theorem dX10_changesBy_48 : decode cX10_changesBy 48 = .ok (.iaload, 1) := by decide +kernel
theorem dX10_changesBy_49 : decode cX10_changesBy 49 = .ok (.aload_n 0, 1) := by decide +kernel
theorem dX10_changesBy_50 : decode cX10_changesBy 50 = .ok (.getfield 127, 3) := by decide +kernel
theorem dX10_changesBy_53 : decode cX10_changesBy 53 = .ok (.ifCond .le 22, 3) := by decide +kernel
theorem dX10_changesBy_56 : decode cX10_changesBy 56 = .ok (.iload_n 2, 1) := by decide +kernel
theorem dX10_changesBy_57 : decode cX10_changesBy 57 = .ok (.iconst 4, 1) := by decide +kernel
theorem dX10_changesBy_58 : decode cX10_changesBy 58 = .ok (.if_icmp .ge 17, 3) := by decide +kernel
theorem dX10_changesBy_61 : decode cX10_changesBy 61 = .ok (.iload_n 2, 1) := by decide +kernel
theorem dX10_changesBy_62 : decode cX10_changesBy 62 = .ok (.aload_n 0, 1) := by decide +kernel
theorem dX10_changesBy_63 : decode cX10_changesBy 63 = .ok (.getfield 25, 3) := by decide +kernel
theorem dX10_changesBy_66 : decode cX10_changesBy 66 = .ok (.iload_n 3, 1) := by decide +kernel
theorem dX10_changesBy_67 : decode cX10_changesBy 67 = .ok (.iaload, 1) := by decide +kernel
theorem dX10_changesBy_68 : decode cX10_changesBy 68 = .ok (.if_icmp .eq 7, 3) := by decide +kernel
theorem dX10_changesBy_71 : decode cX10_changesBy 71 = .ok (.iconst 1, 1) := by decide +kernel
theorem dX10_changesBy_72 : decode cX10_changesBy 72 = .ok (.goto 4, 3) := by decide +kernel
theorem dX10_changesBy_75 : decode cX10_changesBy 75 = .ok (.iconst 0, 1) := by decide +kernel
theorem dX10_changesBy_76 : decode cX10_changesBy 76 = .ok (.iadd, 1) := by decide +kernel
theorem dX10_changesBy_77 : decode cX10_changesBy 77 = .ok (.ireturn, 1) := by decide +kernel
theorem dX10_changesOf_0 : decode cX10_changesOf 0 = .ok (.aload_n 0, 1) := by decide +kernel
theorem dX10_changesOf_1 : decode cX10_changesOf 1 = .ok (.getfield 47, 3) := by decide +kernel
theorem dX10_changesOf_4 : decode cX10_changesOf 4 = .ok (.iload_n 1, 1) := by decide +kernel
theorem dX10_changesOf_5 : decode cX10_changesOf 5 = .ok (.laload, 1) := by decide +kernel
theorem dX10_changesOf_6 : decode cX10_changesOf 6 = .ok (.lconst 0, 1) := by decide +kernel
theorem dX10_changesOf_7 : decode cX10_changesOf 7 = .ok (.lcmp, 1) := by decide +kernel
theorem dX10_changesOf_8 : decode cX10_changesOf 8 = .ok (.ifCond .ne 6, 3) := by decide +kernel
theorem dX10_changesOf_11 : decode cX10_changesOf 11 = .ok (.bipush (-6), 2) := by decide +kernel
theorem dX10_changesOf_13 : decode cX10_changesOf 13 = .ok (.ireturn, 1) := by decide +kernel
theorem dX10_changesOf_14 : decode cX10_changesOf 14 = .ok (.aload_n 0, 1) := by decide +kernel
theorem dX10_changesOf_15 : decode cX10_changesOf 15 = .ok (.iload_n 1, 1) := by decide +kernel
theorem dX10_changesOf_16 : decode cX10_changesOf 16 = .ok (.invokevirtual 172, 3) := by decide +kernel
theorem dX10_changesOf_19 : decode cX10_changesOf 19 = .ok (.aload_n 0, 1) := by decide +kernel
theorem dX10_changesOf_20 : decode cX10_changesOf 20 = .ok (.iload_n 3, 1) := by decide +kernel
theorem dX10_changesOf_21 : decode cX10_changesOf 21 = .ok (.invokevirtual 216, 3) := by decide +kernel
theorem dX10_changesOf_24 : decode cX10_changesOf 24 = .ok (.ifCond .eq 5, 3) := by decide +kernel
theorem dX10_changesOf_27 : decode cX10_changesOf 27 = .ok (.iconst 0, 1) := by decide +kernel
theorem dX10_changesOf_28 : decode cX10_changesOf 28 = .ok (.ireturn, 1) := by decide +kernel
theorem dX10_changesOf_29 : decode cX10_changesOf 29 = .ok (.bipush (-6), 2) := by decide +kernel
theorem dX10_changesOf_31 : decode cX10_changesOf 31 = .ok (.istore 5, 2) := by decide +kernel
theorem dX10_changesOf_33 : decode cX10_changesOf 33 = .ok (.iconst 0, 1) := by decide +kernel
theorem dX10_changesOf_34 : decode cX10_changesOf 34 = .ok (.istore 6, 2) := by decide +kernel
theorem dX10_changesOf_36 : decode cX10_changesOf 36 = .ok (.iload 6, 2) := by decide +kernel
theorem dX10_changesOf_38 : decode cX10_changesOf 38 = .ok (.iconst 4, 1) := by decide +kernel
theorem dX10_changesOf_39 : decode cX10_changesOf 39 = .ok (.if_icmp .ge 48, 3) := by decide +kernel
theorem dX10_changesOf_42 : decode cX10_changesOf 42 = .ok (.aload_n 0, 1) := by decide +kernel
theorem dX10_changesOf_43 : decode cX10_changesOf 43 = .ok (.iload_n 1, 1) := by decide +kernel
theorem dX10_changesOf_44 : decode cX10_changesOf 44 = .ok (.iload_n 2, 1) := by decide +kernel
theorem dX10_changesOf_45 : decode cX10_changesOf 45 = .ok (.iload 6, 2) := by decide +kernel
theorem dX10_changesOf_47 : decode cX10_changesOf 47 = .ok (.iload_n 3, 1) := by decide +kernel
theorem dX10_changesOf_48 : decode cX10_changesOf 48 = .ok (.iload 4, 2) := by decide +kernel
theorem dX10_changesOf_50 : decode cX10_changesOf 50 = .ok (.invokevirtual 238, 3) := by decide +kernel
theorem dX10_changesOf_53 : decode cX10_changesOf 53 = .ok (.istore 7, 2) := by decide +kernel
theorem dX10_changesOf_55 : decode cX10_changesOf 55 = .ok (.iload 7, 2) := by decide +kernel
theorem dX10_changesOf_57 : decode cX10_changesOf 57 = .ok (.ifCond .lt 20, 3) := by decide +kernel
theorem dX10_changesOf_60 : decode cX10_changesOf 60 = .ok (.iload 5, 2) := by decide +kernel
theorem dX10_changesOf_62 : decode cX10_changesOf 62 = .ok (.ifCond .lt 10, 3) := by decide +kernel
theorem dX10_changesOf_65 : decode cX10_changesOf 65 = .ok (.iload 7, 2) := by decide +kernel
theorem dX10_changesOf_67 : decode cX10_changesOf 67 = .ok (.iload 5, 2) := by decide +kernel
theorem dX10_changesOf_69 : decode cX10_changesOf 69 = .ok (.if_icmp .ge 8, 3) := by decide +kernel
theorem dX10_changesOf_72 : decode cX10_changesOf 72 = .ok (.iload 7, 2) := by decide +kernel
theorem dX10_changesOf_74 : decode cX10_changesOf 74 = .ok (.goto 5, 3) := by decide +kernel
theorem dX10_changesOf_77 : decode cX10_changesOf 77 = .ok (.iload 5, 2) := by decide +kernel
theorem dX10_changesOf_79 : decode cX10_changesOf 79 = .ok (.istore 5, 2) := by decide +kernel
theorem dX10_changesOf_81 : decode cX10_changesOf 81 = .ok (.iinc 6 1, 3) := by decide +kernel
theorem dX10_changesOf_84 : decode cX10_changesOf 84 = .ok (.goto (-48), 3) := by decide +kernel
theorem dX10_changesOf_87 : decode cX10_changesOf 87 = .ok (.iload 5, 2) := by decide +kernel
theorem dX10_changesOf_89 : decode cX10_changesOf 89 = .ok (.ireturn, 1) := by decide +kernel
theorem dX10_shortest_0 : decode cX10_shortest 0 = .ok (.iload_n 1, 1) := by decide +kernel
theorem dX10_shortest_1 : decode cX10_shortest 1 = .ok (.invokestatic 223, 3) := by decide +kernel
theorem dX10_shortest_4 : decode cX10_shortest 4 = .ok (.ifCond .eq 15, 3) := by decide +kernel
theorem dX10_shortest_7 : decode cX10_shortest 7 = .ok (.iload_n 2, 1) := by decide +kernel
theorem dX10_shortest_8 : decode cX10_shortest 8 = .ok (.i2l, 1) := by decide +kernel
theorem dX10_shortest_9 : decode cX10_shortest 9 = .ok (.lconst 1, 1) := by decide +kernel
theorem dX10_shortest_10 : decode cX10_shortest 10 = .ok (.ldc2_w 226, 3) := by decide +kernel
theorem dX10_shortest_13 : decode cX10_shortest 13 = .ok (.invokestatic 77, 3) := by decide +kernel
theorem dX10_shortest_16 : decode cX10_shortest 16 = .ok (.ifCond .ne 6, 3) := by decide +kernel
theorem dX10_shortest_19 : decode cX10_shortest 19 = .ok (.bipush (-2), 2) := by decide +kernel
theorem dX10_shortest_21 : decode cX10_shortest 21 = .ok (.ireturn, 1) := by decide +kernel
theorem dX10_shortest_22 : decode cX10_shortest 22 = .ok (.aload_n 0, 1) := by decide +kernel
theorem dX10_shortest_23 : decode cX10_shortest 23 = .ok (.iload_n 1, 1) := by decide +kernel
theorem dX10_shortest_24 : decode cX10_shortest 24 = .ok (.iload_n 2, 1) := by decide +kernel
theorem dX10_shortest_25 : decode cX10_shortest 25 = .ok (.invokevirtual 241, 3) := by decide +kernel
theorem dX10_shortest_28 : decode cX10_shortest 28 = .ok (.aload_n 0, 1) := by decide +kernel
theorem dX10_shortest_29 : decode cX10_shortest 29 = .ok (.getfield 47, 3) := by decide +kernel
theorem dX10_shortest_32 : decode cX10_shortest 32 = .ok (.iconst 0, 1) := by decide +kernel
theorem dX10_shortest_33 : decode cX10_shortest 33 = .ok (.laload, 1) := by decide +kernel
theorem dX10_shortest_34 : decode cX10_shortest 34 = .ok (.lconst 0, 1) := by decide +kernel
theorem dX10_shortest_35 : decode cX10_shortest 35 = .ok (.lcmp, 1) := by decide +kernel
theorem dX10_shortest_36 : decode cX10_shortest 36 = .ok (.ifCond .ne 6, 3) := by decide +kernel
theorem dX10_shortest_39 : decode cX10_shortest 39 = .ok (.bipush (-6), 2) := by decide +kernel
theorem dX10_shortest_41 : decode cX10_shortest 41 = .ok (.ireturn, 1) := by decide +kernel
theorem dX10_shortest_42 : decode cX10_shortest 42 = .ok (.iconst 0, 1) := by decide +kernel
theorem dX10_shortest_43 : decode cX10_shortest 43 = .ok (.istore 4, 2) := by decide +kernel
theorem dX10_shortest_45 : decode cX10_shortest 45 = .ok (.aload_n 0, 1) := by decide +kernel
theorem dX10_shortest_46 : decode cX10_shortest 46 = .ok (.getfield 127, 3) := by decide +kernel
theorem dX10_shortest_49 : decode cX10_shortest 49 = .ok (.aload_n 0, 1) := by decide +kernel
theorem dX10_shortest_50 : decode cX10_shortest 50 = .ok (.getfield 56, 3) := by decide +kernel
theorem dX10_shortest_53 : decode cX10_shortest 53 = .ok (.iconst 4, 1) := by decide +kernel
theorem dX10_shortest_54 : decode cX10_shortest 54 = .ok (.iaload, 1) := by decide +kernel
theorem dX10_shortest_55 : decode cX10_shortest 55 = .ok (.imul, 1) := by decide +kernel
theorem dX10_shortest_56 : decode cX10_shortest 56 = .ok (.istore 5, 2) := by decide +kernel
theorem dX10_shortest_58 : decode cX10_shortest 58 = .ok (.iconst 0, 1) := by decide +kernel
theorem dX10_shortest_59 : decode cX10_shortest 59 = .ok (.istore 6, 2) := by decide +kernel
theorem dX10_shortest_61 : decode cX10_shortest 61 = .ok (.iload 6, 2) := by decide +kernel
theorem dX10_shortest_63 : decode cX10_shortest 63 = .ok (.iconst 4, 1) := by decide +kernel
theorem dX10_shortest_64 : decode cX10_shortest 64 = .ok (.if_icmp .ge 60, 3) := by decide +kernel
theorem dX10_shortest_67 : decode cX10_shortest 67 = .ok (.iload 4, 2) := by decide +kernel
theorem dX10_shortest_69 : decode cX10_shortest 69 = .ok (.iload_n 1, 1) := by decide +kernel
theorem dX10_shortest_70 : decode cX10_shortest 70 = .ok (.iload 6, 2) := by decide +kernel
theorem dX10_shortest_72 : decode cX10_shortest 72 = .ok (.ishr, 1) := by decide +kernel
theorem dX10_shortest_73 : decode cX10_shortest 73 = .ok (.iconst 1, 1) := by decide +kernel
theorem dX10_shortest_74 : decode cX10_shortest 74 = .ok (.iand, 1) := by decide +kernel
theorem dX10_shortest_75 : decode cX10_shortest 75 = .ok (.iconst 1, 1) := by decide +kernel
theorem dX10_shortest_76 : decode cX10_shortest 76 = .ok (.if_icmp .ne 13, 3) := by decide +kernel
theorem dX10_shortest_79 : decode cX10_shortest 79 = .ok (.aload_n 0, 1) := by decide +kernel
theorem dX10_shortest_80 : decode cX10_shortest 80 = .ok (.getfield 16, 3) := by decide +kernel
theorem dX10_shortest_83 : decode cX10_shortest 83 = .ok (.iload 6, 2) := by decide +kernel
theorem dX10_shortest_85 : decode cX10_shortest 85 = .ok (.iaload, 1) := by decide +kernel
theorem dX10_shortest_86 : decode cX10_shortest 86 = .ok (.goto 4, 3) := by decide +kernel
theorem dX10_shortest_89 : decode cX10_shortest 89 = .ok (.iconst 0, 1) := by decide +kernel
theorem dX10_shortest_90 : decode cX10_shortest 90 = .ok (.iadd, 1) := by decide +kernel
theorem dX10_shortest_91 : decode cX10_shortest 91 = .ok (.istore 4, 2) := by decide +kernel
theorem dX10_shortest_93 : decode cX10_shortest 93 = .ok (.iload 5, 2) := by decide +kernel
theorem dX10_shortest_95 : decode cX10_shortest 95 = .ok (.iload_n 1, 1) := by decide +kernel
theorem dX10_shortest_96 : decode cX10_shortest 96 = .ok (.iload 6, 2) := by decide +kernel
theorem dX10_shortest_98 : decode cX10_shortest 98 = .ok (.ishr, 1) := by decide +kernel
theorem dX10_shortest_99 : decode cX10_shortest 99 = .ok (.iconst 1, 1) := by decide +kernel
theorem dX10_shortest_100 : decode cX10_shortest 100 = .ok (.iand, 1) := by decide +kernel
theorem dX10_shortest_101 : decode cX10_shortest 101 = .ok (.iconst 1, 1) := by decide +kernel
theorem dX10_shortest_102 : decode cX10_shortest 102 = .ok (.if_icmp .ne 12, 3) := by decide +kernel
theorem dX10_shortest_105 : decode cX10_shortest 105 = .ok (.aload_n 0, 1) := by decide +kernel
theorem dX10_shortest_106 : decode cX10_shortest 106 = .ok (.iload 6, 2) := by decide +kernel
theorem dX10_shortest_108 : decode cX10_shortest 108 = .ok (.invokevirtual 115, 3) := by decide +kernel
theorem dX10_shortest_111 : decode cX10_shortest 111 = .ok (.goto 4, 3) := by decide +kernel
theorem dX10_shortest_114 : decode cX10_shortest 114 = .ok (.iconst 0, 1) := by decide +kernel
theorem dX10_shortest_115 : decode cX10_shortest 115 = .ok (.iadd, 1) := by decide +kernel
theorem dX10_shortest_116 : decode cX10_shortest 116 = .ok (.istore 5, 2) := by decide +kernel
theorem dX10_shortest_118 : decode cX10_shortest 118 = .ok (.iinc 6 1, 3) := by decide +kernel
theorem dX10_shortest_121 : decode cX10_shortest 121 = .ok (.goto (-60), 3) := by decide +kernel
theorem dX10_shortest_124 : decode cX10_shortest 124 = .ok (.iload_n 3, 1) := by decide +kernel
theorem dX10_shortest_125 : decode cX10_shortest 125 = .ok (.i2l, 1) := by decide +kernel
theorem dX10_shortest_126 : decode cX10_shortest 126 = .ok (.lconst 0, 1) := by decide +kernel
theorem dX10_shortest_127 : decode cX10_shortest 127 = .ok (.iload 4, 2) := by decide +kernel
theorem dX10_shortest_129 : decode cX10_shortest 129 = .ok (.iconst 1, 1) := by decide +kernel
theorem dX10_shortest_130 : decode cX10_shortest 130 = .ok (.isub, 1) := by decide +kernel
theorem dX10_shortest_131 : decode cX10_shortest 131 = .ok (.i2l, 1) := by decide +kernel
theorem dX10_shortest_132 : decode cX10_shortest 132 = .ok (.invokestatic 77, 3) := by decide +kernel
theorem dX10_shortest_135 : decode cX10_shortest 135 = .ok (.ifCond .ne 16, 3) := by decide +kernel
theorem dX10_shortest_138 : decode cX10_shortest 138 = .ok (.iload_n 3, 1) := by decide +kernel
theorem dX10_shortest_139 : decode cX10_shortest 139 = .ok (.iconst (-1), 1) := by decide +kernel
theorem dX10_shortest_140 : decode cX10_shortest 140 = .ok (.if_icmp .ne 8, 3) := by decide +kernel
theorem dX10_shortest_143 : decode cX10_shortest 143 = .ok (.iload 5, 2) := by decide +kernel
theorem dX10_shortest_145 : decode cX10_shortest 145 = .ok (.goto 5, 3) := by decide +kernel
theorem dX10_shortest_148 : decode cX10_shortest 148 = .ok (.bipush (-6), 2) := by decide +kernel
theorem dX10_shortest_150 : decode cX10_shortest 150 = .ok (.ireturn, 1) := by decide +kernel
theorem dX10_shortest_151 : decode cX10_shortest 151 = .ok (.iconst 0, 1) := by decide +kernel
theorem dX10_shortest_152 : decode cX10_shortest 152 = .ok (.istore 6, 2) := by decide +kernel
theorem dX10_shortest_154 : decode cX10_shortest 154 = .ok (.iconst 4, 1) := by decide +kernel
theorem dX10_shortest_155 : decode cX10_shortest 155 = .ok (.istore 7, 2) := by decide +kernel
theorem dX10_shortest_157 : decode cX10_shortest 157 = .ok (.iconst 0, 1) := by decide +kernel
theorem dX10_shortest_158 : decode cX10_shortest 158 = .ok (.istore 8, 2) := by decide +kernel
theorem dX10_shortest_160 : decode cX10_shortest 160 = .ok (.iconst 0, 1) := by decide +kernel
theorem dX10_shortest_161 : decode cX10_shortest 161 = .ok (.istore 9, 2) := by decide +kernel
theorem dX10_shortest_163 : decode cX10_shortest 163 = .ok (.iload 9, 2) := by decide +kernel
theorem dX10_shortest_165 : decode cX10_shortest 165 = .ok (.iload_n 3, 1) := by decide +kernel
theorem dX10_shortest_166 : decode cX10_shortest 166 = .ok (.if_icmp .gt 71, 3) := by decide +kernel
theorem dX10_shortest_169 : decode cX10_shortest 169 = .ok (.aload_n 0, 1) := by decide +kernel
theorem dX10_shortest_170 : decode cX10_shortest 170 = .ok (.getfield 56, 3) := by decide +kernel
theorem dX10_shortest_173 : decode cX10_shortest 173 = .ok (.iconst 5, 1) := by decide +kernel
theorem dX10_shortest_174 : decode cX10_shortest 174 = .ok (.iload 6, 2) := by decide +kernel
theorem dX10_shortest_176 : decode cX10_shortest 176 = .ok (.imul, 1) := by decide +kernel
theorem dX10_shortest_177 : decode cX10_shortest 177 = .ok (.iload 7, 2) := by decide +kernel
theorem dX10_shortest_179 : decode cX10_shortest 179 = .ok (.iadd, 1) := by decide +kernel
theorem dX10_shortest_180 : decode cX10_shortest 180 = .ok (.iaload, 1) := by decide +kernel
theorem dX10_shortest_181 : decode cX10_shortest 181 = .ok (.istore 10, 2) := by decide +kernel
theorem dX10_shortest_183 : decode cX10_shortest 183 = .ok (.iconst 0, 1) := by decide +kernel
theorem dX10_shortest_184 : decode cX10_shortest 184 = .ok (.istore 8, 2) := by decide +kernel
theorem dX10_shortest_186 : decode cX10_shortest 186 = .ok (.aload_n 0, 1) := by decide +kernel
theorem dX10_shortest_187 : decode cX10_shortest 187 = .ok (.iload 6, 2) := by decide +kernel
theorem dX10_shortest_189 : decode cX10_shortest 189 = .ok (.iload 7, 2) := by decide +kernel
theorem dX10_shortest_191 : decode cX10_shortest 191 = .ok (.iload 8, 2) := by decide +kernel
theorem dX10_shortest_193 : decode cX10_shortest 193 = .ok (.iload_n 1, 1) := by decide +kernel
theorem dX10_shortest_194 : decode cX10_shortest 194 = .ok (.iload_n 2, 1) := by decide +kernel
theorem dX10_shortest_195 : decode cX10_shortest 195 = .ok (.invokevirtual 238, 3) := by decide +kernel
theorem dX10_shortest_198 : decode cX10_shortest 198 = .ok (.iload 10, 2) := by decide +kernel
theorem dX10_shortest_200 : decode cX10_shortest 200 = .ok (.if_icmp .eq 9, 3) := by decide +kernel
theorem dX10_shortest_203 : decode cX10_shortest 203 = .ok (.iinc 8 1, 3) := by decide +kernel
theorem dX10_shortest_206 : decode cX10_shortest 206 = .ok (.goto (-20), 3) := by decide +kernel
theorem dX10_shortest_209 : decode cX10_shortest 209 = .ok (.aload_n 0, 1) := by decide +kernel
theorem dX10_shortest_210 : decode cX10_shortest 210 = .ok (.iload 6, 2) := by decide +kernel
theorem dX10_shortest_212 : decode cX10_shortest 212 = .ok (.iload 8, 2) := by decide +kernel
theorem dX10_shortest_214 : decode cX10_shortest 214 = .ok (.iload_n 1, 1) := by decide +kernel
theorem dX10_shortest_215 : decode cX10_shortest 215 = .ok (.iload_n 2, 1) := by decide +kernel
theorem dX10_shortest_216 : decode cX10_shortest 216 = .ok (.iconst 0, 1) := by decide +kernel
theorem dX10_shortest_217 : decode cX10_shortest 217 = .ok (.invokevirtual 219, 3) := by decide +kernel
theorem dX10_shortest_220 : decode cX10_shortest 220 = .ok (.istore 6, 2) := by decide +kernel
theorem dX10_shortest_222 : decode cX10_shortest 222 = .ok (.aload_n 0, 1) := by decide +kernel
theorem dX10_shortest_223 : decode cX10_shortest 223 = .ok (.getfield 25, 3) := by decide +kernel
theorem dX10_shortest_226 : decode cX10_shortest 226 = .ok (.iload 8, 2) := by decide +kernel
theorem dX10_shortest_228 : decode cX10_shortest 228 = .ok (.iaload, 1) := by decide +kernel
theorem dX10_shortest_229 : decode cX10_shortest 229 = .ok (.istore 7, 2) := by decide +kernel
theorem dX10_shortest_231 : decode cX10_shortest 231 = .ok (.iinc 9 1, 3) := by decide +kernel
theorem dX10_shortest_234 : decode cX10_shortest 234 = .ok (.goto (-71), 3) := by decide +kernel
theorem dX10_shortest_237 : decode cX10_shortest 237 = .ok (.bipush 97, 2) := by decide +kernel
theorem dX10_shortest_239 : decode cX10_shortest 239 = .ok (.iload 8, 2) := by decide +kernel
theorem dX10_shortest_241 : decode cX10_shortest 241 = .ok (.iadd, 1) := by decide +kernel
theorem dX10_shortest_242 : decode cX10_shortest 242 = .ok (.ireturn, 1) := by decide +kernel
theorem dX10_findReached_0 : decode cX10_findReached 0 = .ok (.iconst 0, 1) := by decide +kernel
theorem dX10_findReached_1 : decode cX10_findReached 1 = .ok (.istore_n 3, 1) := by decide +kernel
theorem dX10_findReached_2 : decode cX10_findReached 2 = .ok (.iload_n 3, 1) := by decide +kernel
theorem dX10_findReached_3 : decode cX10_findReached 3 = .ok (.ldc 46, 2) := by decide +kernel
theorem dX10_findReached_5 : decode cX10_findReached 5 = .ok (.if_icmp .ge 24, 3) := by decide +kernel
theorem dX10_findReached_8 : decode cX10_findReached 8 = .ok (.aload_n 0, 1) := by decide +kernel
theorem dX10_findReached_9 : decode cX10_findReached 9 = .ok (.getfield 51, 3) := by decide +kernel
theorem dX10_findReached_12 : decode cX10_findReached 12 = .ok (.iload_n 3, 1) := by decide +kernel
theorem dX10_findReached_13 : decode cX10_findReached 13 = .ok (.iload_n 3, 1) := by decide +kernel
theorem dX10_findReached_14 : decode cX10_findReached 14 = .ok (.ifCond .ne 7, 3) := by decide +kernel
theorem dX10_findReached_17 : decode cX10_findReached 17 = .ok (.iconst 1, 1) := by decide +kernel
theorem dX10_findReached_18 : decode cX10_findReached 18 = .ok (.goto 4, 3) := by decide +kernel
theorem dX10_findReached_21 : decode cX10_findReached 21 = .ok (.iconst 0, 1) := by decide +kernel
theorem dX10_findReached_22 : decode cX10_findReached 22 = .ok (.bastore, 1) := by decide +kernel
theorem dX10_findReached_23 : decode cX10_findReached 23 = .ok (.iinc 3 1, 3) := by decide +kernel
theorem dX10_findReached_26 : decode cX10_findReached 26 = .ok (.goto (-24), 3) := by decide +kernel
theorem dX10_findReached_29 : decode cX10_findReached 29 = .ok (.iconst 0, 1) := by decide +kernel
theorem dX10_findReached_30 : decode cX10_findReached 30 = .ok (.istore_n 3, 1) := by decide +kernel
theorem dX10_findReached_31 : decode cX10_findReached 31 = .ok (.iload_n 3, 1) := by decide +kernel
theorem dX10_findReached_32 : decode cX10_findReached 32 = .ok (.bipush 16, 2) := by decide +kernel
theorem dX10_findReached_34 : decode cX10_findReached 34 = .ok (.if_icmp .ge 112, 3) := by decide +kernel
theorem dX10_findReached_37 : decode cX10_findReached 37 = .ok (.iconst 0, 1) := by decide +kernel
theorem dX10_findReached_38 : decode cX10_findReached 38 = .ok (.istore 4, 2) := by decide +kernel
theorem dX10_findReached_40 : decode cX10_findReached 40 = .ok (.iload 4, 2) := by decide +kernel
theorem dX10_findReached_42 : decode cX10_findReached 42 = .ok (.sipush 625, 3) := by decide +kernel
theorem dX10_findReached_45 : decode cX10_findReached 45 = .ok (.if_icmp .ge 95, 3) := by decide +kernel
theorem dX10_findReached_48 : decode cX10_findReached 48 = .ok (.iconst 0, 1) := by decide +kernel
theorem dX10_findReached_49 : decode cX10_findReached 49 = .ok (.istore 5, 2) := by decide +kernel
theorem dX10_findReached_51 : decode cX10_findReached 51 = .ok (.iload 5, 2) := by decide +kernel
theorem dX10_findReached_53 : decode cX10_findReached 53 = .ok (.bipush 65, 2) := by decide +kernel
theorem dX10_findReached_55 : decode cX10_findReached 55 = .ok (.if_icmp .ge 79, 3) := by decide +kernel
theorem dX10_findReached_58 : decode cX10_findReached 58 = .ok (.iload 4, 2) := by decide +kernel
theorem dX10_findReached_60 : decode cX10_findReached 60 = .ok (.invokestatic 206, 3) := by decide +kernel
theorem dX10_findReached_63 : decode cX10_findReached 63 = .ok (.iload_n 3, 1) := by decide +kernel
theorem dX10_findReached_64 : decode cX10_findReached 64 = .ok (.if_icmp .ne 70, 3) := by decide +kernel
theorem dX10_findReached_67 : decode cX10_findReached 67 = .ok (.bipush 65, 2) := by decide +kernel
theorem dX10_findReached_69 : decode cX10_findReached 69 = .ok (.iload 4, 2) := by decide +kernel
theorem dX10_findReached_71 : decode cX10_findReached 71 = .ok (.imul, 1) := by decide +kernel
theorem dX10_findReached_72 : decode cX10_findReached 72 = .ok (.iload 5, 2) := by decide +kernel
theorem dX10_findReached_74 : decode cX10_findReached 74 = .ok (.iadd, 1) := by decide +kernel
theorem dX10_findReached_75 : decode cX10_findReached 75 = .ok (.istore 6, 2) := by decide +kernel
theorem dX10_findReached_77 : decode cX10_findReached 77 = .ok (.iconst 0, 1) := by decide +kernel
theorem dX10_findReached_78 : decode cX10_findReached 78 = .ok (.istore 7, 2) := by decide +kernel
theorem dX10_findReached_80 : decode cX10_findReached 80 = .ok (.iload 7, 2) := by decide +kernel
theorem dX10_findReached_82 : decode cX10_findReached 82 = .ok (.iconst 4, 1) := by decide +kernel
theorem dX10_findReached_83 : decode cX10_findReached 83 = .ok (.if_icmp .ge 45, 3) := by decide +kernel
theorem dX10_findReached_86 : decode cX10_findReached 86 = .ok (.aload_n 0, 1) := by decide +kernel
theorem dX10_findReached_87 : decode cX10_findReached 87 = .ok (.getfield 51, 3) := by decide +kernel
theorem dX10_findReached_90 : decode cX10_findReached 90 = .ok (.iload 6, 2) := by decide +kernel
theorem dX10_findReached_92 : decode cX10_findReached 92 = .ok (.baload, 1) := by decide +kernel
theorem dX10_findReached_93 : decode cX10_findReached 93 = .ok (.ifCond .eq 35, 3) := by decide +kernel
theorem dX10_findReached_96 : decode cX10_findReached 96 = .ok (.aload_n 0, 1) := by decide +kernel
theorem dX10_findReached_97 : decode cX10_findReached 97 = .ok (.iload 6, 2) := by decide +kernel
theorem dX10_findReached_99 : decode cX10_findReached 99 = .ok (.iload 7, 2) := by decide +kernel
theorem dX10_findReached_101 : decode cX10_findReached 101 = .ok (.iload_n 1, 1) := by decide +kernel
theorem dX10_findReached_102 : decode cX10_findReached 102 = .ok (.iload_n 2, 1) := by decide +kernel
theorem dX10_findReached_103 : decode cX10_findReached 103 = .ok (.iconst 0, 1) := by decide +kernel
theorem dX10_findReached_104 : decode cX10_findReached 104 = .ok (.invokevirtual 219, 3) := by decide +kernel
theorem dX10_findReached_107 : decode cX10_findReached 107 = .ok (.istore 8, 2) := by decide +kernel
theorem dX10_findReached_109 : decode cX10_findReached 109 = .ok (.iload 8, 2) := by decide +kernel
theorem dX10_findReached_111 : decode cX10_findReached 111 = .ok (.ifCond .lt 11, 3) := by decide +kernel
theorem dX10_findReached_114 : decode cX10_findReached 114 = .ok (.aload_n 0, 1) := by decide +kernel
theorem dX10_findReached_115 : decode cX10_findReached 115 = .ok (.getfield 51, 3) := by decide +kernel
theorem dX10_findReached_118 : decode cX10_findReached 118 = .ok (.iload 8, 2) := by decide +kernel
theorem dX10_findReached_120 : decode cX10_findReached 120 = .ok (.iconst 1, 1) := by decide +kernel
theorem dX10_findReached_121 : decode cX10_findReached 121 = .ok (.bastore, 1) := by decide +kernel
theorem dX10_findReached_122 : decode cX10_findReached 122 = .ok (.iinc 7 1, 3) := by decide +kernel
theorem dX10_findReached_125 : decode cX10_findReached 125 = .ok (.goto (-45), 3) := by decide +kernel
theorem dX10_findReached_128 : decode cX10_findReached 128 = .ok (.iinc 5 1, 3) := by decide +kernel
theorem dX10_findReached_131 : decode cX10_findReached 131 = .ok (.goto (-80), 3) := by decide +kernel
theorem dX10_findReached_134 : decode cX10_findReached 134 = .ok (.iinc 4 1, 3) := by decide +kernel
theorem dX10_findReached_137 : decode cX10_findReached 137 = .ok (.goto (-97), 3) := by decide +kernel
theorem dX10_findReached_140 : decode cX10_findReached 140 = .ok (.iinc 3 1, 3) := by decide +kernel
theorem dX10_findReached_143 : decode cX10_findReached 143 = .ok (.goto (-112), 3) := by decide +kernel
theorem dX10_findReached_146 : decode cX10_findReached 146 = .ok (.return_, 1) := by decide +kernel
theorem dX10_minutesNow_0 : decode cX10_minutesNow 0 = .ok (.iconst 0, 1) := by decide +kernel
theorem dX10_minutesNow_1 : decode cX10_minutesNow 1 = .ok (.istore_n 1, 1) := by decide +kernel
theorem dX10_minutesNow_2 : decode cX10_minutesNow 2 = .ok (.iconst 0, 1) := by decide +kernel
theorem dX10_minutesNow_3 : decode cX10_minutesNow 3 = .ok (.istore_n 2, 1) := by decide +kernel
theorem dX10_minutesNow_4 : decode cX10_minutesNow 4 = .ok (.iload_n 2, 1) := by decide +kernel
theorem dX10_minutesNow_5 : decode cX10_minutesNow 5 = .ok (.iconst 4, 1) := by decide +kernel
theorem dX10_minutesNow_6 : decode cX10_minutesNow 6 = .ok (.if_icmp .ge 40, 3) := by decide +kernel
theorem dX10_minutesNow_9 : decode cX10_minutesNow 9 = .ok (.iconst 0, 1) := by decide +kernel
theorem dX10_minutesNow_10 : decode cX10_minutesNow 10 = .ok (.istore_n 3, 1) := by decide +kernel
theorem dX10_minutesNow_11 : decode cX10_minutesNow 11 = .ok (.iload_n 3, 1) := by decide +kernel
theorem dX10_minutesNow_12 : decode cX10_minutesNow 12 = .ok (.aload_n 0, 1) := by decide +kernel
theorem dX10_minutesNow_13 : decode cX10_minutesNow 13 = .ok (.getfield 43, 3) := by decide +kernel
theorem dX10_minutesNow_16 : decode cX10_minutesNow 16 = .ok (.iload_n 2, 1) := by decide +kernel
theorem dX10_minutesNow_17 : decode cX10_minutesNow 17 = .ok (.iaload, 1) := by decide +kernel
theorem dX10_minutesNow_18 : decode cX10_minutesNow 18 = .ok (.if_icmp .ge 22, 3) := by decide +kernel
theorem dX10_minutesNow_21 : decode cX10_minutesNow 21 = .ok (.iload_n 1, 1) := by decide +kernel
theorem dX10_minutesNow_22 : decode cX10_minutesNow 22 = .ok (.aload_n 0, 1) := by decide +kernel
theorem dX10_minutesNow_23 : decode cX10_minutesNow 23 = .ok (.getfield 19, 3) := by decide +kernel
theorem dX10_minutesNow_26 : decode cX10_minutesNow 26 = .ok (.iconst 4, 1) := by decide +kernel
theorem dX10_minutesNow_27 : decode cX10_minutesNow 27 = .ok (.iload_n 2, 1) := by decide +kernel
theorem dX10_minutesNow_28 : decode cX10_minutesNow 28 = .ok (.imul, 1) := by decide +kernel
theorem dX10_minutesNow_29 : decode cX10_minutesNow 29 = .ok (.iload_n 3, 1) := by decide +kernel
theorem dX10_minutesNow_30 : decode cX10_minutesNow 30 = .ok (.iadd, 1) := by decide +kernel
theorem dX10_minutesNow_31 : decode cX10_minutesNow 31 = .ok (.iaload, 1) := by decide +kernel
theorem dX10_minutesNow_32 : decode cX10_minutesNow 32 = .ok (.iadd, 1) := by decide +kernel
theorem dX10_minutesNow_33 : decode cX10_minutesNow 33 = .ok (.istore_n 1, 1) := by decide +kernel
theorem dX10_minutesNow_34 : decode cX10_minutesNow 34 = .ok (.iinc 3 1, 3) := by decide +kernel
theorem dX10_minutesNow_37 : decode cX10_minutesNow 37 = .ok (.goto (-26), 3) := by decide +kernel
theorem dX10_minutesNow_40 : decode cX10_minutesNow 40 = .ok (.iinc 2 1, 3) := by decide +kernel
theorem dX10_minutesNow_43 : decode cX10_minutesNow 43 = .ok (.goto (-39), 3) := by decide +kernel
theorem dX10_minutesNow_46 : decode cX10_minutesNow 46 = .ok (.iload_n 1, 1) := by decide +kernel
theorem dX10_minutesNow_47 : decode cX10_minutesNow 47 = .ok (.ireturn, 1) := by decide +kernel
theorem dX10_isOf_0 : decode cX10_isOf 0 = .ok (.iload_n 1, 1) := by decide +kernel
theorem dX10_isOf_1 : decode cX10_isOf 1 = .ok (.invokestatic 101, 3) := by decide +kernel
theorem dX10_isOf_4 : decode cX10_isOf 4 = .ok (.ifCond .eq 23, 3) := by decide +kernel
theorem dX10_isOf_7 : decode cX10_isOf 7 = .ok (.iload_n 2, 1) := by decide +kernel
theorem dX10_isOf_8 : decode cX10_isOf 8 = .ok (.invokestatic 223, 3) := by decide +kernel
theorem dX10_isOf_11 : decode cX10_isOf 11 = .ok (.ifCond .eq 12, 3) := by decide +kernel
theorem dX10_isOf_14 : decode cX10_isOf 14 = .ok (.iload_n 2, 1) := by decide +kernel
theorem dX10_isOf_15 : decode cX10_isOf 15 = .ok (.iload_n 1, 1) := by decide +kernel
theorem dX10_isOf_16 : decode cX10_isOf 16 = .ok (.ishr, 1) := by decide +kernel
theorem dX10_isOf_17 : decode cX10_isOf 17 = .ok (.iconst 1, 1) := by decide +kernel
theorem dX10_isOf_18 : decode cX10_isOf 18 = .ok (.iand, 1) := by decide +kernel
theorem dX10_isOf_19 : decode cX10_isOf 19 = .ok (.iconst 1, 1) := by decide +kernel
theorem dX10_isOf_20 : decode cX10_isOf 20 = .ok (.if_icmp .ne 7, 3) := by decide +kernel
theorem dX10_isOf_23 : decode cX10_isOf 23 = .ok (.iconst 1, 1) := by decide +kernel
theorem dX10_isOf_24 : decode cX10_isOf 24 = .ok (.goto 4, 3) := by decide +kernel
theorem dX10_isOf_27 : decode cX10_isOf 27 = .ok (.iconst 0, 1) := by decide +kernel
theorem dX10_isOf_28 : decode cX10_isOf 28 = .ok (.ireturn, 1) := by decide +kernel
theorem dX10_ends_0 : decode cX10_ends 0 = .ok (.aload_n 0, 1) := by decide +kernel
theorem dX10_ends_1 : decode cX10_ends 1 = .ok (.iload_n 1, 1) := by decide +kernel
theorem dX10_ends_2 : decode cX10_ends 2 = .ok (.iload_n 2, 1) := by decide +kernel
theorem dX10_ends_3 : decode cX10_ends 3 = .ok (.invokevirtual 245, 3) := by decide +kernel
theorem dX10_ends_6 : decode cX10_ends 6 = .ok (.ifCond .ne 5, 3) := by decide +kernel
theorem dX10_ends_9 : decode cX10_ends 9 = .ok (.iconst (-1), 1) := by decide +kernel
theorem dX10_ends_10 : decode cX10_ends 10 = .ok (.ireturn, 1) := by decide +kernel
theorem dX10_ends_11 : decode cX10_ends 11 = .ok (.iload_n 2, 1) := by decide +kernel
theorem dX10_ends_12 : decode cX10_ends 12 = .ok (.invokestatic 223, 3) := by decide +kernel
theorem dX10_ends_15 : decode cX10_ends 15 = .ok (.ifCond .eq 15, 3) := by decide +kernel
theorem dX10_ends_18 : decode cX10_ends 18 = .ok (.iload_n 3, 1) := by decide +kernel
theorem dX10_ends_19 : decode cX10_ends 19 = .ok (.i2l, 1) := by decide +kernel
theorem dX10_ends_20 : decode cX10_ends 20 = .ok (.lconst 1, 1) := by decide +kernel
theorem dX10_ends_21 : decode cX10_ends 21 = .ok (.ldc2_w 226, 3) := by decide +kernel
theorem dX10_ends_24 : decode cX10_ends 24 = .ok (.invokestatic 77, 3) := by decide +kernel
theorem dX10_ends_27 : decode cX10_ends 27 = .ok (.ifCond .ne 6, 3) := by decide +kernel
theorem dX10_ends_30 : decode cX10_ends 30 = .ok (.bipush (-2), 2) := by decide +kernel
theorem dX10_ends_32 : decode cX10_ends 32 = .ok (.ireturn, 1) := by decide +kernel
theorem dX10_ends_33 : decode cX10_ends 33 = .ok (.aload_n 0, 1) := by decide +kernel
theorem dX10_ends_34 : decode cX10_ends 34 = .ok (.iload_n 2, 1) := by decide +kernel
theorem dX10_ends_35 : decode cX10_ends 35 = .ok (.iload_n 3, 1) := by decide +kernel
theorem dX10_ends_36 : decode cX10_ends 36 = .ok (.iconst 0, 1) := by decide +kernel
theorem dX10_ends_37 : decode cX10_ends 37 = .ok (.invokevirtual 230, 3) := by decide +kernel
theorem dX10_ends_40 : decode cX10_ends 40 = .ok (.aload_n 0, 1) := by decide +kernel
theorem dX10_ends_41 : decode cX10_ends 41 = .ok (.iload_n 2, 1) := by decide +kernel
theorem dX10_ends_42 : decode cX10_ends 42 = .ok (.iload_n 3, 1) := by decide +kernel
theorem dX10_ends_43 : decode cX10_ends 43 = .ok (.invokevirtual 249, 3) := by decide +kernel
theorem dX10_ends_46 : decode cX10_ends 46 = .ok (.iconst 0, 1) := by decide +kernel
theorem dX10_ends_47 : decode cX10_ends 47 = .ok (.istore 5, 2) := by decide +kernel
theorem dX10_ends_49 : decode cX10_ends 49 = .ok (.iload 5, 2) := by decide +kernel
theorem dX10_ends_51 : decode cX10_ends 51 = .ok (.sipush 144, 3) := by decide +kernel
theorem dX10_ends_54 : decode cX10_ends 54 = .ok (.if_icmp .gt 17, 3) := by decide +kernel
theorem dX10_ends_57 : decode cX10_ends 57 = .ok (.aload_n 0, 1) := by decide +kernel
theorem dX10_ends_58 : decode cX10_ends 58 = .ok (.getfield 59, 3) := by decide +kernel
theorem dX10_ends_61 : decode cX10_ends 61 = .ok (.iload 5, 2) := by decide +kernel
theorem dX10_ends_63 : decode cX10_ends 63 = .ok (.iconst 0, 1) := by decide +kernel
theorem dX10_ends_64 : decode cX10_ends 64 = .ok (.bastore, 1) := by decide +kernel
theorem dX10_ends_65 : decode cX10_ends 65 = .ok (.iinc 5 1, 3) := by decide +kernel
theorem dX10_ends_68 : decode cX10_ends 68 = .ok (.goto (-19), 3) := by decide +kernel
theorem dX10_ends_71 : decode cX10_ends 71 = .ok (.iconst 0, 1) := by decide +kernel
theorem dX10_ends_72 : decode cX10_ends 72 = .ok (.istore 5, 2) := by decide +kernel
theorem dX10_ends_74 : decode cX10_ends 74 = .ok (.iload 5, 2) := by decide +kernel
theorem dX10_ends_76 : decode cX10_ends 76 = .ok (.ldc 46, 2) := by decide +kernel
theorem dX10_ends_78 : decode cX10_ends 78 = .ok (.if_icmp .ge 87, 3) := by decide +kernel
theorem dX10_ends_81 : decode cX10_ends 81 = .ok (.aload_n 0, 1) := by decide +kernel
theorem dX10_ends_82 : decode cX10_ends 82 = .ok (.iload 5, 2) := by decide +kernel
theorem dX10_ends_84 : decode cX10_ends 84 = .ok (.invokevirtual 172, 3) := by decide +kernel
theorem dX10_ends_87 : decode cX10_ends 87 = .ok (.aload_n 0, 1) := by decide +kernel
theorem dX10_ends_88 : decode cX10_ends 88 = .ok (.getfield 51, 3) := by decide +kernel
theorem dX10_ends_91 : decode cX10_ends 91 = .ok (.iload 5, 2) := by decide +kernel
theorem dX10_ends_93 : decode cX10_ends 93 = .ok (.baload, 1) := by decide +kernel
theorem dX10_ends_94 : decode cX10_ends 94 = .ok (.ifCond .eq 65, 3) := by decide +kernel
theorem dX10_ends_97 : decode cX10_ends 97 = .ok (.aload_n 0, 1) := by decide +kernel
theorem dX10_ends_98 : decode cX10_ends 98 = .ok (.getfield 43, 3) := by decide +kernel
theorem dX10_ends_101 : decode cX10_ends 101 = .ok (.iload_n 1, 1) := by decide +kernel
theorem dX10_ends_102 : decode cX10_ends 102 = .ok (.iaload, 1) := by decide +kernel
theorem dX10_ends_103 : decode cX10_ends 103 = .ok (.aload_n 0, 1) := by decide +kernel
theorem dX10_ends_104 : decode cX10_ends 104 = .ok (.getfield 16, 3) := by decide +kernel
theorem dX10_ends_107 : decode cX10_ends 107 = .ok (.iload_n 1, 1) := by decide +kernel
theorem dX10_ends_108 : decode cX10_ends 108 = .ok (.iaload, 1) := by decide +kernel
theorem dX10_ends_109 : decode cX10_ends 109 = .ok (.iconst 1, 1) := by decide +kernel
theorem dX10_ends_110 : decode cX10_ends 110 = .ok (.isub, 1) := by decide +kernel
theorem dX10_ends_111 : decode cX10_ends 111 = .ok (.if_icmp .ne 48, 3) := by decide +kernel
theorem dX10_ends_114 : decode cX10_ends 114 = .ok (.aload_n 0, 1) := by decide +kernel
theorem dX10_ends_115 : decode cX10_ends 115 = .ok (.iload 5, 2) := by decide +kernel
theorem dX10_ends_117 : decode cX10_ends 117 = .ok (.iload_n 1, 1) := by decide +kernel
theorem dX10_ends_118 : decode cX10_ends 118 = .ok (.iload_n 2, 1) := by decide +kernel
theorem dX10_ends_119 : decode cX10_ends 119 = .ok (.iload_n 3, 1) := by decide +kernel
theorem dX10_ends_120 : decode cX10_ends 120 = .ok (.iconst 0, 1) := by decide +kernel
theorem dX10_ends_121 : decode cX10_ends 121 = .ok (.invokevirtual 219, 3) := by decide +kernel
theorem dX10_ends_124 : decode cX10_ends 124 = .ok (.istore 6, 2) := by decide +kernel
theorem dX10_ends_126 : decode cX10_ends 126 = .ok (.iload 6, 2) := by decide +kernel
theorem dX10_ends_128 : decode cX10_ends 128 = .ok (.ifCond .lt 31, 3) := by decide +kernel
theorem dX10_ends_131 : decode cX10_ends 131 = .ok (.aload_n 0, 1) := by decide +kernel
theorem dX10_ends_132 : decode cX10_ends 132 = .ok (.getfield 47, 3) := by decide +kernel
theorem dX10_ends_135 : decode cX10_ends 135 = .ok (.iload 6, 2) := by decide +kernel
theorem dX10_ends_137 : decode cX10_ends 137 = .ok (.laload, 1) := by decide +kernel
theorem dX10_ends_138 : decode cX10_ends 138 = .ok (.lconst 0, 1) := by decide +kernel
theorem dX10_ends_139 : decode cX10_ends 139 = .ok (.lcmp, 1) := by decide +kernel
theorem dX10_ends_140 : decode cX10_ends 140 = .ok (.ifCond .le 19, 3) := by decide +kernel
theorem dX10_ends_143 : decode cX10_ends 143 = .ok (.aload_n 0, 1) := by decide +kernel
theorem dX10_ends_144 : decode cX10_ends 144 = .ok (.iload 6, 2) := by decide +kernel
theorem dX10_ends_146 : decode cX10_ends 146 = .ok (.invokevirtual 172, 3) := by decide +kernel
theorem dX10_ends_149 : decode cX10_ends 149 = .ok (.aload_n 0, 1) := by decide +kernel
theorem dX10_ends_150 : decode cX10_ends 150 = .ok (.getfield 59, 3) := by decide +kernel
theorem dX10_ends_153 : decode cX10_ends 153 = .ok (.aload_n 0, 1) := by decide +kernel
theorem dX10_ends_154 : decode cX10_ends 154 = .ok (.invokevirtual 252, 3) := by decide +kernel
theorem dX10_ends_157 : decode cX10_ends 157 = .ok (.iconst 1, 1) := by decide +kernel
theorem dX10_ends_158 : decode cX10_ends 158 = .ok (.bastore, 1) := by decide +kernel
theorem dX10_ends_159 : decode cX10_ends 159 = .ok (.iinc 5 1, 3) := by decide +kernel
theorem dX10_ends_162 : decode cX10_ends 162 = .ok (.goto (-88), 3) := by decide +kernel
theorem dX10_ends_165 : decode cX10_ends 165 = .ok (.iconst 0, 1) := by decide +kernel
theorem dX10_ends_166 : decode cX10_ends 166 = .ok (.istore 5, 2) := by decide +kernel
theorem dX10_ends_168 : decode cX10_ends 168 = .ok (.iconst 0, 1) := by decide +kernel
theorem dX10_ends_169 : decode cX10_ends 169 = .ok (.istore 6, 2) := by decide +kernel
theorem dX10_ends_171 : decode cX10_ends 171 = .ok (.iload 6, 2) := by decide +kernel
theorem dX10_ends_173 : decode cX10_ends 173 = .ok (.sipush 144, 3) := by decide +kernel
theorem dX10_ends_176 : decode cX10_ends 176 = .ok (.if_icmp .gt 32, 3) := by decide +kernel
theorem dX10_ends_179 : decode cX10_ends 179 = .ok (.aload_n 0, 1) := by decide +kernel
theorem dX10_ends_180 : decode cX10_ends 180 = .ok (.getfield 59, 3) := by decide +kernel
theorem dX10_ends_183 : decode cX10_ends 183 = .ok (.iload 6, 2) := by decide +kernel
theorem dX10_ends_185 : decode cX10_ends 185 = .ok (.baload, 1) := by decide +kernel
theorem dX10_ends_186 : decode cX10_ends 186 = .ok (.ifCond .eq 16, 3) := by decide +kernel
theorem dX10_ends_189 : decode cX10_ends 189 = .ok (.iload 5, 2) := by decide +kernel
theorem dX10_ends_191 : decode cX10_ends 191 = .ok (.iload 4, 2) := by decide +kernel
theorem dX10_ends_193 : decode cX10_ends 193 = .ok (.if_icmp .ne 6, 3) := by decide +kernel
theorem dX10_ends_196 : decode cX10_ends 196 = .ok (.iload 6, 2) := by decide +kernel
theorem dX10_ends_198 : decode cX10_ends 198 = .ok (.ireturn, 1) := by decide +kernel
theorem dX10_ends_199 : decode cX10_ends 199 = .ok (.iinc 5 1, 3) := by decide +kernel
theorem dX10_ends_202 : decode cX10_ends 202 = .ok (.iinc 6 1, 3) := by decide +kernel
theorem dX10_ends_205 : decode cX10_ends 205 = .ok (.goto (-34), 3) := by decide +kernel
theorem dX10_ends_208 : decode cX10_ends 208 = .ok (.iload 4, 2) := by decide +kernel
theorem dX10_ends_210 : decode cX10_ends 210 = .ok (.iconst (-1), 1) := by decide +kernel
theorem dX10_ends_211 : decode cX10_ends 211 = .ok (.if_icmp .ne 8, 3) := by decide +kernel
theorem dX10_ends_214 : decode cX10_ends 214 = .ok (.iload 5, 2) := by decide +kernel
theorem dX10_ends_216 : decode cX10_ends 216 = .ok (.goto 5, 3) := by decide +kernel
theorem dX10_ends_219 : decode cX10_ends 219 = .ok (.bipush (-6), 2) := by decide +kernel
theorem dX10_ends_221 : decode cX10_ends 221 = .ok (.ireturn, 1) := by decide +kernel
theorem dX10_hasBy_0 : decode cX10_hasBy 0 = .ok (.aload_n 0, 1) := by decide +kernel
theorem dX10_hasBy_1 : decode cX10_hasBy 1 = .ok (.iload_n 1, 1) := by decide +kernel
theorem dX10_hasBy_2 : decode cX10_hasBy 2 = .ok (.invokevirtual 172, 3) := by decide +kernel
theorem dX10_hasBy_5 : decode cX10_hasBy 5 = .ok (.aload_n 0, 1) := by decide +kernel
theorem dX10_hasBy_6 : decode cX10_hasBy 6 = .ok (.iload_n 2, 1) := by decide +kernel
theorem dX10_hasBy_7 : decode cX10_hasBy 7 = .ok (.invokevirtual 149, 3) := by decide +kernel
theorem dX10_hasBy_10 : decode cX10_hasBy 10 = .ok (.ifCond .eq 19, 3) := by decide +kernel
theorem dX10_hasBy_13 : decode cX10_hasBy 13 = .ok (.aload_n 0, 1) := by decide +kernel
theorem dX10_hasBy_14 : decode cX10_hasBy 14 = .ok (.invokevirtual 252, 3) := by decide +kernel
theorem dX10_hasBy_17 : decode cX10_hasBy 17 = .ok (.iload_n 3, 1) := by decide +kernel
theorem dX10_hasBy_18 : decode cX10_hasBy 18 = .ok (.if_icmp .ne 7, 3) := by decide +kernel
theorem dX10_hasBy_21 : decode cX10_hasBy 21 = .ok (.iconst 1, 1) := by decide +kernel
theorem dX10_hasBy_22 : decode cX10_hasBy 22 = .ok (.goto 13, 3) := by decide +kernel
theorem dX10_hasBy_25 : decode cX10_hasBy 25 = .ok (.iconst 0, 1) := by decide +kernel
theorem dX10_hasBy_26 : decode cX10_hasBy 26 = .ok (.goto 9, 3) := by decide +kernel
theorem dX10_hasBy_29 : decode cX10_hasBy 29 = .ok (.aload_n 0, 1) := by decide +kernel
theorem dX10_hasBy_30 : decode cX10_hasBy 30 = .ok (.getfield 62, 3) := by decide +kernel
theorem dX10_hasBy_33 : decode cX10_hasBy 33 = .ok (.iload_n 1, 1) := by decide +kernel
theorem dX10_hasBy_34 : decode cX10_hasBy 34 = .ok (.baload, 1) := by decide +kernel
theorem dX10_hasBy_35 : decode cX10_hasBy 35 = .ok (.ireturn, 1) := by decide +kernel
theorem dX10_hasIt_0 : decode cX10_hasIt 0 = .ok (.aload_n 0, 1) := by decide +kernel
theorem dX10_hasIt_1 : decode cX10_hasIt 1 = .ok (.iload_n 1, 1) := by decide +kernel
theorem dX10_hasIt_2 : decode cX10_hasIt 2 = .ok (.invokevirtual 172, 3) := by decide +kernel
theorem dX10_hasIt_5 : decode cX10_hasIt 5 = .ok (.aload_n 0, 1) := by decide +kernel
theorem dX10_hasIt_6 : decode cX10_hasIt 6 = .ok (.iload_n 3, 1) := by decide +kernel
theorem dX10_hasIt_7 : decode cX10_hasIt 7 = .ok (.invokevirtual 213, 3) := by decide +kernel
theorem dX10_hasIt_10 : decode cX10_hasIt 10 = .ok (.ifCond .eq 11, 3) := by decide +kernel
theorem dX10_hasIt_13 : decode cX10_hasIt 13 = .ok (.aload_n 0, 1) := by decide +kernel
theorem dX10_hasIt_14 : decode cX10_hasIt 14 = .ok (.iload_n 2, 1) := by decide +kernel
theorem dX10_hasIt_15 : decode cX10_hasIt 15 = .ok (.invokevirtual 149, 3) := by decide +kernel
theorem dX10_hasIt_18 : decode cX10_hasIt 18 = .ok (.ifCond .eq 5, 3) := by decide +kernel
theorem dX10_hasIt_21 : decode cX10_hasIt 21 = .ok (.iconst 0, 1) := by decide +kernel
theorem dX10_hasIt_22 : decode cX10_hasIt 22 = .ok (.ireturn, 1) := by decide +kernel
theorem dX10_hasIt_23 : decode cX10_hasIt 23 = .ok (.aload_n 0, 1) := by decide +kernel
theorem dX10_hasIt_24 : decode cX10_hasIt 24 = .ok (.invokevirtual 255, 3) := by decide +kernel
theorem dX10_hasIt_27 : decode cX10_hasIt 27 = .ok (.iconst 2, 1) := by decide +kernel
theorem dX10_hasIt_28 : decode cX10_hasIt 28 = .ok (.irem, 1) := by decide +kernel
theorem dX10_hasIt_29 : decode cX10_hasIt 29 = .ok (.ifCond .ne 7, 3) := by decide +kernel
theorem dX10_hasIt_32 : decode cX10_hasIt 32 = .ok (.iconst 1, 1) := by decide +kernel
theorem dX10_hasIt_33 : decode cX10_hasIt 33 = .ok (.goto 4, 3) := by decide +kernel
theorem dX10_hasIt_36 : decode cX10_hasIt 36 = .ok (.iconst 0, 1) := by decide +kernel
theorem dX10_hasIt_37 : decode cX10_hasIt 37 = .ok (.istore 5, 2) := by decide +kernel
theorem dX10_hasIt_39 : decode cX10_hasIt 39 = .ok (.iconst 0, 1) := by decide +kernel
theorem dX10_hasIt_40 : decode cX10_hasIt 40 = .ok (.istore 6, 2) := by decide +kernel
theorem dX10_hasIt_42 : decode cX10_hasIt 42 = .ok (.iconst 1, 1) := by decide +kernel
theorem dX10_hasIt_43 : decode cX10_hasIt 43 = .ok (.istore 7, 2) := by decide +kernel
theorem dX10_hasIt_45 : decode cX10_hasIt 45 = .ok (.iconst 0, 1) := by decide +kernel
theorem dX10_hasIt_46 : decode cX10_hasIt 46 = .ok (.istore 8, 2) := by decide +kernel
theorem dX10_hasIt_48 : decode cX10_hasIt 48 = .ok (.iload 8, 2) := by decide +kernel
theorem dX10_hasIt_50 : decode cX10_hasIt 50 = .ok (.iconst 4, 1) := by decide +kernel
theorem dX10_hasIt_51 : decode cX10_hasIt 51 = .ok (.if_icmp .ge 69, 3) := by decide +kernel
theorem dX10_hasIt_54 : decode cX10_hasIt 54 = .ok (.aload_n 0, 1) := by decide +kernel
theorem dX10_hasIt_55 : decode cX10_hasIt 55 = .ok (.iload_n 1, 1) := by decide +kernel
theorem dX10_hasIt_56 : decode cX10_hasIt 56 = .ok (.iload 8, 2) := by decide +kernel
theorem dX10_hasIt_58 : decode cX10_hasIt 58 = .ok (.iload_n 3, 1) := by decide +kernel
theorem dX10_hasIt_59 : decode cX10_hasIt 59 = .ok (.iconst 4, 1) := by decide +kernel
theorem dX10_hasIt_60 : decode cX10_hasIt 60 = .ok (.iconst 0, 1) := by decide +kernel
theorem dX10_hasIt_61 : decode cX10_hasIt 61 = .ok (.invokevirtual 219, 3) := by decide +kernel
theorem dX10_hasIt_64 : decode cX10_hasIt 64 = .ok (.istore 9, 2) := by decide +kernel
theorem dX10_hasIt_66 : decode cX10_hasIt 66 = .ok (.iload 9, 2) := by decide +kernel
theorem dX10_hasIt_68 : decode cX10_hasIt 68 = .ok (.ifCond .lt 46, 3) := by decide +kernel
theorem dX10_hasIt_71 : decode cX10_hasIt 71 = .ok (.aload_n 0, 1) := by decide +kernel
theorem dX10_hasIt_72 : decode cX10_hasIt 72 = .ok (.iload 9, 2) := by decide +kernel
theorem dX10_hasIt_74 : decode cX10_hasIt 74 = .ok (.iload_n 2, 1) := by decide +kernel
theorem dX10_hasIt_75 : decode cX10_hasIt 75 = .ok (.iload 4, 2) := by decide +kernel
theorem dX10_hasIt_77 : decode cX10_hasIt 77 = .ok (.invokevirtual 258, 3) := by decide +kernel
theorem dX10_hasIt_80 : decode cX10_hasIt 80 = .ok (.istore 10, 2) := by decide +kernel
theorem dX10_hasIt_82 : decode cX10_hasIt 82 = .ok (.iconst 1, 1) := by decide +kernel
theorem dX10_hasIt_83 : decode cX10_hasIt 83 = .ok (.istore 6, 2) := by decide +kernel
theorem dX10_hasIt_85 : decode cX10_hasIt 85 = .ok (.iload 7, 2) := by decide +kernel
theorem dX10_hasIt_87 : decode cX10_hasIt 87 = .ok (.ifCond .eq 12, 3) := by decide +kernel
theorem dX10_hasIt_90 : decode cX10_hasIt 90 = .ok (.iload 10, 2) := by decide +kernel
theorem dX10_hasIt_92 : decode cX10_hasIt 92 = .ok (.ifCond .eq 7, 3) := by decide +kernel
theorem dX10_hasIt_95 : decode cX10_hasIt 95 = .ok (.iconst 1, 1) := by decide +kernel
theorem dX10_hasIt_96 : decode cX10_hasIt 96 = .ok (.goto 4, 3) := by decide +kernel
theorem dX10_hasIt_99 : decode cX10_hasIt 99 = .ok (.iconst 0, 1) := by decide +kernel
theorem dX10_hasIt_100 : decode cX10_hasIt 100 = .ok (.istore 7, 2) := by decide +kernel
theorem dX10_hasIt_102 : decode cX10_hasIt 102 = .ok (.iload 5, 2) := by decide +kernel
theorem dX10_hasIt_104 : decode cX10_hasIt 104 = .ok (.ifCond .eq 10, 3) := by decide +kernel
theorem dX10_hasIt_107 : decode cX10_hasIt 107 = .ok (.iload 10, 2) := by decide +kernel
theorem dX10_hasIt_109 : decode cX10_hasIt 109 = .ok (.ifCond .eq 5, 3) := by decide +kernel
theorem dX10_hasIt_112 : decode cX10_hasIt 112 = .ok (.iconst 1, 1) := by decide +kernel
theorem dX10_hasIt_113 : decode cX10_hasIt 113 = .ok (.ireturn, 1) := by decide +kernel
theorem dX10_hasIt_114 : decode cX10_hasIt 114 = .ok (.iinc 8 1, 3) := by decide +kernel
theorem dX10_hasIt_117 : decode cX10_hasIt 117 = .ok (.goto (-69), 3) := by decide +kernel
theorem dX10_hasIt_120 : decode cX10_hasIt 120 = .ok (.iload 5, 2) := by decide +kernel
theorem dX10_hasIt_122 : decode cX10_hasIt 122 = .ok (.ifCond .ne 17, 3) := by decide +kernel
theorem dX10_hasIt_125 : decode cX10_hasIt 125 = .ok (.iload 6, 2) := by decide +kernel
theorem dX10_hasIt_127 : decode cX10_hasIt 127 = .ok (.ifCond .eq 12, 3) := by decide +kernel
theorem dX10_hasIt_130 : decode cX10_hasIt 130 = .ok (.iload 7, 2) := by decide +kernel
theorem dX10_hasIt_132 : decode cX10_hasIt 132 = .ok (.ifCond .eq 7, 3) := by decide +kernel
theorem dX10_hasIt_135 : decode cX10_hasIt 135 = .ok (.iconst 1, 1) := by decide +kernel
theorem dX10_hasIt_136 : decode cX10_hasIt 136 = .ok (.goto 4, 3) := by decide +kernel
theorem dX10_hasIt_139 : decode cX10_hasIt 139 = .ok (.iconst 0, 1) := by decide +kernel
theorem dX10_hasIt_140 : decode cX10_hasIt 140 = .ok (.ireturn, 1) := by decide +kernel
theorem dX10_turns_0 : decode cX10_turns 0 = .ok (.aload_n 0, 1) := by decide +kernel
theorem dX10_turns_1 : decode cX10_turns 1 = .ok (.iload_n 1, 1) := by decide +kernel
theorem dX10_turns_2 : decode cX10_turns 2 = .ok (.iload_n 2, 1) := by decide +kernel
theorem dX10_turns_3 : decode cX10_turns 3 = .ok (.invokevirtual 245, 3) := by decide +kernel
theorem dX10_turns_6 : decode cX10_turns 6 = .ok (.ifCond .ne 5, 3) := by decide +kernel
theorem dX10_turns_9 : decode cX10_turns 9 = .ok (.iconst (-1), 1) := by decide +kernel
theorem dX10_turns_10 : decode cX10_turns 10 = .ok (.ireturn, 1) := by decide +kernel
theorem dX10_turns_11 : decode cX10_turns 11 = .ok (.iload_n 2, 1) := by decide +kernel
theorem dX10_turns_12 : decode cX10_turns 12 = .ok (.invokestatic 223, 3) := by decide +kernel
theorem dX10_turns_15 : decode cX10_turns 15 = .ok (.ifCond .eq 26, 3) := by decide +kernel
theorem dX10_turns_18 : decode cX10_turns 18 = .ok (.iload_n 3, 1) := by decide +kernel
theorem dX10_turns_19 : decode cX10_turns 19 = .ok (.i2l, 1) := by decide +kernel
theorem dX10_turns_20 : decode cX10_turns 20 = .ok (.lconst 0, 1) := by decide +kernel
theorem dX10_turns_21 : decode cX10_turns 21 = .ok (.ldc2_w 261, 3) := by decide +kernel
theorem dX10_turns_24 : decode cX10_turns 24 = .ok (.invokestatic 77, 3) := by decide +kernel
theorem dX10_turns_27 : decode cX10_turns 27 = .ok (.ifCond .eq 14, 3) := by decide +kernel
theorem dX10_turns_30 : decode cX10_turns 30 = .ok (.iload 4, 2) := by decide +kernel
theorem dX10_turns_32 : decode cX10_turns 32 = .ok (.i2l, 1) := by decide +kernel
theorem dX10_turns_33 : decode cX10_turns 33 = .ok (.lconst 0, 1) := by decide +kernel
theorem dX10_turns_34 : decode cX10_turns 34 = .ok (.lconst 1, 1) := by decide +kernel
theorem dX10_turns_35 : decode cX10_turns 35 = .ok (.invokestatic 77, 3) := by decide +kernel
theorem dX10_turns_38 : decode cX10_turns 38 = .ok (.ifCond .ne 6, 3) := by decide +kernel
theorem dX10_turns_41 : decode cX10_turns 41 = .ok (.bipush (-2), 2) := by decide +kernel
theorem dX10_turns_43 : decode cX10_turns 43 = .ok (.ireturn, 1) := by decide +kernel
theorem dX10_turns_44 : decode cX10_turns 44 = .ok (.bipush 16, 2) := by decide +kernel
theorem dX10_turns_46 : decode cX10_turns 46 = .ok (.istore 5, 2) := by decide +kernel
theorem dX10_turns_48 : decode cX10_turns 48 = .ok (.iload 5, 2) := by decide +kernel
theorem dX10_turns_50 : decode cX10_turns 50 = .ok (.ifCond .lt 78, 3) := by decide +kernel
theorem dX10_turns_53 : decode cX10_turns 53 = .ok (.iconst 0, 1) := by decide +kernel
theorem dX10_turns_54 : decode cX10_turns 54 = .ok (.istore 6, 2) := by decide +kernel
theorem dX10_turns_56 : decode cX10_turns 56 = .ok (.iload 6, 2) := by decide +kernel
theorem dX10_turns_58 : decode cX10_turns 58 = .ok (.sipush 625, 3) := by decide +kernel
theorem dX10_turns_61 : decode cX10_turns 61 = .ok (.if_icmp .ge 61, 3) := by decide +kernel
theorem dX10_turns_64 : decode cX10_turns 64 = .ok (.iconst 0, 1) := by decide +kernel
theorem dX10_turns_65 : decode cX10_turns 65 = .ok (.istore 7, 2) := by decide +kernel
theorem dX10_turns_67 : decode cX10_turns 67 = .ok (.iload 7, 2) := by decide +kernel
theorem dX10_turns_69 : decode cX10_turns 69 = .ok (.bipush 65, 2) := by decide +kernel
theorem dX10_turns_71 : decode cX10_turns 71 = .ok (.if_icmp .ge 45, 3) := by decide +kernel
theorem dX10_turns_74 : decode cX10_turns 74 = .ok (.iload 6, 2) := by decide +kernel
theorem dX10_turns_76 : decode cX10_turns 76 = .ok (.invokestatic 206, 3) := by decide +kernel
theorem dX10_turns_79 : decode cX10_turns 79 = .ok (.iload 5, 2) := by decide +kernel
theorem dX10_turns_81 : decode cX10_turns 81 = .ok (.if_icmp .ne 35, 3) := by decide +kernel
theorem dX10_turns_84 : decode cX10_turns 84 = .ok (.bipush 65, 2) := by decide +kernel
theorem dX10_turns_86 : decode cX10_turns 86 = .ok (.iload 6, 2) := by decide +kernel
theorem dX10_turns_88 : decode cX10_turns 88 = .ok (.imul, 1) := by decide +kernel
theorem dX10_turns_89 : decode cX10_turns 89 = .ok (.iload 7, 2) := by decide +kernel
theorem dX10_turns_91 : decode cX10_turns 91 = .ok (.iadd, 1) := by decide +kernel
theorem dX10_turns_92 : decode cX10_turns 92 = .ok (.istore 8, 2) := by decide +kernel
theorem dX10_turns_94 : decode cX10_turns 94 = .ok (.aload_n 0, 1) := by decide +kernel
theorem dX10_turns_95 : decode cX10_turns 95 = .ok (.getfield 62, 3) := by decide +kernel
theorem dX10_turns_98 : decode cX10_turns 98 = .ok (.iload 8, 2) := by decide +kernel
theorem dX10_turns_100 : decode cX10_turns 100 = .ok (.aload_n 0, 1) := by decide +kernel
theorem dX10_turns_101 : decode cX10_turns 101 = .ok (.iload 8, 2) := by decide +kernel
theorem dX10_turns_103 : decode cX10_turns 103 = .ok (.iload_n 1, 1) := by decide +kernel
theorem dX10_turns_104 : decode cX10_turns 104 = .ok (.iload_n 2, 1) := by decide +kernel
theorem dX10_turns_105 : decode cX10_turns 105 = .ok (.iload_n 3, 1) := by decide +kernel
theorem dX10_turns_106 : decode cX10_turns 106 = .ok (.invokevirtual 263, 3) := by decide +kernel
theorem dX10_turns_109 : decode cX10_turns 109 = .ok (.bastore, 1) := by decide +kernel
theorem dX10_turns_110 : decode cX10_turns 110 = .ok (.iinc 7 1, 3) := by decide +kernel
theorem dX10_turns_113 : decode cX10_turns 113 = .ok (.goto (-46), 3) := by decide +kernel
theorem dX10_turns_116 : decode cX10_turns 116 = .ok (.iinc 6 1, 3) := by decide +kernel
theorem dX10_turns_119 : decode cX10_turns 119 = .ok (.goto (-63), 3) := by decide +kernel
theorem dX10_turns_122 : decode cX10_turns 122 = .ok (.iinc 5 (-1), 3) := by decide +kernel
theorem dX10_turns_125 : decode cX10_turns 125 = .ok (.goto (-77), 3) := by decide +kernel
theorem dX10_turns_128 : decode cX10_turns 128 = .ok (.iload 4, 2) := by decide +kernel
theorem dX10_turns_130 : decode cX10_turns 130 = .ok (.ifCond .ne 18, 3) := by decide +kernel
theorem dX10_turns_133 : decode cX10_turns 133 = .ok (.aload_n 0, 1) := by decide +kernel
theorem dX10_turns_134 : decode cX10_turns 134 = .ok (.getfield 62, 3) := by decide +kernel
theorem dX10_turns_137 : decode cX10_turns 137 = .ok (.iconst 0, 1) := by decide +kernel
theorem dX10_turns_138 : decode cX10_turns 138 = .ok (.baload, 1) := by decide +kernel
theorem dX10_turns_139 : decode cX10_turns 139 = .ok (.ifCond .eq 7, 3) := by decide +kernel
theorem dX10_turns_142 : decode cX10_turns 142 = .ok (.iconst 1, 1) := by decide +kernel
theorem dX10_turns_143 : decode cX10_turns 143 = .ok (.goto 4, 3) := by decide +kernel
theorem dX10_turns_146 : decode cX10_turns 146 = .ok (.iconst 0, 1) := by decide +kernel
theorem dX10_turns_147 : decode cX10_turns 147 = .ok (.ireturn, 1) := by decide +kernel
theorem dX10_turns_148 : decode cX10_turns 148 = .ok (.iconst 0, 1) := by decide +kernel
theorem dX10_turns_149 : decode cX10_turns 149 = .ok (.istore 5, 2) := by decide +kernel
theorem dX10_turns_151 : decode cX10_turns 151 = .ok (.iload 5, 2) := by decide +kernel
theorem dX10_turns_153 : decode cX10_turns 153 = .ok (.iconst 4, 1) := by decide +kernel
theorem dX10_turns_154 : decode cX10_turns 154 = .ok (.if_icmp .ge 40, 3) := by decide +kernel
theorem dX10_turns_157 : decode cX10_turns 157 = .ok (.aload_n 0, 1) := by decide +kernel
theorem dX10_turns_158 : decode cX10_turns 158 = .ok (.iconst 0, 1) := by decide +kernel
theorem dX10_turns_159 : decode cX10_turns 159 = .ok (.iload 5, 2) := by decide +kernel
theorem dX10_turns_161 : decode cX10_turns 161 = .ok (.iload_n 2, 1) := by decide +kernel
theorem dX10_turns_162 : decode cX10_turns 162 = .ok (.iconst 4, 1) := by decide +kernel
theorem dX10_turns_163 : decode cX10_turns 163 = .ok (.iconst 0, 1) := by decide +kernel
theorem dX10_turns_164 : decode cX10_turns 164 = .ok (.invokevirtual 219, 3) := by decide +kernel
theorem dX10_turns_167 : decode cX10_turns 167 = .ok (.istore 6, 2) := by decide +kernel
theorem dX10_turns_169 : decode cX10_turns 169 = .ok (.iload 6, 2) := by decide +kernel
theorem dX10_turns_171 : decode cX10_turns 171 = .ok (.ifCond .lt 17, 3) := by decide +kernel
theorem dX10_turns_174 : decode cX10_turns 174 = .ok (.aload_n 0, 1) := by decide +kernel
theorem dX10_turns_175 : decode cX10_turns 175 = .ok (.iload 6, 2) := by decide +kernel
theorem dX10_turns_177 : decode cX10_turns 177 = .ok (.iload_n 1, 1) := by decide +kernel
theorem dX10_turns_178 : decode cX10_turns 178 = .ok (.iload_n 3, 1) := by decide +kernel
theorem dX10_turns_179 : decode cX10_turns 179 = .ok (.invokevirtual 258, 3) := by decide +kernel
theorem dX10_turns_182 : decode cX10_turns 182 = .ok (.ifCond .eq 6, 3) := by decide +kernel
theorem dX10_turns_185 : decode cX10_turns 185 = .ok (.iload 5, 2) := by decide +kernel
theorem dX10_turns_187 : decode cX10_turns 187 = .ok (.ireturn, 1) := by decide +kernel
theorem dX10_turns_188 : decode cX10_turns 188 = .ok (.iinc 5 1, 3) := by decide +kernel
theorem dX10_turns_191 : decode cX10_turns 191 = .ok (.goto (-40), 3) := by decide +kernel
theorem dX10_turns_194 : decode cX10_turns 194 = .ok (.bipush (-6), 2) := by decide +kernel
theorem dX10_turns_196 : decode cX10_turns 196 = .ok (.ireturn, 1) := by decide +kernel
theorem dX10_rings_0 : decode cX10_rings 0 = .ok (.iconst 0, 1) := by decide +kernel
theorem dX10_rings_1 : decode cX10_rings 1 = .ok (.istore_n 1, 1) := by decide +kernel
theorem dX10_rings_2 : decode cX10_rings 2 = .ok (.iconst 1, 1) := by decide +kernel
theorem dX10_rings_3 : decode cX10_rings 3 = .ok (.istore_n 2, 1) := by decide +kernel
theorem dX10_rings_4 : decode cX10_rings 4 = .ok (.iload_n 2, 1) := by decide +kernel
theorem dX10_rings_5 : decode cX10_rings 5 = .ok (.bipush 16, 2) := by decide +kernel
theorem dX10_rings_7 : decode cX10_rings 7 = .ok (.if_icmp .ge 39, 3) := by decide +kernel
theorem dX10_rings_10 : decode cX10_rings 10 = .ok (.aload_n 0, 1) := by decide +kernel
theorem dX10_rings_11 : decode cX10_rings 11 = .ok (.iload_n 2, 1) := by decide +kernel
theorem dX10_rings_12 : decode cX10_rings 12 = .ok (.iconst 4, 1) := by decide +kernel
theorem dX10_rings_13 : decode cX10_rings 13 = .ok (.iconst 0, 1) := by decide +kernel
theorem dX10_rings_14 : decode cX10_rings 14 = .ok (.invokevirtual 230, 3) := by decide +kernel
theorem dX10_rings_17 : decode cX10_rings 17 = .ok (.iload_n 1, 1) := by decide +kernel
theorem dX10_rings_18 : decode cX10_rings 18 = .ok (.aload_n 0, 1) := by decide +kernel
theorem dX10_rings_19 : decode cX10_rings 19 = .ok (.getfield 47, 3) := by decide +kernel
theorem dX10_rings_22 : decode cX10_rings 22 = .ok (.iconst 0, 1) := by decide +kernel
theorem dX10_rings_23 : decode cX10_rings 23 = .ok (.laload, 1) := by decide +kernel
theorem dX10_rings_24 : decode cX10_rings 24 = .ok (.lconst 0, 1) := by decide +kernel
theorem dX10_rings_25 : decode cX10_rings 25 = .ok (.lcmp, 1) := by decide +kernel
theorem dX10_rings_26 : decode cX10_rings 26 = .ok (.ifCond .ne 11, 3) := by decide +kernel
theorem dX10_rings_29 : decode cX10_rings 29 = .ok (.iconst 1, 1) := by decide +kernel
theorem dX10_rings_30 : decode cX10_rings 30 = .ok (.iload_n 2, 1) := by decide +kernel
theorem dX10_rings_31 : decode cX10_rings 31 = .ok (.iconst 1, 1) := by decide +kernel
theorem dX10_rings_32 : decode cX10_rings 32 = .ok (.isub, 1) := by decide +kernel
theorem dX10_rings_33 : decode cX10_rings 33 = .ok (.ishl, 1) := by decide +kernel
theorem dX10_rings_34 : decode cX10_rings 34 = .ok (.goto 4, 3) := by decide +kernel
theorem dX10_rings_37 : decode cX10_rings 37 = .ok (.iconst 0, 1) := by decide +kernel
theorem dX10_rings_38 : decode cX10_rings 38 = .ok (.ior, 1) := by decide +kernel
theorem dX10_rings_39 : decode cX10_rings 39 = .ok (.istore_n 1, 1) := by decide +kernel
theorem dX10_rings_40 : decode cX10_rings 40 = .ok (.iinc 2 1, 3) := by decide +kernel
theorem dX10_rings_43 : decode cX10_rings 43 = .ok (.goto (-39), 3) := by decide +kernel
theorem dX10_rings_46 : decode cX10_rings 46 = .ok (.iload_n 1, 1) := by decide +kernel
theorem dX10_rings_47 : decode cX10_rings 47 = .ok (.ireturn, 1) := by decide +kernel
theorem dX10_dropped_0 : decode cX10_dropped 0 = .ok (.iload_n 1, 1) := by decide +kernel
theorem dX10_dropped_1 : decode cX10_dropped 1 = .ok (.invokestatic 223, 3) := by decide +kernel
theorem dX10_dropped_4 : decode cX10_dropped 4 = .ok (.ifCond .ne 6, 3) := by decide +kernel
theorem dX10_dropped_7 : decode cX10_dropped 7 = .ok (.bipush (-2), 2) := by decide +kernel
theorem dX10_dropped_9 : decode cX10_dropped 9 = .ok (.ireturn, 1) := by decide +kernel
theorem dX10_dropped_10 : decode cX10_dropped 10 = .ok (.bipush (-6), 2) := by decide +kernel
theorem dX10_dropped_12 : decode cX10_dropped 12 = .ok (.istore_n 2, 1) := by decide +kernel
theorem dX10_dropped_13 : decode cX10_dropped 13 = .ok (.iconst 0, 1) := by decide +kernel
theorem dX10_dropped_14 : decode cX10_dropped 14 = .ok (.istore_n 3, 1) := by decide +kernel
theorem dX10_dropped_15 : decode cX10_dropped 15 = .ok (.iload_n 3, 1) := by decide +kernel
theorem dX10_dropped_16 : decode cX10_dropped 16 = .ok (.iconst 1, 1) := by decide +kernel
theorem dX10_dropped_17 : decode cX10_dropped 17 = .ok (.aload_n 0, 1) := by decide +kernel
theorem dX10_dropped_18 : decode cX10_dropped 18 = .ok (.getfield 104, 3) := by decide +kernel
theorem dX10_dropped_21 : decode cX10_dropped 21 = .ok (.ishl, 1) := by decide +kernel
theorem dX10_dropped_22 : decode cX10_dropped 22 = .ok (.if_icmp .ge 48, 3) := by decide +kernel
theorem dX10_dropped_25 : decode cX10_dropped 25 = .ok (.iload_n 2, 1) := by decide +kernel
theorem dX10_dropped_26 : decode cX10_dropped 26 = .ok (.ifCond .lt 14, 3) := by decide +kernel
theorem dX10_dropped_29 : decode cX10_dropped 29 = .ok (.iload_n 3, 1) := by decide +kernel
theorem dX10_dropped_30 : decode cX10_dropped 30 = .ok (.invokestatic 166, 3) := by decide +kernel
theorem dX10_dropped_33 : decode cX10_dropped 33 = .ok (.iload_n 2, 1) := by decide +kernel
theorem dX10_dropped_34 : decode cX10_dropped 34 = .ok (.invokestatic 166, 3) := by decide +kernel
theorem dX10_dropped_37 : decode cX10_dropped 37 = .ok (.if_icmp .ge 27, 3) := by decide +kernel
theorem dX10_dropped_40 : decode cX10_dropped 40 = .ok (.aload_n 0, 1) := by decide +kernel
theorem dX10_dropped_41 : decode cX10_dropped 41 = .ok (.iload_n 1, 1) := by decide +kernel
theorem dX10_dropped_42 : decode cX10_dropped 42 = .ok (.iconst 4, 1) := by decide +kernel
theorem dX10_dropped_43 : decode cX10_dropped 43 = .ok (.iload_n 3, 1) := by decide +kernel
theorem dX10_dropped_44 : decode cX10_dropped 44 = .ok (.invokevirtual 230, 3) := by decide +kernel
theorem dX10_dropped_47 : decode cX10_dropped 47 = .ok (.aload_n 0, 1) := by decide +kernel
theorem dX10_dropped_48 : decode cX10_dropped 48 = .ok (.getfield 47, 3) := by decide +kernel
theorem dX10_dropped_51 : decode cX10_dropped 51 = .ok (.iconst 0, 1) := by decide +kernel
theorem dX10_dropped_52 : decode cX10_dropped 52 = .ok (.laload, 1) := by decide +kernel
theorem dX10_dropped_53 : decode cX10_dropped 53 = .ok (.lconst 0, 1) := by decide +kernel
theorem dX10_dropped_54 : decode cX10_dropped 54 = .ok (.lcmp, 1) := by decide +kernel
theorem dX10_dropped_55 : decode cX10_dropped 55 = .ok (.ifCond .le 7, 3) := by decide +kernel
theorem dX10_dropped_58 : decode cX10_dropped 58 = .ok (.iload_n 3, 1) := by decide +kernel
theorem dX10_dropped_59 : decode cX10_dropped 59 = .ok (.goto 4, 3) := by decide +kernel
theorem dX10_dropped_62 : decode cX10_dropped 62 = .ok (.iload_n 2, 1) := by decide +kernel
theorem dX10_dropped_63 : decode cX10_dropped 63 = .ok (.istore_n 2, 1) := by decide +kernel
theorem dX10_dropped_64 : decode cX10_dropped 64 = .ok (.iinc 3 1, 3) := by decide +kernel
theorem dX10_dropped_67 : decode cX10_dropped 67 = .ok (.goto (-52), 3) := by decide +kernel
theorem dX10_dropped_70 : decode cX10_dropped 70 = .ok (.iload_n 2, 1) := by decide +kernel
theorem dX10_dropped_71 : decode cX10_dropped 71 = .ok (.ireturn, 1) := by decide +kernel
theorem dX10_heardNext_0 : decode cX10_heardNext 0 = .ok (.aload_n 0, 1) := by decide +kernel
theorem dX10_heardNext_1 : decode cX10_heardNext 1 = .ok (.iload_n 1, 1) := by decide +kernel
theorem dX10_heardNext_2 : decode cX10_heardNext 2 = .ok (.invokevirtual 172, 3) := by decide +kernel
theorem dX10_heardNext_5 : decode cX10_heardNext 5 = .ok (.aload_n 0, 1) := by decide +kernel
theorem dX10_heardNext_6 : decode cX10_heardNext 6 = .ok (.invokevirtual 255, 3) := by decide +kernel
theorem dX10_heardNext_9 : decode cX10_heardNext 9 = .ok (.istore_n 3, 1) := by decide +kernel
theorem dX10_heardNext_10 : decode cX10_heardNext 10 = .ok (.iload_n 3, 1) := by decide +kernel
theorem dX10_heardNext_11 : decode cX10_heardNext 11 = .ok (.aload_n 0, 1) := by decide +kernel
theorem dX10_heardNext_12 : decode cX10_heardNext 12 = .ok (.getfield 85, 3) := by decide +kernel
theorem dX10_heardNext_15 : decode cX10_heardNext 15 = .ok (.if_icmp .ge 28, 3) := by decide +kernel
theorem dX10_heardNext_18 : decode cX10_heardNext 18 = .ok (.aload_n 0, 1) := by decide +kernel
theorem dX10_heardNext_19 : decode cX10_heardNext 19 = .ok (.iload_n 2, 1) := by decide +kernel
theorem dX10_heardNext_20 : decode cX10_heardNext 20 = .ok (.invokevirtual 149, 3) := by decide +kernel
theorem dX10_heardNext_23 : decode cX10_heardNext 23 = .ok (.ifCond .ne 20, 3) := by decide +kernel
theorem dX10_heardNext_26 : decode cX10_heardNext 26 = .ok (.aload_n 0, 1) := by decide +kernel
theorem dX10_heardNext_27 : decode cX10_heardNext 27 = .ok (.iload_n 2, 1) := by decide +kernel
theorem dX10_heardNext_28 : decode cX10_heardNext 28 = .ok (.invokevirtual 191, 3) := by decide +kernel
theorem dX10_heardNext_31 : decode cX10_heardNext 31 = .ok (.aload_n 0, 1) := by decide +kernel
theorem dX10_heardNext_32 : decode cX10_heardNext 32 = .ok (.getfield 40, 3) := by decide +kernel
theorem dX10_heardNext_35 : decode cX10_heardNext 35 = .ok (.iload_n 3, 1) := by decide +kernel
theorem dX10_heardNext_36 : decode cX10_heardNext 36 = .ok (.iaload, 1) := by decide +kernel
theorem dX10_heardNext_37 : decode cX10_heardNext 37 = .ok (.bipush 48, 2) := by decide +kernel
theorem dX10_heardNext_39 : decode cX10_heardNext 39 = .ok (.isub, 1) := by decide +kernel
theorem dX10_heardNext_40 : decode cX10_heardNext 40 = .ok (.if_icmp .eq 6, 3) := by decide +kernel
theorem dX10_heardNext_43 : decode cX10_heardNext 43 = .ok (.bipush (-6), 2) := by decide +kernel
theorem dX10_heardNext_45 : decode cX10_heardNext 45 = .ok (.ireturn, 1) := by decide +kernel
theorem dX10_heardNext_46 : decode cX10_heardNext 46 = .ok (.aload_n 0, 1) := by decide +kernel
theorem dX10_heardNext_47 : decode cX10_heardNext 47 = .ok (.iload_n 1, 1) := by decide +kernel
theorem dX10_heardNext_48 : decode cX10_heardNext 48 = .ok (.iload_n 2, 1) := by decide +kernel
theorem dX10_heardNext_49 : decode cX10_heardNext 49 = .ok (.bipush 15, 2) := by decide +kernel
theorem dX10_heardNext_51 : decode cX10_heardNext 51 = .ok (.iconst 4, 1) := by decide +kernel
theorem dX10_heardNext_52 : decode cX10_heardNext 52 = .ok (.iconst 0, 1) := by decide +kernel
theorem dX10_heardNext_53 : decode cX10_heardNext 53 = .ok (.invokevirtual 219, 3) := by decide +kernel
theorem dX10_heardNext_56 : decode cX10_heardNext 56 = .ok (.ireturn, 1) := by decide +kernel
theorem dX10_findHeard_0 : decode cX10_findHeard 0 = .ok (.bipush 16, 2) := by decide +kernel
theorem dX10_findHeard_2 : decode cX10_findHeard 2 = .ok (.istore_n 1, 1) := by decide +kernel
theorem dX10_findHeard_3 : decode cX10_findHeard 3 = .ok (.iload_n 1, 1) := by decide +kernel
theorem dX10_findHeard_4 : decode cX10_findHeard 4 = .ok (.ifCond .lt 168, 3) := by decide +kernel
theorem dX10_findHeard_7 : decode cX10_findHeard 7 = .ok (.iconst 0, 1) := by decide +kernel
theorem dX10_findHeard_8 : decode cX10_findHeard 8 = .ok (.istore_n 2, 1) := by decide +kernel
theorem dX10_findHeard_9 : decode cX10_findHeard 9 = .ok (.iload_n 2, 1) := by decide +kernel
theorem dX10_findHeard_10 : decode cX10_findHeard 10 = .ok (.sipush 625, 3) := by decide +kernel
theorem dX10_findHeard_13 : decode cX10_findHeard 13 = .ok (.if_icmp .ge 153, 3) := by decide +kernel
theorem dX10_findHeard_16 : decode cX10_findHeard 16 = .ok (.iconst 0, 1) := by decide +kernel
theorem dX10_findHeard_17 : decode cX10_findHeard 17 = .ok (.istore_n 3, 1) := by decide +kernel
theorem dX10_findHeard_18 : decode cX10_findHeard 18 = .ok (.iload_n 3, 1) := by decide +kernel
theorem dX10_findHeard_19 : decode cX10_findHeard 19 = .ok (.bipush 65, 2) := by decide +kernel
theorem dX10_findHeard_21 : decode cX10_findHeard 21 = .ok (.if_icmp .ge 139, 3) := by decide +kernel
theorem dX10_findHeard_24 : decode cX10_findHeard 24 = .ok (.iload_n 2, 1) := by decide +kernel
theorem dX10_findHeard_25 : decode cX10_findHeard 25 = .ok (.invokestatic 206, 3) := by decide +kernel
theorem dX10_findHeard_28 : decode cX10_findHeard 28 = .ok (.iload_n 1, 1) := by decide +kernel
theorem dX10_findHeard_29 : decode cX10_findHeard 29 = .ok (.if_icmp .ne 131, 3) := by decide +kernel
theorem dX10_findHeard_32 : decode cX10_findHeard 32 = .ok (.bipush 65, 2) := by decide +kernel
theorem dX10_findHeard_34 : decode cX10_findHeard 34 = .ok (.iload_n 2, 1) := by decide +kernel
theorem dX10_findHeard_35 : decode cX10_findHeard 35 = .ok (.imul, 1) := by decide +kernel
theorem dX10_findHeard_36 : decode cX10_findHeard 36 = .ok (.iload_n 3, 1) := by decide +kernel
theorem dX10_findHeard_37 : decode cX10_findHeard 37 = .ok (.iadd, 1) := by decide +kernel
theorem dX10_findHeard_38 : decode cX10_findHeard 38 = .ok (.istore 4, 2) := by decide +kernel
theorem dX10_findHeard_40 : decode cX10_findHeard 40 = .ok (.aload_n 0, 1) := by decide +kernel
theorem dX10_findHeard_41 : decode cX10_findHeard 41 = .ok (.iload 4, 2) := by decide +kernel
theorem dX10_findHeard_43 : decode cX10_findHeard 43 = .ok (.invokevirtual 172, 3) := by decide +kernel
theorem dX10_findHeard_46 : decode cX10_findHeard 46 = .ok (.iload_n 1, 1) := by decide +kernel
theorem dX10_findHeard_47 : decode cX10_findHeard 47 = .ok (.aload_n 0, 1) := by decide +kernel
theorem dX10_findHeard_48 : decode cX10_findHeard 48 = .ok (.getfield 85, 3) := by decide +kernel
theorem dX10_findHeard_51 : decode cX10_findHeard 51 = .ok (.if_icmp .ne 16, 3) := by decide +kernel
theorem dX10_findHeard_54 : decode cX10_findHeard 54 = .ok (.aload_n 0, 1) := by decide +kernel
theorem dX10_findHeard_55 : decode cX10_findHeard 55 = .ok (.bipush 15, 2) := by decide +kernel
theorem dX10_findHeard_57 : decode cX10_findHeard 57 = .ok (.invokevirtual 213, 3) := by decide +kernel
theorem dX10_findHeard_60 : decode cX10_findHeard 60 = .ok (.ifCond .eq 7, 3) := by decide +kernel
theorem dX10_findHeard_63 : decode cX10_findHeard 63 = .ok (.lconst 1, 1) := by decide +kernel
theorem dX10_findHeard_64 : decode cX10_findHeard 64 = .ok (.goto 4, 3) := by decide +kernel
theorem dX10_findHeard_67 : decode cX10_findHeard 67 = .ok (.lconst 0, 1) := by decide +kernel
theorem dX10_findHeard_68 : decode cX10_findHeard 68 = .ok (.lstore 5, 2) := by decide +kernel
theorem dX10_findHeard_70 : decode cX10_findHeard 70 = .ok (.iload_n 1, 1) := by decide +kernel
theorem dX10_findHeard_71 : decode cX10_findHeard 71 = .ok (.aload_n 0, 1) := by decide +kernel
theorem dX10_findHeard_72 : decode cX10_findHeard 72 = .ok (.getfield 85, 3) := by decide +kernel
theorem dX10_findHeard_75 : decode cX10_findHeard 75 = .ok (.if_icmp .ge 16, 3) := by decide +kernel
theorem dX10_findHeard_78 : decode cX10_findHeard 78 = .ok (.aload_n 0, 1) := by decide +kernel
theorem dX10_findHeard_79 : decode cX10_findHeard 79 = .ok (.bipush 15, 2) := by decide +kernel
theorem dX10_findHeard_81 : decode cX10_findHeard 81 = .ok (.invokevirtual 213, 3) := by decide +kernel
theorem dX10_findHeard_84 : decode cX10_findHeard 84 = .ok (.ifCond .eq 7, 3) := by decide +kernel
theorem dX10_findHeard_87 : decode cX10_findHeard 87 = .ok (.iconst 1, 1) := by decide +kernel
theorem dX10_findHeard_88 : decode cX10_findHeard 88 = .ok (.goto 4, 3) := by decide +kernel
theorem dX10_findHeard_91 : decode cX10_findHeard 91 = .ok (.iconst 0, 1) := by decide +kernel
theorem dX10_findHeard_92 : decode cX10_findHeard 92 = .ok (.istore 7, 2) := by decide +kernel
theorem dX10_findHeard_94 : decode cX10_findHeard 94 = .ok (.iconst 0, 1) := by decide +kernel
theorem dX10_findHeard_95 : decode cX10_findHeard 95 = .ok (.istore 8, 2) := by decide +kernel
theorem dX10_findHeard_97 : decode cX10_findHeard 97 = .ok (.iload 8, 2) := by decide +kernel
theorem dX10_findHeard_99 : decode cX10_findHeard 99 = .ok (.iconst 4, 1) := by decide +kernel
theorem dX10_findHeard_100 : decode cX10_findHeard 100 = .ok (.if_icmp .ge 45, 3) := by decide +kernel
theorem dX10_findHeard_103 : decode cX10_findHeard 103 = .ok (.iload 7, 2) := by decide +kernel
theorem dX10_findHeard_105 : decode cX10_findHeard 105 = .ok (.ifCond .eq 40, 3) := by decide +kernel
theorem dX10_findHeard_108 : decode cX10_findHeard 108 = .ok (.aload_n 0, 1) := by decide +kernel
theorem dX10_findHeard_109 : decode cX10_findHeard 109 = .ok (.iload 4, 2) := by decide +kernel
theorem dX10_findHeard_111 : decode cX10_findHeard 111 = .ok (.iload 8, 2) := by decide +kernel
theorem dX10_findHeard_113 : decode cX10_findHeard 113 = .ok (.invokevirtual 267, 3) := by decide +kernel
theorem dX10_findHeard_116 : decode cX10_findHeard 116 = .ok (.istore 9, 2) := by decide +kernel
theorem dX10_findHeard_118 : decode cX10_findHeard 118 = .ok (.lload 5, 2) := by decide +kernel
theorem dX10_findHeard_120 : decode cX10_findHeard 120 = .ok (.iload 9, 2) := by decide +kernel
theorem dX10_findHeard_122 : decode cX10_findHeard 122 = .ok (.ifCond .ge 7, 3) := by decide +kernel
theorem dX10_findHeard_125 : decode cX10_findHeard 125 = .ok (.lconst 0, 1) := by decide +kernel
theorem dX10_findHeard_126 : decode cX10_findHeard 126 = .ok (.goto 10, 3) := by decide +kernel
theorem dX10_findHeard_129 : decode cX10_findHeard 129 = .ok (.aload_n 0, 1) := by decide +kernel
theorem dX10_findHeard_130 : decode cX10_findHeard 130 = .ok (.getfield 47, 3) := by decide +kernel
theorem dX10_findHeard_133 : decode cX10_findHeard 133 = .ok (.iload 9, 2) := by decide +kernel
theorem dX10_findHeard_135 : decode cX10_findHeard 135 = .ok (.laload, 1) := by decide +kernel
theorem dX10_findHeard_136 : decode cX10_findHeard 136 = .ok (.ladd, 1) := by decide +kernel
theorem dX10_findHeard_137 : decode cX10_findHeard 137 = .ok (.lstore 5, 2) := by decide +kernel
theorem dX10_findHeard_139 : decode cX10_findHeard 139 = .ok (.iinc 8 1, 3) := by decide +kernel
theorem dX10_findHeard_142 : decode cX10_findHeard 142 = .ok (.goto (-45), 3) := by decide +kernel
theorem dX10_findHeard_145 : decode cX10_findHeard 145 = .ok (.aload_n 0, 1) := by decide +kernel
theorem dX10_findHeard_146 : decode cX10_findHeard 146 = .ok (.getfield 47, 3) := by decide +kernel
theorem dX10_findHeard_149 : decode cX10_findHeard 149 = .ok (.iload 4, 2) := by decide +kernel
theorem dX10_findHeard_151 : decode cX10_findHeard 151 = .ok (.lload 5, 2) := by decide +kernel
theorem dX10_findHeard_153 : decode cX10_findHeard 153 = .ok (.lastore, 1) := by decide +kernel
theorem dX10_findHeard_154 : decode cX10_findHeard 154 = .ok (.iinc 3 1, 3) := by decide +kernel
theorem dX10_findHeard_157 : decode cX10_findHeard 157 = .ok (.goto (-139), 3) := by decide +kernel
theorem dX10_findHeard_160 : decode cX10_findHeard 160 = .ok (.iinc 2 1, 3) := by decide +kernel
theorem dX10_findHeard_163 : decode cX10_findHeard 163 = .ok (.goto (-154), 3) := by decide +kernel
theorem dX10_findHeard_166 : decode cX10_findHeard 166 = .ok (.iinc 1 (-1), 3) := by decide +kernel
theorem dX10_findHeard_169 : decode cX10_findHeard 169 = .ok (.goto (-166), 3) := by decide +kernel
theorem dX10_findHeard_172 : decode cX10_findHeard 172 = .ok (.return_, 1) := by decide +kernel
theorem dX10_heard_0 : decode cX10_heard 0 = .ok (.aload_n 0, 1) := by decide +kernel
theorem dX10_heard_1 : decode cX10_heard 1 = .ok (.iconst 2, 1) := by decide +kernel
theorem dX10_heard_2 : decode cX10_heard 2 = .ok (.invokevirtual 197, 3) := by decide +kernel
theorem dX10_heard_5 : decode cX10_heard 5 = .ok (.ifCond .lt 7, 3) := by decide +kernel
theorem dX10_heard_8 : decode cX10_heard 8 = .ok (.ldc2_w 270, 3) := by decide +kernel
theorem dX10_heard_11 : decode cX10_heard 11 = .ok (.lreturn, 1) := by decide +kernel
theorem dX10_heard_12 : decode cX10_heard 12 = .ok (.aload_n 0, 1) := by decide +kernel
theorem dX10_heard_13 : decode cX10_heard 13 = .ok (.invokevirtual 272, 3) := by decide +kernel
