theorem dX1_init_0 : decode cX1_init 0 = .ok (.aload_n 0, 1) := by decide +kernel
theorem dX1_init_1 : decode cX1_init 1 = .ok (.invokespecial 3, 3) := by decide +kernel
theorem dX1_init_4 : decode cX1_init 4 = .ok (.aload_n 0, 1) := by decide +kernel
theorem dX1_init_5 : decode cX1_init 5 = .ok (.aload_n 1, 1) := by decide +kernel
theorem dX1_init_6 : decode cX1_init 6 = .ok (.putfield 9, 3) := by decide +kernel
theorem dX1_init_9 : decode cX1_init 9 = .ok (.aload_n 0, 1) := by decide +kernel
theorem dX1_init_10 : decode cX1_init 10 = .ok (.aload_n 2, 1) := by decide +kernel
theorem dX1_init_11 : decode cX1_init 11 = .ok (.putfield 15, 3) := by decide +kernel
theorem dX1_init_14 : decode cX1_init 14 = .ok (.return_, 1) := by decide +kernel
theorem dX1_begin_0 : decode cX1_begin 0 = .ok (.iload_n 3, 1) := by decide +kernel
theorem dX1_begin_1 : decode cX1_begin 1 = .ok (.bipush 63, 2) := by decide +kernel
theorem dX1_begin_3 : decode cX1_begin 3 = .ok (.iand, 1) := by decide +kernel
theorem dX1_begin_4 : decode cX1_begin 4 = .ok (.istore 4, 2) := by decide +kernel
theorem dX1_begin_6 : decode cX1_begin 6 = .ok (.aload_n 0, 1) := by decide +kernel
theorem dX1_begin_7 : decode cX1_begin 7 = .ok (.iload_n 1, 1) := by decide +kernel
theorem dX1_begin_8 : decode cX1_begin 8 = .ok (.putfield 19, 3) := by decide +kernel
theorem dX1_begin_11 : decode cX1_begin 11 = .ok (.aload_n 0, 1) := by decide +kernel
theorem dX1_begin_12 : decode cX1_begin 12 = .ok (.aload_n 0, 1) := by decide +kernel
theorem dX1_begin_13 : decode cX1_begin 13 = .ok (.getfield 15, 3) := by decide +kernel
theorem dX1_begin_16 : decode cX1_begin 16 = .ok (.aload_n 0, 1) := by decide +kernel
theorem dX1_begin_17 : decode cX1_begin 17 = .ok (.getfield 9, 3) := by decide +kernel
theorem dX1_begin_20 : decode cX1_begin 20 = .ok (.getfield 23, 3) := by decide +kernel
theorem dX1_begin_23 : decode cX1_begin 23 = .ok (.invokevirtual 28, 3) := by decide +kernel
theorem dX1_begin_26 : decode cX1_begin 26 = .ok (.aload_n 0, 1) := by decide +kernel
theorem dX1_begin_27 : decode cX1_begin 27 = .ok (.getfield 9, 3) := by decide +kernel
theorem dX1_begin_30 : decode cX1_begin 30 = .ok (.getfield 34, 3) := by decide +kernel
theorem dX1_begin_33 : decode cX1_begin 33 = .ok (.bipush 19, 2) := by decide +kernel
theorem dX1_begin_35 : decode cX1_begin 35 = .ok (.iaload, 1) := by decide +kernel
theorem dX1_begin_36 : decode cX1_begin 36 = .ok (.imul, 1) := by decide +kernel
theorem dX1_begin_37 : decode cX1_begin 37 = .ok (.i2l, 1) := by decide +kernel
theorem dX1_begin_38 : decode cX1_begin 38 = .ok (.putfield 38, 3) := by decide +kernel
theorem dX1_begin_41 : decode cX1_begin 41 = .ok (.aload_n 0, 1) := by decide +kernel
theorem dX1_begin_42 : decode cX1_begin 42 = .ok (.iconst 0, 1) := by decide +kernel
theorem dX1_begin_43 : decode cX1_begin 43 = .ok (.putfield 42, 3) := by decide +kernel
theorem dX1_begin_46 : decode cX1_begin 46 = .ok (.aload_n 0, 1) := by decide +kernel
theorem dX1_begin_47 : decode cX1_begin 47 = .ok (.sipush 2000, 3) := by decide +kernel
theorem dX1_begin_50 : decode cX1_begin 50 = .ok (.putfield 45, 3) := by decide +kernel
theorem dX1_begin_53 : decode cX1_begin 53 = .ok (.aload_n 0, 1) := by decide +kernel
theorem dX1_begin_54 : decode cX1_begin 54 = .ok (.iload_n 2, 1) := by decide +kernel
theorem dX1_begin_55 : decode cX1_begin 55 = .ok (.iload 4, 2) := by decide +kernel
theorem dX1_begin_57 : decode cX1_begin 57 = .ok (.invokestatic 48, 3) := by decide +kernel
theorem dX1_begin_60 : decode cX1_begin 60 = .ok (.imul, 1) := by decide +kernel
theorem dX1_begin_61 : decode cX1_begin 61 = .ok (.sipush 1000, 3) := by decide +kernel
theorem dX1_begin_64 : decode cX1_begin 64 = .ok (.idiv, 1) := by decide +kernel
theorem dX1_begin_65 : decode cX1_begin 65 = .ok (.putfield 51, 3) := by decide +kernel
theorem dX1_begin_68 : decode cX1_begin 68 = .ok (.aload_n 0, 1) := by decide +kernel
theorem dX1_begin_69 : decode cX1_begin 69 = .ok (.iload_n 2, 1) := by decide +kernel
theorem dX1_begin_70 : decode cX1_begin 70 = .ok (.iload 4, 2) := by decide +kernel
theorem dX1_begin_72 : decode cX1_begin 72 = .ok (.invokestatic 54, 3) := by decide +kernel
theorem dX1_begin_75 : decode cX1_begin 75 = .ok (.imul, 1) := by decide +kernel
theorem dX1_begin_76 : decode cX1_begin 76 = .ok (.sipush 1000, 3) := by decide +kernel
theorem dX1_begin_79 : decode cX1_begin 79 = .ok (.idiv, 1) := by decide +kernel
theorem dX1_begin_80 : decode cX1_begin 80 = .ok (.putfield 57, 3) := by decide +kernel
theorem dX1_begin_83 : decode cX1_begin 83 = .ok (.aload_n 0, 1) := by decide +kernel
theorem dX1_begin_84 : decode cX1_begin 84 = .ok (.bipush 16, 2) := by decide +kernel
theorem dX1_begin_86 : decode cX1_begin 86 = .ok (.iload 4, 2) := by decide +kernel
theorem dX1_begin_88 : decode cX1_begin 88 = .ok (.imul, 1) := by decide +kernel
theorem dX1_begin_89 : decode cX1_begin 89 = .ok (.putfield 60, 3) := by decide +kernel
theorem dX1_begin_92 : decode cX1_begin 92 = .ok (.aload_n 0, 1) := by decide +kernel
theorem dX1_begin_93 : decode cX1_begin 93 = .ok (.iconst 0, 1) := by decide +kernel
theorem dX1_begin_94 : decode cX1_begin 94 = .ok (.putfield 63, 3) := by decide +kernel
theorem dX1_begin_97 : decode cX1_begin 97 = .ok (.aload_n 0, 1) := by decide +kernel
theorem dX1_begin_98 : decode cX1_begin 98 = .ok (.iconst 0, 1) := by decide +kernel
theorem dX1_begin_99 : decode cX1_begin 99 = .ok (.putfield 66, 3) := by decide +kernel
theorem dX1_begin_102 : decode cX1_begin 102 = .ok (.aload_n 0, 1) := by decide +kernel
theorem dX1_begin_103 : decode cX1_begin 103 = .ok (.iconst 0, 1) := by decide +kernel
theorem dX1_begin_104 : decode cX1_begin 104 = .ok (.putfield 69, 3) := by decide +kernel
theorem dX1_begin_107 : decode cX1_begin 107 = .ok (.aload_n 0, 1) := by decide +kernel
theorem dX1_begin_108 : decode cX1_begin 108 = .ok (.sipush 2000, 3) := by decide +kernel
theorem dX1_begin_111 : decode cX1_begin 111 = .ok (.putfield 72, 3) := by decide +kernel
theorem dX1_begin_114 : decode cX1_begin 114 = .ok (.aload_n 0, 1) := by decide +kernel
theorem dX1_begin_115 : decode cX1_begin 115 = .ok (.iconst 0, 1) := by decide +kernel
theorem dX1_begin_116 : decode cX1_begin 116 = .ok (.putfield 75, 3) := by decide +kernel
theorem dX1_begin_119 : decode cX1_begin 119 = .ok (.aload_n 0, 1) := by decide +kernel
theorem dX1_begin_120 : decode cX1_begin 120 = .ok (.iconst 0, 1) := by decide +kernel
theorem dX1_begin_121 : decode cX1_begin 121 = .ok (.putfield 78, 3) := by decide +kernel
theorem dX1_begin_124 : decode cX1_begin 124 = .ok (.aload_n 0, 1) := by decide +kernel
theorem dX1_begin_125 : decode cX1_begin 125 = .ok (.iconst 0, 1) := by decide +kernel
theorem dX1_begin_126 : decode cX1_begin 126 = .ok (.putfield 81, 3) := by decide +kernel
theorem dX1_begin_129 : decode cX1_begin 129 = .ok (.return_, 1) := by decide +kernel
theorem dX1_goesOn_0 : decode cX1_goesOn 0 = .ok (.aload_n 0, 1) := by decide +kernel
theorem dX1_goesOn_1 : decode cX1_goesOn 1 = .ok (.getfield 81, 3) := by decide +kernel
theorem dX1_goesOn_4 : decode cX1_goesOn 4 = .ok (.ifCond .ne 17, 3) := by decide +kernel
theorem dX1_goesOn_7 : decode cX1_goesOn 7 = .ok (.aload_n 0, 1) := by decide +kernel
theorem dX1_goesOn_8 : decode cX1_goesOn 8 = .ok (.getfield 69, 3) := by decide +kernel
theorem dX1_goesOn_11 : decode cX1_goesOn 11 = .ok (.sipush 200, 3) := by decide +kernel
theorem dX1_goesOn_14 : decode cX1_goesOn 14 = .ok (.if_icmp .ge 7, 3) := by decide +kernel
theorem dX1_goesOn_17 : decode cX1_goesOn 17 = .ok (.iconst 1, 1) := by decide +kernel
theorem dX1_goesOn_18 : decode cX1_goesOn 18 = .ok (.goto 4, 3) := by decide +kernel
theorem dX1_goesOn_21 : decode cX1_goesOn 21 = .ok (.iconst 0, 1) := by decide +kernel
theorem dX1_goesOn_22 : decode cX1_goesOn 22 = .ok (.ireturn, 1) := by decide +kernel
theorem dX1_flyOut_0 : decode cX1_flyOut 0 = .ok (.aload_n 0, 1) := by decide +kernel
theorem dX1_flyOut_1 : decode cX1_flyOut 1 = .ok (.iload_n 1, 1) := by decide +kernel
theorem dX1_flyOut_2 : decode cX1_flyOut 2 = .ok (.iload_n 2, 1) := by decide +kernel
theorem dX1_flyOut_3 : decode cX1_flyOut 3 = .ok (.iload_n 3, 1) := by decide +kernel
theorem dX1_flyOut_4 : decode cX1_flyOut 4 = .ok (.invokevirtual 84, 3) := by decide +kernel
theorem dX1_flyOut_7 : decode cX1_flyOut 7 = .ok (.iconst 0, 1) := by decide +kernel
theorem dX1_flyOut_8 : decode cX1_flyOut 8 = .ok (.istore 4, 2) := by decide +kernel
theorem dX1_flyOut_10 : decode cX1_flyOut 10 = .ok (.iload 4, 2) := by decide +kernel
theorem dX1_flyOut_12 : decode cX1_flyOut 12 = .ok (.sipush 200, 3) := by decide +kernel
theorem dX1_flyOut_15 : decode cX1_flyOut 15 = .ok (.if_icmp .ge 20, 3) := by decide +kernel
theorem dX1_flyOut_18 : decode cX1_flyOut 18 = .ok (.aload_n 0, 1) := by decide +kernel
theorem dX1_flyOut_19 : decode cX1_flyOut 19 = .ok (.invokevirtual 88, 3) := by decide +kernel
theorem dX1_flyOut_22 : decode cX1_flyOut 22 = .ok (.ifCond .eq 13, 3) := by decide +kernel
theorem dX1_flyOut_25 : decode cX1_flyOut 25 = .ok (.aload_n 0, 1) := by decide +kernel
theorem dX1_flyOut_26 : decode cX1_flyOut 26 = .ok (.invokevirtual 92, 3) := by decide +kernel
theorem dX1_flyOut_29 : decode cX1_flyOut 29 = .ok (.iinc 4 1, 3) := by decide +kernel
theorem dX1_flyOut_32 : decode cX1_flyOut 32 = .ok (.goto (-22), 3) := by decide +kernel
theorem dX1_flyOut_35 : decode cX1_flyOut 35 = .ok (.return_, 1) := by decide +kernel
theorem dX1_score_0 : decode cX1_score 0 = .ok (.iload_n 1, 1) := by decide +kernel
theorem dX1_score_1 : decode cX1_score 1 = .ok (.ifCond .eq 10, 3) := by decide +kernel
theorem dX1_score_4 : decode cX1_score 4 = .ok (.aload_n 0, 1) := by decide +kernel
theorem dX1_score_5 : decode cX1_score 5 = .ok (.getfield 69, 3) := by decide +kernel
theorem dX1_score_8 : decode cX1_score 8 = .ok (.goto 7, 3) := by decide +kernel
theorem dX1_score_11 : decode cX1_score 11 = .ok (.aload_n 0, 1) := by decide +kernel
theorem dX1_score_12 : decode cX1_score 12 = .ok (.getfield 42, 3) := by decide +kernel
theorem dX1_score_15 : decode cX1_score 15 = .ok (.ireturn, 1) := by decide +kernel
theorem dX1_goesThrough_0 : decode cX1_goesThrough 0 = .ok (.iconst 0, 1) := by decide +kernel
theorem dX1_goesThrough_1 : decode cX1_goesThrough 1 = .ok (.istore 4, 2) := by decide +kernel
theorem dX1_goesThrough_3 : decode cX1_goesThrough 3 = .ok (.iload 4, 2) := by decide +kernel
theorem dX1_goesThrough_5 : decode cX1_goesThrough 5 = .ok (.sipush 200, 3) := by decide +kernel
theorem dX1_goesThrough_8 : decode cX1_goesThrough 8 = .ok (.if_icmp .ge 54, 3) := by decide +kernel
theorem dX1_goesThrough_11 : decode cX1_goesThrough 11 = .ok (.aload_n 0, 1) := by decide +kernel
theorem dX1_goesThrough_12 : decode cX1_goesThrough 12 = .ok (.invokevirtual 88, 3) := by decide +kernel
theorem dX1_goesThrough_15 : decode cX1_goesThrough 15 = .ok (.ifCond .eq 47, 3) := by decide +kernel
theorem dX1_goesThrough_18 : decode cX1_goesThrough 18 = .ok (.aload_n 0, 1) := by decide +kernel
theorem dX1_goesThrough_19 : decode cX1_goesThrough 19 = .ok (.invokevirtual 92, 3) := by decide +kernel
theorem dX1_goesThrough_22 : decode cX1_goesThrough 22 = .ok (.aload_n 0, 1) := by decide +kernel
theorem dX1_goesThrough_23 : decode cX1_goesThrough 23 = .ok (.getfield 66, 3) := by decide +kernel
theorem dX1_goesThrough_26 : decode cX1_goesThrough 26 = .ok (.iload_n 1, 1) := by decide +kernel
theorem dX1_goesThrough_27 : decode cX1_goesThrough 27 = .ok (.if_icmp .ge 29, 3) := by decide +kernel
theorem dX1_goesThrough_30 : decode cX1_goesThrough 30 = .ok (.aload_n 0, 1) := by decide +kernel
theorem dX1_goesThrough_31 : decode cX1_goesThrough 31 = .ok (.getfield 42, 3) := by decide +kernel
theorem dX1_goesThrough_34 : decode cX1_goesThrough 34 = .ok (.iload_n 1, 1) := by decide +kernel
theorem dX1_goesThrough_35 : decode cX1_goesThrough 35 = .ok (.if_icmp .lt 21, 3) := by decide +kernel
theorem dX1_goesThrough_38 : decode cX1_goesThrough 38 = .ok (.aload_n 0, 1) := by decide +kernel
theorem dX1_goesThrough_39 : decode cX1_goesThrough 39 = .ok (.getfield 45, 3) := by decide +kernel
theorem dX1_goesThrough_42 : decode cX1_goesThrough 42 = .ok (.iload_n 2, 1) := by decide +kernel
theorem dX1_goesThrough_43 : decode cX1_goesThrough 43 = .ok (.if_icmp .lt 13, 3) := by decide +kernel
theorem dX1_goesThrough_46 : decode cX1_goesThrough 46 = .ok (.aload_n 0, 1) := by decide +kernel
theorem dX1_goesThrough_47 : decode cX1_goesThrough 47 = .ok (.getfield 45, 3) := by decide +kernel
theorem dX1_goesThrough_50 : decode cX1_goesThrough 50 = .ok (.iload_n 3, 1) := by decide +kernel
theorem dX1_goesThrough_51 : decode cX1_goesThrough 51 = .ok (.if_icmp .gt 5, 3) := by decide +kernel
theorem dX1_goesThrough_54 : decode cX1_goesThrough 54 = .ok (.iconst 1, 1) := by decide +kernel
theorem dX1_goesThrough_55 : decode cX1_goesThrough 55 = .ok (.ireturn, 1) := by decide +kernel
theorem dX1_goesThrough_56 : decode cX1_goesThrough 56 = .ok (.iinc 4 1, 3) := by decide +kernel
theorem dX1_goesThrough_59 : decode cX1_goesThrough 59 = .ok (.goto (-56), 3) := by decide +kernel
theorem dX1_goesThrough_62 : decode cX1_goesThrough 62 = .ok (.iconst 0, 1) := by decide +kernel
theorem dX1_goesThrough_63 : decode cX1_goesThrough 63 = .ok (.ireturn, 1) := by decide +kernel
theorem dX1_tick_0 : decode cX1_tick 0 = .ok (.aload_n 0, 1) := by decide +kernel
theorem dX1_tick_1 : decode cX1_tick 1 = .ok (.getfield 51, 3) := by decide +kernel
theorem dX1_tick_4 : decode cX1_tick 4 = .ok (.aload_n 0, 1) := by decide +kernel
theorem dX1_tick_5 : decode cX1_tick 5 = .ok (.getfield 57, 3) := by decide +kernel
theorem dX1_tick_8 : decode cX1_tick 8 = .ok (.invokestatic 95, 3) := by decide +kernel
theorem dX1_tick_11 : decode cX1_tick 11 = .ok (.istore_n 1, 1) := by decide +kernel
theorem dX1_tick_12 : decode cX1_tick 12 = .ok (.aload_n 0, 1) := by decide +kernel
theorem dX1_tick_13 : decode cX1_tick 13 = .ok (.getfield 60, 3) := by decide +kernel
theorem dX1_tick_16 : decode cX1_tick 16 = .ok (.iload_n 1, 1) := by decide +kernel
theorem dX1_tick_17 : decode cX1_tick 17 = .ok (.invokestatic 99, 3) := by decide +kernel
theorem dX1_tick_20 : decode cX1_tick 20 = .ok (.istore_n 2, 1) := by decide +kernel
theorem dX1_tick_21 : decode cX1_tick 21 = .ok (.iload_n 2, 1) := by decide +kernel
theorem dX1_tick_22 : decode cX1_tick 22 = .ok (.invokestatic 102, 3) := by decide +kernel
theorem dX1_tick_25 : decode cX1_tick 25 = .ok (.istore_n 3, 1) := by decide +kernel
theorem dX1_tick_26 : decode cX1_tick 26 = .ok (.aload_n 0, 1) := by decide +kernel
theorem dX1_tick_27 : decode cX1_tick 27 = .ok (.getfield 51, 3) := by decide +kernel
theorem dX1_tick_30 : decode cX1_tick 30 = .ok (.aload_n 0, 1) := by decide +kernel
theorem dX1_tick_31 : decode cX1_tick 31 = .ok (.getfield 51, 3) := by decide +kernel
theorem dX1_tick_34 : decode cX1_tick 34 = .ok (.imul, 1) := by decide +kernel
theorem dX1_tick_35 : decode cX1_tick 35 = .ok (.aload_n 0, 1) := by decide +kernel
theorem dX1_tick_36 : decode cX1_tick 36 = .ok (.getfield 57, 3) := by decide +kernel
theorem dX1_tick_39 : decode cX1_tick 39 = .ok (.aload_n 0, 1) := by decide +kernel
theorem dX1_tick_40 : decode cX1_tick 40 = .ok (.getfield 57, 3) := by decide +kernel
theorem dX1_tick_43 : decode cX1_tick 43 = .ok (.imul, 1) := by decide +kernel
theorem dX1_tick_44 : decode cX1_tick 44 = .ok (.iadd, 1) := by decide +kernel
theorem dX1_tick_45 : decode cX1_tick 45 = .ok (.sipush 1000, 3) := by decide +kernel
theorem dX1_tick_48 : decode cX1_tick 48 = .ok (.idiv, 1) := by decide +kernel
theorem dX1_tick_49 : decode cX1_tick 49 = .ok (.i2l, 1) := by decide +kernel
theorem dX1_tick_50 : decode cX1_tick 50 = .ok (.lstore 4, 2) := by decide +kernel
theorem dX1_tick_52 : decode cX1_tick 52 = .ok (.aload_n 0, 1) := by decide +kernel
theorem dX1_tick_53 : decode cX1_tick 53 = .ok (.aload_n 0, 1) := by decide +kernel
theorem dX1_tick_54 : decode cX1_tick 54 = .ok (.getfield 9, 3) := by decide +kernel
theorem dX1_tick_57 : decode cX1_tick 57 = .ok (.getfield 34, 3) := by decide +kernel
theorem dX1_tick_60 : decode cX1_tick 60 = .ok (.iconst 0, 1) := by decide +kernel
theorem dX1_tick_61 : decode cX1_tick 61 = .ok (.iload_n 3, 1) := by decide +kernel
theorem dX1_tick_62 : decode cX1_tick 62 = .ok (.iadd, 1) := by decide +kernel
theorem dX1_tick_63 : decode cX1_tick 63 = .ok (.iaload, 1) := by decide +kernel
theorem dX1_tick_64 : decode cX1_tick 64 = .ok (.lload 4, 2) := by decide +kernel
theorem dX1_tick_66 : decode cX1_tick 66 = .ok (.invokevirtual 107, 3) := by decide +kernel
theorem dX1_tick_69 : decode cX1_tick 69 = .ok (.lstore 6, 2) := by decide +kernel
theorem dX1_tick_71 : decode cX1_tick 71 = .ok (.iload_n 2, 1) := by decide +kernel
theorem dX1_tick_72 : decode cX1_tick 72 = .ok (.ifCond .ge 8, 3) := by decide +kernel
theorem dX1_tick_75 : decode cX1_tick 75 = .ok (.lload 6, 2) := by decide +kernel
theorem dX1_tick_77 : decode cX1_tick 77 = .ok (.lneg, 1) := by decide +kernel
theorem dX1_tick_78 : decode cX1_tick 78 = .ok (.lstore 6, 2) := by decide +kernel
theorem dX1_tick_80 : decode cX1_tick 80 = .ok (.aload_n 0, 1) := by decide +kernel
theorem dX1_tick_81 : decode cX1_tick 81 = .ok (.aload_n 0, 1) := by decide +kernel
theorem dX1_tick_82 : decode cX1_tick 82 = .ok (.getfield 9, 3) := by decide +kernel
theorem dX1_tick_85 : decode cX1_tick 85 = .ok (.getfield 34, 3) := by decide +kernel
theorem dX1_tick_88 : decode cX1_tick 88 = .ok (.bipush 9, 2) := by decide +kernel
theorem dX1_tick_90 : decode cX1_tick 90 = .ok (.iload_n 3, 1) := by decide +kernel
theorem dX1_tick_91 : decode cX1_tick 91 = .ok (.iadd, 1) := by decide +kernel
theorem dX1_tick_92 : decode cX1_tick 92 = .ok (.iaload, 1) := by decide +kernel
theorem dX1_tick_93 : decode cX1_tick 93 = .ok (.lload 4, 2) := by decide +kernel
theorem dX1_tick_95 : decode cX1_tick 95 = .ok (.invokevirtual 107, 3) := by decide +kernel
theorem dX1_tick_98 : decode cX1_tick 98 = .ok (.lstore 8, 2) := by decide +kernel
theorem dX1_tick_100 : decode cX1_tick 100 = .ok (.aload_n 0, 1) := by decide +kernel
theorem dX1_tick_101 : decode cX1_tick 101 = .ok (.dup, 1) := by decide +kernel
theorem dX1_tick_102 : decode cX1_tick 102 = .ok (.getfield 69, 3) := by decide +kernel
theorem dX1_tick_105 : decode cX1_tick 105 = .ok (.iconst 1, 1) := by decide +kernel
theorem dX1_tick_106 : decode cX1_tick 106 = .ok (.iadd, 1) := by decide +kernel
theorem dX1_tick_107 : decode cX1_tick 107 = .ok (.putfield 69, 3) := by decide +kernel
theorem dX1_tick_110 : decode cX1_tick 110 = .ok (.aload_n 0, 1) := by decide +kernel
theorem dX1_tick_111 : decode cX1_tick 111 = .ok (.aload_n 0, 1) := by decide +kernel
theorem dX1_tick_112 : decode cX1_tick 112 = .ok (.getfield 19, 3) := by decide +kernel
theorem dX1_tick_115 : decode cX1_tick 115 = .ok (.i2l, 1) := by decide +kernel
theorem dX1_tick_116 : decode cX1_tick 116 = .ok (.lload 4, 2) := by decide +kernel
theorem dX1_tick_118 : decode cX1_tick 118 = .ok (.lmul, 1) := by decide +kernel
theorem dX1_tick_119 : decode cX1_tick 119 = .ok (.aload_n 0, 1) := by decide +kernel
theorem dX1_tick_120 : decode cX1_tick 120 = .ok (.getfield 15, 3) := by decide +kernel
theorem dX1_tick_123 : decode cX1_tick 123 = .ok (.getfield 111, 3) := by decide +kernel
theorem dX1_tick_126 : decode cX1_tick 126 = .ok (.i2l, 1) := by decide +kernel
theorem dX1_tick_127 : decode cX1_tick 127 = .ok (.lload 6, 2) := by decide +kernel
theorem dX1_tick_129 : decode cX1_tick 129 = .ok (.lmul, 1) := by decide +kernel
theorem dX1_tick_130 : decode cX1_tick 130 = .ok (.lsub, 1) := by decide +kernel
theorem dX1_tick_131 : decode cX1_tick 131 = .ok (.aload_n 0, 1) := by decide +kernel
theorem dX1_tick_132 : decode cX1_tick 132 = .ok (.getfield 9, 3) := by decide +kernel
theorem dX1_tick_135 : decode cX1_tick 135 = .ok (.getfield 34, 3) := by decide +kernel
theorem dX1_tick_138 : decode cX1_tick 138 = .ok (.bipush 20, 2) := by decide +kernel
theorem dX1_tick_140 : decode cX1_tick 140 = .ok (.iaload, 1) := by decide +kernel
theorem dX1_tick_141 : decode cX1_tick 141 = .ok (.i2l, 1) := by decide +kernel
theorem dX1_tick_142 : decode cX1_tick 142 = .ok (.lmul, 1) := by decide +kernel
theorem dX1_tick_143 : decode cX1_tick 143 = .ok (.ldc2_w 114, 3) := by decide +kernel
theorem dX1_tick_146 : decode cX1_tick 146 = .ok (.ldiv, 1) := by decide +kernel
theorem dX1_tick_147 : decode cX1_tick 147 = .ok (.invokevirtual 116, 3) := by decide +kernel
theorem dX1_tick_150 : decode cX1_tick 150 = .ok (.iload_n 1, 1) := by decide +kernel
theorem dX1_tick_151 : decode cX1_tick 151 = .ok (.invokestatic 54, 3) := by decide +kernel
theorem dX1_tick_154 : decode cX1_tick 154 = .ok (.istore 10, 2) := by decide +kernel
theorem dX1_tick_156 : decode cX1_tick 156 = .ok (.iload_n 1, 1) := by decide +kernel
theorem dX1_tick_157 : decode cX1_tick 157 = .ok (.invokestatic 48, 3) := by decide +kernel
theorem dX1_tick_160 : decode cX1_tick 160 = .ok (.istore 11, 2) := by decide +kernel
theorem dX1_tick_162 : decode cX1_tick 162 = .ok (.aload_n 0, 1) := by decide +kernel
theorem dX1_tick_163 : decode cX1_tick 163 = .ok (.aload_n 0, 1) := by decide +kernel
theorem dX1_tick_164 : decode cX1_tick 164 = .ok (.getfield 51, 3) := by decide +kernel
theorem dX1_tick_167 : decode cX1_tick 167 = .ok (.i2l, 1) := by decide +kernel
theorem dX1_tick_168 : decode cX1_tick 168 = .ok (.lload 8, 2) := by decide +kernel
theorem dX1_tick_170 : decode cX1_tick 170 = .ok (.lneg, 1) := by decide +kernel
theorem dX1_tick_171 : decode cX1_tick 171 = .ok (.iload 11, 2) := by decide +kernel
theorem dX1_tick_173 : decode cX1_tick 173 = .ok (.i2l, 1) := by decide +kernel
theorem dX1_tick_174 : decode cX1_tick 174 = .ok (.lmul, 1) := by decide +kernel
theorem dX1_tick_175 : decode cX1_tick 175 = .ok (.lload 6, 2) := by decide +kernel
theorem dX1_tick_177 : decode cX1_tick 177 = .ok (.iload 10, 2) := by decide +kernel
theorem dX1_tick_179 : decode cX1_tick 179 = .ok (.i2l, 1) := by decide +kernel
theorem dX1_tick_180 : decode cX1_tick 180 = .ok (.lmul, 1) := by decide +kernel
theorem dX1_tick_181 : decode cX1_tick 181 = .ok (.lsub, 1) := by decide +kernel
theorem dX1_tick_182 : decode cX1_tick 182 = .ok (.ldc2_w 114, 3) := by decide +kernel
theorem dX1_tick_185 : decode cX1_tick 185 = .ok (.ldiv, 1) := by decide +kernel
theorem dX1_tick_186 : decode cX1_tick 186 = .ok (.ladd, 1) := by decide +kernel
theorem dX1_tick_187 : decode cX1_tick 187 = .ok (.sipush 2000, 3) := by decide +kernel
theorem dX1_tick_190 : decode cX1_tick 190 = .ok (.invokestatic 120, 3) := by decide +kernel
theorem dX1_tick_193 : decode cX1_tick 193 = .ok (.putfield 51, 3) := by decide +kernel
theorem dX1_tick_196 : decode cX1_tick 196 = .ok (.aload_n 0, 1) := by decide +kernel
theorem dX1_tick_197 : decode cX1_tick 197 = .ok (.aload_n 0, 1) := by decide +kernel
theorem dX1_tick_198 : decode cX1_tick 198 = .ok (.getfield 57, 3) := by decide +kernel
theorem dX1_tick_201 : decode cX1_tick 201 = .ok (.i2l, 1) := by decide +kernel
theorem dX1_tick_202 : decode cX1_tick 202 = .ok (.lload 8, 2) := by decide +kernel
theorem dX1_tick_204 : decode cX1_tick 204 = .ok (.lneg, 1) := by decide +kernel
theorem dX1_tick_205 : decode cX1_tick 205 = .ok (.iload 10, 2) := by decide +kernel
theorem dX1_tick_207 : decode cX1_tick 207 = .ok (.i2l, 1) := by decide +kernel
theorem dX1_tick_208 : decode cX1_tick 208 = .ok (.lmul, 1) := by decide +kernel
theorem dX1_tick_209 : decode cX1_tick 209 = .ok (.lload 6, 2) := by decide +kernel
theorem dX1_tick_211 : decode cX1_tick 211 = .ok (.iload 11, 2) := by decide +kernel
theorem dX1_tick_213 : decode cX1_tick 213 = .ok (.i2l, 1) := by decide +kernel
theorem dX1_tick_214 : decode cX1_tick 214 = .ok (.lmul, 1) := by decide +kernel
theorem dX1_tick_215 : decode cX1_tick 215 = .ok (.ladd, 1) := by decide +kernel
theorem dX1_tick_216 : decode cX1_tick 216 = .ok (.ldc2_w 114, 3) := by decide +kernel
theorem dX1_tick_219 : decode cX1_tick 219 = .ok (.ldiv, 1) := by decide +kernel
theorem dX1_tick_220 : decode cX1_tick 220 = .ok (.ladd, 1) := by decide +kernel
theorem dX1_tick_221 : decode cX1_tick 221 = .ok (.aload_n 0, 1) := by decide +kernel
theorem dX1_tick_222 : decode cX1_tick 222 = .ok (.invokevirtual 124, 3) := by decide +kernel
theorem dX1_tick_225 : decode cX1_tick 225 = .ok (.i2l, 1) := by decide +kernel
theorem dX1_tick_226 : decode cX1_tick 226 = .ok (.lsub, 1) := by decide +kernel
theorem dX1_tick_227 : decode cX1_tick 227 = .ok (.sipush 2000, 3) := by decide +kernel
theorem dX1_tick_230 : decode cX1_tick 230 = .ok (.invokestatic 120, 3) := by decide +kernel
theorem dX1_tick_233 : decode cX1_tick 233 = .ok (.putfield 57, 3) := by decide +kernel
theorem dX1_tick_236 : decode cX1_tick 236 = .ok (.aload_n 0, 1) := by decide +kernel
theorem dX1_tick_237 : decode cX1_tick 237 = .ok (.invokevirtual 128, 3) := by decide +kernel
theorem dX1_tick_240 : decode cX1_tick 240 = .ok (.aload_n 0, 1) := by decide +kernel
theorem dX1_tick_241 : decode cX1_tick 241 = .ok (.invokevirtual 131, 3) := by decide +kernel
theorem dX1_tick_244 : decode cX1_tick 244 = .ok (.return_, 1) := by decide +kernel
theorem dX1_force_0 : decode cX1_force 0 = .ok (.aload_n 0, 1) := by decide +kernel
theorem dX1_force_1 : decode cX1_force 1 = .ok (.getfield 38, 3) := by decide +kernel
theorem dX1_force_4 : decode cX1_force 4 = .ok (.lconst 0, 1) := by decide +kernel
theorem dX1_force_5 : decode cX1_force 5 = .ok (.lcmp, 1) := by decide +kernel
theorem dX1_force_6 : decode cX1_force 6 = .ok (.ifCond .le 24, 3) := by decide +kernel
theorem dX1_force_9 : decode cX1_force 9 = .ok (.iload_n 1, 1) := by decide +kernel
theorem dX1_force_10 : decode cX1_force 10 = .ok (.i2l, 1) := by decide +kernel
theorem dX1_force_11 : decode cX1_force 11 = .ok (.lload_n 2, 1) := by decide +kernel
theorem dX1_force_12 : decode cX1_force 12 = .ok (.lmul, 1) := by decide +kernel
theorem dX1_force_13 : decode cX1_force 13 = .ok (.aload_n 0, 1) := by decide +kernel
theorem dX1_force_14 : decode cX1_force 14 = .ok (.getfield 15, 3) := by decide +kernel
theorem dX1_force_17 : decode cX1_force 17 = .ok (.getfield 134, 3) := by decide +kernel
theorem dX1_force_20 : decode cX1_force 20 = .ok (.i2l, 1) := by decide +kernel
theorem dX1_force_21 : decode cX1_force 21 = .ok (.lmul, 1) := by decide +kernel
theorem dX1_force_22 : decode cX1_force 22 = .ok (.aload_n 0, 1) := by decide +kernel
theorem dX1_force_23 : decode cX1_force 23 = .ok (.getfield 38, 3) := by decide +kernel
theorem dX1_force_26 : decode cX1_force 26 = .ok (.ldiv, 1) := by decide +kernel
theorem dX1_force_27 : decode cX1_force 27 = .ok (.goto 4, 3) := by decide +kernel
theorem dX1_force_30 : decode cX1_force 30 = .ok (.lconst 0, 1) := by decide +kernel
theorem dX1_force_31 : decode cX1_force 31 = .ok (.lreturn, 1) := by decide +kernel
theorem dX1_turnNose_0 : decode cX1_turnNose 0 = .ok (.aload_n 0, 1) := by decide +kernel
theorem dX1_turnNose_1 : decode cX1_turnNose 1 = .ok (.getfield 63, 3) := by decide +kernel
theorem dX1_turnNose_4 : decode cX1_turnNose 4 = .ok (.i2l, 1) := by decide +kernel
theorem dX1_turnNose_5 : decode cX1_turnNose 5 = .ok (.lload_n 1, 1) := by decide +kernel
theorem dX1_turnNose_6 : decode cX1_turnNose 6 = .ok (.ladd, 1) := by decide +kernel
theorem dX1_turnNose_7 : decode cX1_turnNose 7 = .ok (.lstore_n 3, 1) := by decide +kernel
theorem dX1_turnNose_8 : decode cX1_turnNose 8 = .ok (.lload_n 3, 1) := by decide +kernel
theorem dX1_turnNose_9 : decode cX1_turnNose 9 = .ok (.lload_n 3, 1) := by decide +kernel
theorem dX1_turnNose_10 : decode cX1_turnNose 10 = .ok (.aload_n 0, 1) := by decide +kernel
theorem dX1_turnNose_11 : decode cX1_turnNose 11 = .ok (.getfield 9, 3) := by decide +kernel
theorem dX1_turnNose_14 : decode cX1_turnNose 14 = .ok (.getfield 34, 3) := by decide +kernel
theorem dX1_turnNose_17 : decode cX1_turnNose 17 = .ok (.bipush 21, 2) := by decide +kernel
theorem dX1_turnNose_19 : decode cX1_turnNose 19 = .ok (.iaload, 1) := by decide +kernel
theorem dX1_turnNose_20 : decode cX1_turnNose 20 = .ok (.i2l, 1) := by decide +kernel
theorem dX1_turnNose_21 : decode cX1_turnNose 21 = .ok (.lmul, 1) := by decide +kernel
theorem dX1_turnNose_22 : decode cX1_turnNose 22 = .ok (.ldc2_w 137, 3) := by decide +kernel
theorem dX1_turnNose_25 : decode cX1_turnNose 25 = .ok (.ldiv, 1) := by decide +kernel
theorem dX1_turnNose_26 : decode cX1_turnNose 26 = .ok (.lsub, 1) := by decide +kernel
theorem dX1_turnNose_27 : decode cX1_turnNose 27 = .ok (.lstore_n 3, 1) := by decide +kernel
theorem dX1_turnNose_28 : decode cX1_turnNose 28 = .ok (.aload_n 0, 1) := by decide +kernel
theorem dX1_turnNose_29 : decode cX1_turnNose 29 = .ok (.lload_n 3, 1) := by decide +kernel
theorem dX1_turnNose_30 : decode cX1_turnNose 30 = .ok (.sipush 200, 3) := by decide +kernel
theorem dX1_turnNose_33 : decode cX1_turnNose 33 = .ok (.invokestatic 120, 3) := by decide +kernel
theorem dX1_turnNose_36 : decode cX1_turnNose 36 = .ok (.putfield 63, 3) := by decide +kernel
theorem dX1_turnNose_39 : decode cX1_turnNose 39 = .ok (.aload_n 0, 1) := by decide +kernel
theorem dX1_turnNose_40 : decode cX1_turnNose 40 = .ok (.aload_n 0, 1) := by decide +kernel
theorem dX1_turnNose_41 : decode cX1_turnNose 41 = .ok (.getfield 60, 3) := by decide +kernel
theorem dX1_turnNose_44 : decode cX1_turnNose 44 = .ok (.aload_n 0, 1) := by decide +kernel
theorem dX1_turnNose_45 : decode cX1_turnNose 45 = .ok (.getfield 63, 3) := by decide +kernel
theorem dX1_turnNose_48 : decode cX1_turnNose 48 = .ok (.iadd, 1) := by decide +kernel
theorem dX1_turnNose_49 : decode cX1_turnNose 49 = .ok (.sipush 1023, 3) := by decide +kernel
theorem dX1_turnNose_52 : decode cX1_turnNose 52 = .ok (.iand, 1) := by decide +kernel
theorem dX1_turnNose_53 : decode cX1_turnNose 53 = .ok (.putfield 60, 3) := by decide +kernel
theorem dX1_turnNose_56 : decode cX1_turnNose 56 = .ok (.aload_n 0, 1) := by decide +kernel
theorem dX1_turnNose_57 : decode cX1_turnNose 57 = .ok (.dup, 1) := by decide +kernel
theorem dX1_turnNose_58 : decode cX1_turnNose 58 = .ok (.getfield 75, 3) := by decide +kernel
theorem dX1_turnNose_61 : decode cX1_turnNose 61 = .ok (.aload_n 0, 1) := by decide +kernel
theorem dX1_turnNose_62 : decode cX1_turnNose 62 = .ok (.getfield 63, 3) := by decide +kernel
theorem dX1_turnNose_65 : decode cX1_turnNose 65 = .ok (.iadd, 1) := by decide +kernel
theorem dX1_turnNose_66 : decode cX1_turnNose 66 = .ok (.putfield 75, 3) := by decide +kernel
theorem dX1_turnNose_69 : decode cX1_turnNose 69 = .ok (.aload_n 0, 1) := by decide +kernel
theorem dX1_turnNose_70 : decode cX1_turnNose 70 = .ok (.getfield 63, 3) := by decide +kernel
theorem dX1_turnNose_73 : decode cX1_turnNose 73 = .ok (.bipush (-2), 2) := by decide +kernel
theorem dX1_turnNose_75 : decode cX1_turnNose 75 = .ok (.if_icmp .lt 11, 3) := by decide +kernel
theorem dX1_turnNose_78 : decode cX1_turnNose 78 = .ok (.aload_n 0, 1) := by decide +kernel
theorem dX1_turnNose_79 : decode cX1_turnNose 79 = .ok (.getfield 63, 3) := by decide +kernel
theorem dX1_turnNose_82 : decode cX1_turnNose 82 = .ok (.iconst 2, 1) := by decide +kernel
theorem dX1_turnNose_83 : decode cX1_turnNose 83 = .ok (.if_icmp .le 11, 3) := by decide +kernel
theorem dX1_turnNose_86 : decode cX1_turnNose 86 = .ok (.aload_n 0, 1) := by decide +kernel
theorem dX1_turnNose_87 : decode cX1_turnNose 87 = .ok (.aload_n 0, 1) := by decide +kernel
theorem dX1_turnNose_88 : decode cX1_turnNose 88 = .ok (.getfield 69, 3) := by decide +kernel
theorem dX1_turnNose_91 : decode cX1_turnNose 91 = .ok (.putfield 78, 3) := by decide +kernel
theorem dX1_turnNose_94 : decode cX1_turnNose 94 = .ok (.return_, 1) := by decide +kernel
theorem dX1_pullNow_0 : decode cX1_pullNow 0 = .ok (.aload_n 0, 1) := by decide +kernel
theorem dX1_pullNow_1 : decode cX1_pullNow 1 = .ok (.getfield 9, 3) := by decide +kernel
theorem dX1_pullNow_4 : decode cX1_pullNow 4 = .ok (.getfield 34, 3) := by decide +kernel
theorem dX1_pullNow_7 : decode cX1_pullNow 7 = .ok (.bipush 18, 2) := by decide +kernel
theorem dX1_pullNow_9 : decode cX1_pullNow 9 = .ok (.iaload, 1) := by decide +kernel
theorem dX1_pullNow_10 : decode cX1_pullNow 10 = .ok (.istore_n 1, 1) := by decide +kernel
theorem dX1_pullNow_11 : decode cX1_pullNow 11 = .ok (.iconst 0, 1) := by decide +kernel
theorem dX1_pullNow_12 : decode cX1_pullNow 12 = .ok (.istore_n 2, 1) := by decide +kernel
theorem dX1_pullNow_13 : decode cX1_pullNow 13 = .ok (.iload_n 2, 1) := by decide +kernel
theorem dX1_pullNow_14 : decode cX1_pullNow 14 = .ok (.aload_n 0, 1) := by decide +kernel
theorem dX1_pullNow_15 : decode cX1_pullNow 15 = .ok (.getfield 9, 3) := by decide +kernel
theorem dX1_pullNow_18 : decode cX1_pullNow 18 = .ok (.getfield 139, 3) := by decide +kernel
theorem dX1_pullNow_21 : decode cX1_pullNow 21 = .ok (.getfield 143, 3) := by decide +kernel
theorem dX1_pullNow_24 : decode cX1_pullNow 24 = .ok (.if_icmp .ge 62, 3) := by decide +kernel
theorem dX1_pullNow_27 : decode cX1_pullNow 27 = .ok (.aload_n 0, 1) := by decide +kernel
theorem dX1_pullNow_28 : decode cX1_pullNow 28 = .ok (.getfield 9, 3) := by decide +kernel
theorem dX1_pullNow_31 : decode cX1_pullNow 31 = .ok (.getfield 139, 3) := by decide +kernel
theorem dX1_pullNow_34 : decode cX1_pullNow 34 = .ok (.iload_n 2, 1) := by decide +kernel
theorem dX1_pullNow_35 : decode cX1_pullNow 35 = .ok (.iconst 0, 1) := by decide +kernel
theorem dX1_pullNow_36 : decode cX1_pullNow 36 = .ok (.invokevirtual 148, 3) := by decide +kernel
theorem dX1_pullNow_39 : decode cX1_pullNow 39 = .ok (.aload_n 0, 1) := by decide +kernel
theorem dX1_pullNow_40 : decode cX1_pullNow 40 = .ok (.getfield 69, 3) := by decide +kernel
theorem dX1_pullNow_43 : decode cX1_pullNow 43 = .ok (.if_icmp .gt 37, 3) := by decide +kernel
theorem dX1_pullNow_46 : decode cX1_pullNow 46 = .ok (.aload_n 0, 1) := by decide +kernel
theorem dX1_pullNow_47 : decode cX1_pullNow 47 = .ok (.getfield 69, 3) := by decide +kernel
theorem dX1_pullNow_50 : decode cX1_pullNow 50 = .ok (.aload_n 0, 1) := by decide +kernel
theorem dX1_pullNow_51 : decode cX1_pullNow 51 = .ok (.getfield 9, 3) := by decide +kernel
theorem dX1_pullNow_54 : decode cX1_pullNow 54 = .ok (.getfield 139, 3) := by decide +kernel
theorem dX1_pullNow_57 : decode cX1_pullNow 57 = .ok (.iload_n 2, 1) := by decide +kernel
theorem dX1_pullNow_58 : decode cX1_pullNow 58 = .ok (.iconst 1, 1) := by decide +kernel
theorem dX1_pullNow_59 : decode cX1_pullNow 59 = .ok (.invokevirtual 148, 3) := by decide +kernel
theorem dX1_pullNow_62 : decode cX1_pullNow 62 = .ok (.if_icmp .gt 18, 3) := by decide +kernel
theorem dX1_pullNow_65 : decode cX1_pullNow 65 = .ok (.iload_n 1, 1) := by decide +kernel
theorem dX1_pullNow_66 : decode cX1_pullNow 66 = .ok (.aload_n 0, 1) := by decide +kernel
theorem dX1_pullNow_67 : decode cX1_pullNow 67 = .ok (.getfield 9, 3) := by decide +kernel
theorem dX1_pullNow_70 : decode cX1_pullNow 70 = .ok (.getfield 139, 3) := by decide +kernel
theorem dX1_pullNow_73 : decode cX1_pullNow 73 = .ok (.iload_n 2, 1) := by decide +kernel
theorem dX1_pullNow_74 : decode cX1_pullNow 74 = .ok (.iconst 2, 1) := by decide +kernel
theorem dX1_pullNow_75 : decode cX1_pullNow 75 = .ok (.invokevirtual 148, 3) := by decide +kernel
theorem dX1_pullNow_78 : decode cX1_pullNow 78 = .ok (.isub, 1) := by decide +kernel
theorem dX1_pullNow_79 : decode cX1_pullNow 79 = .ok (.istore_n 1, 1) := by decide +kernel
theorem dX1_pullNow_80 : decode cX1_pullNow 80 = .ok (.iinc 2 1, 3) := by decide +kernel
theorem dX1_pullNow_83 : decode cX1_pullNow 83 = .ok (.goto (-70), 3) := by decide +kernel
theorem dX1_pullNow_86 : decode cX1_pullNow 86 = .ok (.iload_n 1, 1) := by decide +kernel
theorem dX1_pullNow_87 : decode cX1_pullNow 87 = .ok (.ireturn, 1) := by decide +kernel
theorem dX1_move_0 : decode cX1_move 0 = .ok (.aload_n 0, 1) := by decide +kernel
theorem dX1_move_1 : decode cX1_move 1 = .ok (.aload_n 0, 1) := by decide +kernel
theorem dX1_move_2 : decode cX1_move 2 = .ok (.getfield 42, 3) := by decide +kernel
theorem dX1_move_5 : decode cX1_move 5 = .ok (.putfield 66, 3) := by decide +kernel
theorem dX1_move_8 : decode cX1_move 8 = .ok (.aload_n 0, 1) := by decide +kernel
theorem dX1_move_9 : decode cX1_move 9 = .ok (.dup, 1) := by decide +kernel
theorem dX1_move_10 : decode cX1_move 10 = .ok (.getfield 42, 3) := by decide +kernel
theorem dX1_move_13 : decode cX1_move 13 = .ok (.aload_n 0, 1) := by decide +kernel
theorem dX1_move_14 : decode cX1_move 14 = .ok (.getfield 51, 3) := by decide +kernel
theorem dX1_move_17 : decode cX1_move 17 = .ok (.iadd, 1) := by decide +kernel
theorem dX1_move_18 : decode cX1_move 18 = .ok (.putfield 42, 3) := by decide +kernel
theorem dX1_move_21 : decode cX1_move 21 = .ok (.aload_n 0, 1) := by decide +kernel
theorem dX1_move_22 : decode cX1_move 22 = .ok (.dup, 1) := by decide +kernel
theorem dX1_move_23 : decode cX1_move 23 = .ok (.getfield 45, 3) := by decide +kernel
theorem dX1_move_26 : decode cX1_move 26 = .ok (.aload_n 0, 1) := by decide +kernel
theorem dX1_move_27 : decode cX1_move 27 = .ok (.getfield 57, 3) := by decide +kernel
theorem dX1_move_30 : decode cX1_move 30 = .ok (.iadd, 1) := by decide +kernel
theorem dX1_move_31 : decode cX1_move 31 = .ok (.putfield 45, 3) := by decide +kernel
theorem dX1_move_34 : decode cX1_move 34 = .ok (.aload_n 0, 1) := by decide +kernel
theorem dX1_move_35 : decode cX1_move 35 = .ok (.getfield 9, 3) := by decide +kernel
theorem dX1_move_38 : decode cX1_move 38 = .ok (.getfield 34, 3) := by decide +kernel
theorem dX1_move_41 : decode cX1_move 41 = .ok (.bipush 22, 2) := by decide +kernel
theorem dX1_move_43 : decode cX1_move 43 = .ok (.iaload, 1) := by decide +kernel
theorem dX1_move_44 : decode cX1_move 44 = .ok (.istore_n 1, 1) := by decide +kernel
theorem dX1_move_45 : decode cX1_move 45 = .ok (.iload_n 1, 1) := by decide +kernel
theorem dX1_move_46 : decode cX1_move 46 = .ok (.iconst (-1), 1) := by decide +kernel
theorem dX1_move_47 : decode cX1_move 47 = .ok (.if_icmp .eq 33, 3) := by decide +kernel
theorem dX1_move_50 : decode cX1_move 50 = .ok (.aload_n 0, 1) := by decide +kernel
theorem dX1_move_51 : decode cX1_move 51 = .ok (.getfield 45, 3) := by decide +kernel
theorem dX1_move_54 : decode cX1_move 54 = .ok (.bipush 100, 2) := by decide +kernel
theorem dX1_move_56 : decode cX1_move 56 = .ok (.iload_n 1, 1) := by decide +kernel
theorem dX1_move_57 : decode cX1_move 57 = .ok (.imul, 1) := by decide +kernel
theorem dX1_move_58 : decode cX1_move 58 = .ok (.if_icmp .le 22, 3) := by decide +kernel
theorem dX1_move_61 : decode cX1_move 61 = .ok (.aload_n 0, 1) := by decide +kernel
theorem dX1_move_62 : decode cX1_move 62 = .ok (.bipush 100, 2) := by decide +kernel
theorem dX1_move_64 : decode cX1_move 64 = .ok (.iload_n 1, 1) := by decide +kernel
theorem dX1_move_65 : decode cX1_move 65 = .ok (.imul, 1) := by decide +kernel
theorem dX1_move_66 : decode cX1_move 66 = .ok (.putfield 45, 3) := by decide +kernel
theorem dX1_move_69 : decode cX1_move 69 = .ok (.aload_n 0, 1) := by decide +kernel
theorem dX1_move_70 : decode cX1_move 70 = .ok (.aload_n 0, 1) := by decide +kernel
theorem dX1_move_71 : decode cX1_move 71 = .ok (.getfield 57, 3) := by decide +kernel
theorem dX1_move_74 : decode cX1_move 74 = .ok (.ineg, 1) := by decide +kernel
theorem dX1_move_75 : decode cX1_move 75 = .ok (.iconst 2, 1) := by decide +kernel
theorem dX1_move_76 : decode cX1_move 76 = .ok (.idiv, 1) := by decide +kernel
theorem dX1_move_77 : decode cX1_move 77 = .ok (.putfield 57, 3) := by decide +kernel
theorem dX1_move_80 : decode cX1_move 80 = .ok (.aload_n 0, 1) := by decide +kernel
theorem dX1_move_81 : decode cX1_move 81 = .ok (.aload_n 0, 1) := by decide +kernel
theorem dX1_move_82 : decode cX1_move 82 = .ok (.getfield 72, 3) := by decide +kernel
theorem dX1_move_85 : decode cX1_move 85 = .ok (.aload_n 0, 1) := by decide +kernel
theorem dX1_move_86 : decode cX1_move 86 = .ok (.getfield 45, 3) := by decide +kernel
theorem dX1_move_89 : decode cX1_move 89 = .ok (.invokestatic 151, 3) := by decide +kernel
theorem dX1_move_92 : decode cX1_move 92 = .ok (.putfield 72, 3) := by decide +kernel
theorem dX1_move_95 : decode cX1_move 95 = .ok (.return_, 1) := by decide +kernel
theorem dX1_noteEnd_0 : decode cX1_noteEnd 0 = .ok (.iconst (-1), 1) := by decide +kernel
theorem dX1_noteEnd_1 : decode cX1_noteEnd 1 = .ok (.istore_n 1, 1) := by decide +kernel
theorem dX1_noteEnd_2 : decode cX1_noteEnd 2 = .ok (.iconst 0, 1) := by decide +kernel
theorem dX1_noteEnd_3 : decode cX1_noteEnd 3 = .ok (.istore_n 2, 1) := by decide +kernel
theorem dX1_noteEnd_4 : decode cX1_noteEnd 4 = .ok (.iload_n 2, 1) := by decide +kernel
theorem dX1_noteEnd_5 : decode cX1_noteEnd 5 = .ok (.aload_n 0, 1) := by decide +kernel
theorem dX1_noteEnd_6 : decode cX1_noteEnd 6 = .ok (.getfield 9, 3) := by decide +kernel
theorem dX1_noteEnd_9 : decode cX1_noteEnd 9 = .ok (.getfield 154, 3) := by decide +kernel
theorem dX1_noteEnd_12 : decode cX1_noteEnd 12 = .ok (.getfield 143, 3) := by decide +kernel
theorem dX1_noteEnd_15 : decode cX1_noteEnd 15 = .ok (.if_icmp .ge 69, 3) := by decide +kernel
theorem dX1_noteEnd_18 : decode cX1_noteEnd 18 = .ok (.aload_n 0, 1) := by decide +kernel
theorem dX1_noteEnd_19 : decode cX1_noteEnd 19 = .ok (.getfield 9, 3) := by decide +kernel
theorem dX1_noteEnd_22 : decode cX1_noteEnd 22 = .ok (.getfield 154, 3) := by decide +kernel
theorem dX1_noteEnd_25 : decode cX1_noteEnd 25 = .ok (.iload_n 2, 1) := by decide +kernel
theorem dX1_noteEnd_26 : decode cX1_noteEnd 26 = .ok (.iconst 0, 1) := by decide +kernel
theorem dX1_noteEnd_27 : decode cX1_noteEnd 27 = .ok (.invokevirtual 148, 3) := by decide +kernel
theorem dX1_noteEnd_30 : decode cX1_noteEnd 30 = .ok (.istore_n 3, 1) := by decide +kernel
theorem dX1_noteEnd_31 : decode cX1_noteEnd 31 = .ok (.aload_n 0, 1) := by decide +kernel
theorem dX1_noteEnd_32 : decode cX1_noteEnd 32 = .ok (.getfield 66, 3) := by decide +kernel
theorem dX1_noteEnd_35 : decode cX1_noteEnd 35 = .ok (.iload_n 3, 1) := by decide +kernel
theorem dX1_noteEnd_36 : decode cX1_noteEnd 36 = .ok (.if_icmp .ge 42, 3) := by decide +kernel
theorem dX1_noteEnd_39 : decode cX1_noteEnd 39 = .ok (.aload_n 0, 1) := by decide +kernel
theorem dX1_noteEnd_40 : decode cX1_noteEnd 40 = .ok (.getfield 42, 3) := by decide +kernel
theorem dX1_noteEnd_43 : decode cX1_noteEnd 43 = .ok (.iload_n 3, 1) := by decide +kernel
theorem dX1_noteEnd_44 : decode cX1_noteEnd 44 = .ok (.if_icmp .lt 34, 3) := by decide +kernel
theorem dX1_noteEnd_47 : decode cX1_noteEnd 47 = .ok (.aload_n 0, 1) := by decide +kernel
theorem dX1_noteEnd_48 : decode cX1_noteEnd 48 = .ok (.getfield 45, 3) := by decide +kernel
theorem dX1_noteEnd_51 : decode cX1_noteEnd 51 = .ok (.aload_n 0, 1) := by decide +kernel
theorem dX1_noteEnd_52 : decode cX1_noteEnd 52 = .ok (.getfield 9, 3) := by decide +kernel
theorem dX1_noteEnd_55 : decode cX1_noteEnd 55 = .ok (.getfield 154, 3) := by decide +kernel
theorem dX1_noteEnd_58 : decode cX1_noteEnd 58 = .ok (.iload_n 2, 1) := by decide +kernel
theorem dX1_noteEnd_59 : decode cX1_noteEnd 59 = .ok (.iconst 1, 1) := by decide +kernel
theorem dX1_noteEnd_60 : decode cX1_noteEnd 60 = .ok (.invokevirtual 148, 3) := by decide +kernel
theorem dX1_noteEnd_63 : decode cX1_noteEnd 63 = .ok (.if_icmp .gt 15, 3) := by decide +kernel
theorem dX1_noteEnd_66 : decode cX1_noteEnd 66 = .ok (.iload_n 1, 1) := by decide +kernel
theorem dX1_noteEnd_67 : decode cX1_noteEnd 67 = .ok (.iconst (-1), 1) := by decide +kernel
theorem dX1_noteEnd_68 : decode cX1_noteEnd 68 = .ok (.if_icmp .eq 8, 3) := by decide +kernel
theorem dX1_noteEnd_71 : decode cX1_noteEnd 71 = .ok (.iload_n 3, 1) := by decide +kernel
theorem dX1_noteEnd_72 : decode cX1_noteEnd 72 = .ok (.iload_n 1, 1) := by decide +kernel
theorem dX1_noteEnd_73 : decode cX1_noteEnd 73 = .ok (.if_icmp .ge 5, 3) := by decide +kernel
theorem dX1_noteEnd_76 : decode cX1_noteEnd 76 = .ok (.iload_n 3, 1) := by decide +kernel
theorem dX1_noteEnd_77 : decode cX1_noteEnd 77 = .ok (.istore_n 1, 1) := by decide +kernel
theorem dX1_noteEnd_78 : decode cX1_noteEnd 78 = .ok (.iinc 2 1, 3) := by decide +kernel
theorem dX1_noteEnd_81 : decode cX1_noteEnd 81 = .ok (.goto (-77), 3) := by decide +kernel
theorem dX1_noteEnd_84 : decode cX1_noteEnd 84 = .ok (.iload_n 1, 1) := by decide +kernel
theorem dX1_noteEnd_85 : decode cX1_noteEnd 85 = .ok (.iconst (-1), 1) := by decide +kernel
theorem dX1_noteEnd_86 : decode cX1_noteEnd 86 = .ok (.if_icmp .eq 16, 3) := by decide +kernel
theorem dX1_noteEnd_89 : decode cX1_noteEnd 89 = .ok (.aload_n 0, 1) := by decide +kernel
theorem dX1_noteEnd_90 : decode cX1_noteEnd 90 = .ok (.iload_n 1, 1) := by decide +kernel
theorem dX1_noteEnd_91 : decode cX1_noteEnd 91 = .ok (.putfield 42, 3) := by decide +kernel
theorem dX1_noteEnd_94 : decode cX1_noteEnd 94 = .ok (.aload_n 0, 1) := by decide +kernel
theorem dX1_noteEnd_95 : decode cX1_noteEnd 95 = .ok (.iconst 2, 1) := by decide +kernel
theorem dX1_noteEnd_96 : decode cX1_noteEnd 96 = .ok (.putfield 81, 3) := by decide +kernel
theorem dX1_noteEnd_99 : decode cX1_noteEnd 99 = .ok (.goto 15, 3) := by decide +kernel
theorem dX1_noteEnd_102 : decode cX1_noteEnd 102 = .ok (.aload_n 0, 1) := by decide +kernel
theorem dX1_noteEnd_103 : decode cX1_noteEnd 103 = .ok (.getfield 45, 3) := by decide +kernel
theorem dX1_noteEnd_106 : decode cX1_noteEnd 106 = .ok (.ifCond .gt 8, 3) := by decide +kernel
theorem dX1_noteEnd_109 : decode cX1_noteEnd 109 = .ok (.aload_n 0, 1) := by decide +kernel
theorem dX1_noteEnd_110 : decode cX1_noteEnd 110 = .ok (.iconst 1, 1) := by decide +kernel
theorem dX1_noteEnd_111 : decode cX1_noteEnd 111 = .ok (.putfield 81, 3) := by decide +kernel
theorem dX1_noteEnd_114 : decode cX1_noteEnd 114 = .ok (.return_, 1) := by decide +kernel
theorem dX1_loops_0 : decode cX1_loops 0 = .ok (.aload_n 0, 1) := by decide +kernel
theorem dX1_loops_1 : decode cX1_loops 1 = .ok (.getfield 75, 3) := by decide +kernel
theorem dX1_loops_4 : decode cX1_loops 4 = .ok (.invokestatic 102, 3) := by decide +kernel
theorem dX1_loops_7 : decode cX1_loops 7 = .ok (.sipush 1024, 3) := by decide +kernel
theorem dX1_loops_10 : decode cX1_loops 10 = .ok (.idiv, 1) := by decide +kernel
theorem dX1_loops_11 : decode cX1_loops 11 = .ok (.ireturn, 1) := by decide +kernel
theorem dX1_evenFrom_0 : decode cX1_evenFrom 0 = .ok (.aload_n 0, 1) := by decide +kernel
theorem dX1_evenFrom_1 : decode cX1_evenFrom 1 = .ok (.getfield 69, 3) := by decide +kernel
theorem dX1_evenFrom_4 : decode cX1_evenFrom 4 = .ok (.aload_n 0, 1) := by decide +kernel
theorem dX1_evenFrom_5 : decode cX1_evenFrom 5 = .ok (.getfield 78, 3) := by decide +kernel
theorem dX1_evenFrom_8 : decode cX1_evenFrom 8 = .ok (.isub, 1) := by decide +kernel
theorem dX1_evenFrom_9 : decode cX1_evenFrom 9 = .ok (.bipush 20, 2) := by decide +kernel
theorem dX1_evenFrom_11 : decode cX1_evenFrom 11 = .ok (.if_icmp .lt 12, 3) := by decide +kernel
theorem dX1_evenFrom_14 : decode cX1_evenFrom 14 = .ok (.aload_n 0, 1) := by decide +kernel
theorem dX1_evenFrom_15 : decode cX1_evenFrom 15 = .ok (.getfield 78, 3) := by decide +kernel
theorem dX1_evenFrom_18 : decode cX1_evenFrom 18 = .ok (.iconst 1, 1) := by decide +kernel
theorem dX1_evenFrom_19 : decode cX1_evenFrom 19 = .ok (.iadd, 1) := by decide +kernel
theorem dX1_evenFrom_20 : decode cX1_evenFrom 20 = .ok (.goto 4, 3) := by decide +kernel
theorem dX1_evenFrom_23 : decode cX1_evenFrom 23 = .ok (.iconst (-1), 1) := by decide +kernel
theorem dX1_evenFrom_24 : decode cX1_evenFrom 24 = .ok (.ireturn, 1) := by decide +kernel
