theorem dX8_folds_32 : decode cX8_folds 32 = .ok (.getfield 205, 3) := by decide +kernel
theorem dX8_folds_35 : decode cX8_folds 35 = .ok (.invokestatic 211, 3) := by decide +kernel
theorem dX8_folds_38 : decode cX8_folds 38 = .ok (.istore_n 3, 1) := by decide +kernel
theorem dX8_folds_39 : decode cX8_folds 39 = .ok (.iload_n 2, 1) := by decide +kernel
theorem dX8_folds_40 : decode cX8_folds 40 = .ok (.i2l, 1) := by decide +kernel
theorem dX8_folds_41 : decode cX8_folds 41 = .ok (.iload_n 1, 1) := by decide +kernel
theorem dX8_folds_42 : decode cX8_folds 42 = .ok (.iconst 2, 1) := by decide +kernel
theorem dX8_folds_43 : decode cX8_folds 43 = .ok (.if_icmp .ne 9, 3) := by decide +kernel
theorem dX8_folds_46 : decode cX8_folds 46 = .ok (.ldc2_w 216, 3) := by decide +kernel
theorem dX8_folds_49 : decode cX8_folds 49 = .ok (.goto 4, 3) := by decide +kernel
theorem dX8_folds_52 : decode cX8_folds 52 = .ok (.lconst 1, 1) := by decide +kernel
theorem dX8_folds_53 : decode cX8_folds 53 = .ok (.iload_n 3, 1) := by decide +kernel
theorem dX8_folds_54 : decode cX8_folds 54 = .ok (.i2l, 1) := by decide +kernel
theorem dX8_folds_55 : decode cX8_folds 55 = .ok (.invokestatic 67, 3) := by decide +kernel
theorem dX8_folds_58 : decode cX8_folds 58 = .ok (.ifCond .ne 5, 3) := by decide +kernel
theorem dX8_folds_61 : decode cX8_folds 61 = .ok (.iconst 0, 1) := by decide +kernel
theorem dX8_folds_62 : decode cX8_folds 62 = .ok (.ireturn, 1) := by decide +kernel
theorem dX8_folds_63 : decode cX8_folds 63 = .ok (.iload_n 1, 1) := by decide +kernel
theorem dX8_folds_64 : decode cX8_folds 64 = .ok (.ifCond .ne 11, 3) := by decide +kernel
theorem dX8_folds_67 : decode cX8_folds 67 = .ok (.aload_n 0, 1) := by decide +kernel
theorem dX8_folds_68 : decode cX8_folds 68 = .ok (.iload_n 2, 1) := by decide +kernel
theorem dX8_folds_69 : decode cX8_folds 69 = .ok (.invokevirtual 218, 3) := by decide +kernel
theorem dX8_folds_72 : decode cX8_folds 72 = .ok (.goto 21, 3) := by decide +kernel
theorem dX8_folds_75 : decode cX8_folds 75 = .ok (.iload_n 1, 1) := by decide +kernel
theorem dX8_folds_76 : decode cX8_folds 76 = .ok (.iconst 1, 1) := by decide +kernel
theorem dX8_folds_77 : decode cX8_folds 77 = .ok (.if_icmp .ne 11, 3) := by decide +kernel
theorem dX8_folds_80 : decode cX8_folds 80 = .ok (.aload_n 0, 1) := by decide +kernel
theorem dX8_folds_81 : decode cX8_folds 81 = .ok (.iload_n 2, 1) := by decide +kernel
theorem dX8_folds_82 : decode cX8_folds 82 = .ok (.invokevirtual 220, 3) := by decide +kernel
theorem dX8_folds_85 : decode cX8_folds 85 = .ok (.goto 8, 3) := by decide +kernel
theorem dX8_folds_88 : decode cX8_folds 88 = .ok (.aload_n 0, 1) := by decide +kernel
theorem dX8_folds_89 : decode cX8_folds 89 = .ok (.iload_n 2, 1) := by decide +kernel
theorem dX8_folds_90 : decode cX8_folds 90 = .ok (.invokevirtual 222, 3) := by decide +kernel
theorem dX8_folds_93 : decode cX8_folds 93 = .ok (.aload_n 0, 1) := by decide +kernel
theorem dX8_folds_94 : decode cX8_folds 94 = .ok (.invokevirtual 224, 3) := by decide +kernel
theorem dX8_folds_97 : decode cX8_folds 97 = .ok (.iconst 0, 1) := by decide +kernel
theorem dX8_folds_98 : decode cX8_folds 98 = .ok (.istore 4, 2) := by decide +kernel
theorem dX8_folds_100 : decode cX8_folds 100 = .ok (.iload 4, 2) := by decide +kernel
theorem dX8_folds_102 : decode cX8_folds 102 = .ok (.aload_n 0, 1) := by decide +kernel
theorem dX8_folds_103 : decode cX8_folds 103 = .ok (.getfield 39, 3) := by decide +kernel
theorem dX8_folds_106 : decode cX8_folds 106 = .ok (.arraylength, 1) := by decide +kernel
theorem dX8_folds_107 : decode cX8_folds 107 = .ok (.if_icmp .ge 23, 3) := by decide +kernel
theorem dX8_folds_110 : decode cX8_folds 110 = .ok (.aload_n 0, 1) := by decide +kernel
theorem dX8_folds_111 : decode cX8_folds 111 = .ok (.getfield 39, 3) := by decide +kernel
theorem dX8_folds_114 : decode cX8_folds 114 = .ok (.iload 4, 2) := by decide +kernel
theorem dX8_folds_116 : decode cX8_folds 116 = .ok (.iaload, 1) := by decide +kernel
theorem dX8_folds_117 : decode cX8_folds 117 = .ok (.bipush 32, 2) := by decide +kernel
theorem dX8_folds_119 : decode cX8_folds 119 = .ok (.if_icmp .le 5, 3) := by decide +kernel
theorem dX8_folds_122 : decode cX8_folds 122 = .ok (.iconst 0, 1) := by decide +kernel
theorem dX8_folds_123 : decode cX8_folds 123 = .ok (.ireturn, 1) := by decide +kernel
theorem dX8_folds_124 : decode cX8_folds 124 = .ok (.iinc 4 1, 3) := by decide +kernel
theorem dX8_folds_127 : decode cX8_folds 127 = .ok (.goto (-27), 3) := by decide +kernel
theorem dX8_folds_130 : decode cX8_folds 130 = .ok (.iconst 1, 1) := by decide +kernel
theorem dX8_folds_131 : decode cX8_folds 131 = .ok (.ireturn, 1) := by decide +kernel
theorem dX8_count_0 : decode cX8_count 0 = .ok (.iconst 0, 1) := by decide +kernel
theorem dX8_count_1 : decode cX8_count 1 = .ok (.istore_n 1, 1) := by decide +kernel
theorem dX8_count_2 : decode cX8_count 2 = .ok (.iload_n 1, 1) := by decide +kernel
theorem dX8_count_3 : decode cX8_count 3 = .ok (.aload_n 0, 1) := by decide +kernel
theorem dX8_count_4 : decode cX8_count 4 = .ok (.getfield 39, 3) := by decide +kernel
theorem dX8_count_7 : decode cX8_count 7 = .ok (.arraylength, 1) := by decide +kernel
theorem dX8_count_8 : decode cX8_count 8 = .ok (.if_icmp .ge 16, 3) := by decide +kernel
theorem dX8_count_11 : decode cX8_count 11 = .ok (.aload_n 0, 1) := by decide +kernel
theorem dX8_count_12 : decode cX8_count 12 = .ok (.getfield 39, 3) := by decide +kernel
theorem dX8_count_15 : decode cX8_count 15 = .ok (.iload_n 1, 1) := by decide +kernel
theorem dX8_count_16 : decode cX8_count 16 = .ok (.iconst 0, 1) := by decide +kernel
theorem dX8_count_17 : decode cX8_count 17 = .ok (.iastore, 1) := by decide +kernel
theorem dX8_count_18 : decode cX8_count 18 = .ok (.iinc 1 1, 3) := by decide +kernel
theorem dX8_count_21 : decode cX8_count 21 = .ok (.goto (-19), 3) := by decide +kernel
theorem dX8_count_24 : decode cX8_count 24 = .ok (.iconst 0, 1) := by decide +kernel
theorem dX8_count_25 : decode cX8_count 25 = .ok (.istore_n 1, 1) := by decide +kernel
theorem dX8_count_26 : decode cX8_count 26 = .ok (.iload_n 1, 1) := by decide +kernel
theorem dX8_count_27 : decode cX8_count 27 = .ok (.aload_n 0, 1) := by decide +kernel
theorem dX8_count_28 : decode cX8_count 28 = .ok (.getfield 208, 3) := by decide +kernel
theorem dX8_count_31 : decode cX8_count 31 = .ok (.if_icmp .ge 34, 3) := by decide +kernel
theorem dX8_count_34 : decode cX8_count 34 = .ok (.aload_n 0, 1) := by decide +kernel
theorem dX8_count_35 : decode cX8_count 35 = .ok (.getfield 39, 3) := by decide +kernel
theorem dX8_count_38 : decode cX8_count 38 = .ok (.bipush 12, 2) := by decide +kernel
theorem dX8_count_40 : decode cX8_count 40 = .ok (.aload_n 0, 1) := by decide +kernel
theorem dX8_count_41 : decode cX8_count 41 = .ok (.getfield 33, 3) := by decide +kernel
theorem dX8_count_44 : decode cX8_count 44 = .ok (.iload_n 1, 1) := by decide +kernel
theorem dX8_count_45 : decode cX8_count 45 = .ok (.iaload, 1) := by decide +kernel
theorem dX8_count_46 : decode cX8_count 46 = .ok (.imul, 1) := by decide +kernel
theorem dX8_count_47 : decode cX8_count 47 = .ok (.aload_n 0, 1) := by decide +kernel
theorem dX8_count_48 : decode cX8_count 48 = .ok (.getfield 36, 3) := by decide +kernel
theorem dX8_count_51 : decode cX8_count 51 = .ok (.iload_n 1, 1) := by decide +kernel
theorem dX8_count_52 : decode cX8_count 52 = .ok (.iaload, 1) := by decide +kernel
theorem dX8_count_53 : decode cX8_count 53 = .ok (.iadd, 1) := by decide +kernel
theorem dX8_count_54 : decode cX8_count 54 = .ok (.dup2, 1) := by decide +kernel
theorem dX8_count_55 : decode cX8_count 55 = .ok (.iaload, 1) := by decide +kernel
theorem dX8_count_56 : decode cX8_count 56 = .ok (.iconst 1, 1) := by decide +kernel
theorem dX8_count_57 : decode cX8_count 57 = .ok (.iadd, 1) := by decide +kernel
theorem dX8_count_58 : decode cX8_count 58 = .ok (.iastore, 1) := by decide +kernel
theorem dX8_count_59 : decode cX8_count 59 = .ok (.iinc 1 1, 3) := by decide +kernel
theorem dX8_count_62 : decode cX8_count 62 = .ok (.goto (-36), 3) := by decide +kernel
theorem dX8_count_65 : decode cX8_count 65 = .ok (.return_, 1) := by decide +kernel
theorem dX8_measure_0 : decode cX8_measure 0 = .ok (.aload_n 0, 1) := by decide +kernel
theorem dX8_measure_1 : decode cX8_measure 1 = .ok (.invokevirtual 224, 3) := by decide +kernel
theorem dX8_measure_4 : decode cX8_measure 4 = .ok (.aload_n 0, 1) := by decide +kernel
theorem dX8_measure_5 : decode cX8_measure 5 = .ok (.iconst 0, 1) := by decide +kernel
theorem dX8_measure_6 : decode cX8_measure 6 = .ok (.putfield 227, 3) := by decide +kernel
theorem dX8_measure_9 : decode cX8_measure 9 = .ok (.aload_n 0, 1) := by decide +kernel
theorem dX8_measure_10 : decode cX8_measure 10 = .ok (.aload_n 0, 1) := by decide +kernel
theorem dX8_measure_11 : decode cX8_measure 11 = .ok (.getfield 208, 3) := by decide +kernel
theorem dX8_measure_14 : decode cX8_measure 14 = .ok (.putfield 230, 3) := by decide +kernel
theorem dX8_measure_17 : decode cX8_measure 17 = .ok (.aload_n 0, 1) := by decide +kernel
theorem dX8_measure_18 : decode cX8_measure 18 = .ok (.iconst 0, 1) := by decide +kernel
theorem dX8_measure_19 : decode cX8_measure 19 = .ok (.putfield 233, 3) := by decide +kernel
theorem dX8_measure_22 : decode cX8_measure 22 = .ok (.aload_n 0, 1) := by decide +kernel
theorem dX8_measure_23 : decode cX8_measure 23 = .ok (.iconst 0, 1) := by decide +kernel
theorem dX8_measure_24 : decode cX8_measure 24 = .ok (.putfield 236, 3) := by decide +kernel
theorem dX8_measure_27 : decode cX8_measure 27 = .ok (.iconst 0, 1) := by decide +kernel
theorem dX8_measure_28 : decode cX8_measure 28 = .ok (.istore_n 1, 1) := by decide +kernel
theorem dX8_measure_29 : decode cX8_measure 29 = .ok (.iload_n 1, 1) := by decide +kernel
theorem dX8_measure_30 : decode cX8_measure 30 = .ok (.aload_n 0, 1) := by decide +kernel
theorem dX8_measure_31 : decode cX8_measure 31 = .ok (.getfield 39, 3) := by decide +kernel
theorem dX8_measure_34 : decode cX8_measure 34 = .ok (.arraylength, 1) := by decide +kernel
theorem dX8_measure_35 : decode cX8_measure 35 = .ok (.if_icmp .ge 67, 3) := by decide +kernel
theorem dX8_measure_38 : decode cX8_measure 38 = .ok (.aload_n 0, 1) := by decide +kernel
theorem dX8_measure_39 : decode cX8_measure 39 = .ok (.getfield 39, 3) := by decide +kernel
theorem dX8_measure_42 : decode cX8_measure 42 = .ok (.iload_n 1, 1) := by decide +kernel
theorem dX8_measure_43 : decode cX8_measure 43 = .ok (.iaload, 1) := by decide +kernel
theorem dX8_measure_44 : decode cX8_measure 44 = .ok (.ifCond .ne 6, 3) := by decide +kernel
theorem dX8_measure_47 : decode cX8_measure 47 = .ok (.goto 49, 3) := by decide +kernel
theorem dX8_measure_50 : decode cX8_measure 50 = .ok (.iconst 2, 1) := by decide +kernel
theorem dX8_measure_51 : decode cX8_measure 51 = .ok (.iload_n 1, 1) := by decide +kernel
theorem dX8_measure_52 : decode cX8_measure 52 = .ok (.bipush 12, 2) := by decide +kernel
theorem dX8_measure_54 : decode cX8_measure 54 = .ok (.idiv, 1) := by decide +kernel
theorem dX8_measure_55 : decode cX8_measure 55 = .ok (.imul, 1) := by decide +kernel
theorem dX8_measure_56 : decode cX8_measure 56 = .ok (.iconst 1, 1) := by decide +kernel
theorem dX8_measure_57 : decode cX8_measure 57 = .ok (.iadd, 1) := by decide +kernel
theorem dX8_measure_58 : decode cX8_measure 58 = .ok (.istore_n 2, 1) := by decide +kernel
theorem dX8_measure_59 : decode cX8_measure 59 = .ok (.aload_n 0, 1) := by decide +kernel
theorem dX8_measure_60 : decode cX8_measure 60 = .ok (.dup, 1) := by decide +kernel
theorem dX8_measure_61 : decode cX8_measure 61 = .ok (.getfield 227, 3) := by decide +kernel
theorem dX8_measure_64 : decode cX8_measure 64 = .ok (.iconst 1, 1) := by decide +kernel
theorem dX8_measure_65 : decode cX8_measure 65 = .ok (.iadd, 1) := by decide +kernel
theorem dX8_measure_66 : decode cX8_measure 66 = .ok (.putfield 227, 3) := by decide +kernel
theorem dX8_measure_69 : decode cX8_measure 69 = .ok (.aload_n 0, 1) := by decide +kernel
theorem dX8_measure_70 : decode cX8_measure 70 = .ok (.dup, 1) := by decide +kernel
theorem dX8_measure_71 : decode cX8_measure 71 = .ok (.getfield 236, 3) := by decide +kernel
theorem dX8_measure_74 : decode cX8_measure 74 = .ok (.iload_n 2, 1) := by decide +kernel
theorem dX8_measure_75 : decode cX8_measure 75 = .ok (.iadd, 1) := by decide +kernel
theorem dX8_measure_76 : decode cX8_measure 76 = .ok (.putfield 236, 3) := by decide +kernel
theorem dX8_measure_79 : decode cX8_measure 79 = .ok (.aload_n 0, 1) := by decide +kernel
theorem dX8_measure_80 : decode cX8_measure 80 = .ok (.dup, 1) := by decide +kernel
theorem dX8_measure_81 : decode cX8_measure 81 = .ok (.getfield 233, 3) := by decide +kernel
theorem dX8_measure_84 : decode cX8_measure 84 = .ok (.iload_n 2, 1) := by decide +kernel
theorem dX8_measure_85 : decode cX8_measure 85 = .ok (.aload_n 0, 1) := by decide +kernel
theorem dX8_measure_86 : decode cX8_measure 86 = .ok (.getfield 39, 3) := by decide +kernel
theorem dX8_measure_89 : decode cX8_measure 89 = .ok (.iload_n 1, 1) := by decide +kernel
theorem dX8_measure_90 : decode cX8_measure 90 = .ok (.iaload, 1) := by decide +kernel
theorem dX8_measure_91 : decode cX8_measure 91 = .ok (.imul, 1) := by decide +kernel
theorem dX8_measure_92 : decode cX8_measure 92 = .ok (.iadd, 1) := by decide +kernel
theorem dX8_measure_93 : decode cX8_measure 93 = .ok (.putfield 233, 3) := by decide +kernel
theorem dX8_measure_96 : decode cX8_measure 96 = .ok (.iinc 1 1, 3) := by decide +kernel
theorem dX8_measure_99 : decode cX8_measure 99 = .ok (.goto (-70), 3) := by decide +kernel
theorem dX8_measure_102 : decode cX8_measure 102 = .ok (.aload_n 0, 1) := by decide +kernel
theorem dX8_measure_103 : decode cX8_measure 103 = .ok (.ldc2_w 75, 3) := by decide +kernel
theorem dX8_measure_106 : decode cX8_measure 106 = .ok (.aload_n 0, 1) := by decide +kernel
theorem dX8_measure_107 : decode cX8_measure 107 = .ok (.getfield 236, 3) := by decide +kernel
theorem dX8_measure_110 : decode cX8_measure 110 = .ok (.i2l, 1) := by decide +kernel
theorem dX8_measure_111 : decode cX8_measure 111 = .ok (.aload_n 0, 1) := by decide +kernel
theorem dX8_measure_112 : decode cX8_measure 112 = .ok (.getfield 230, 3) := by decide +kernel
theorem dX8_measure_115 : decode cX8_measure 115 = .ok (.i2l, 1) := by decide +kernel
theorem dX8_measure_116 : decode cX8_measure 116 = .ok (.lmul, 1) := by decide +kernel
theorem dX8_measure_117 : decode cX8_measure 117 = .ok (.aload_n 0, 1) := by decide +kernel
theorem dX8_measure_118 : decode cX8_measure 118 = .ok (.getfield 233, 3) := by decide +kernel
theorem dX8_measure_121 : decode cX8_measure 121 = .ok (.i2l, 1) := by decide +kernel
theorem dX8_measure_122 : decode cX8_measure 122 = .ok (.aload_n 0, 1) := by decide +kernel
theorem dX8_measure_123 : decode cX8_measure 123 = .ok (.getfield 227, 3) := by decide +kernel
theorem dX8_measure_126 : decode cX8_measure 126 = .ok (.i2l, 1) := by decide +kernel
theorem dX8_measure_127 : decode cX8_measure 127 = .ok (.lmul, 1) := by decide +kernel
theorem dX8_measure_128 : decode cX8_measure 128 = .ok (.lsub, 1) := by decide +kernel
theorem dX8_measure_129 : decode cX8_measure 129 = .ok (.lmul, 1) := by decide +kernel
theorem dX8_measure_130 : decode cX8_measure 130 = .ok (.aload_n 0, 1) := by decide +kernel
theorem dX8_measure_131 : decode cX8_measure 131 = .ok (.getfield 227, 3) := by decide +kernel
theorem dX8_measure_134 : decode cX8_measure 134 = .ok (.i2l, 1) := by decide +kernel
theorem dX8_measure_135 : decode cX8_measure 135 = .ok (.aload_n 0, 1) := by decide +kernel
theorem dX8_measure_136 : decode cX8_measure 136 = .ok (.getfield 230, 3) := by decide +kernel
theorem dX8_measure_139 : decode cX8_measure 139 = .ok (.i2l, 1) := by decide +kernel
theorem dX8_measure_140 : decode cX8_measure 140 = .ok (.lmul, 1) := by decide +kernel
theorem dX8_measure_141 : decode cX8_measure 141 = .ok (.ldiv, 1) := by decide +kernel
theorem dX8_measure_142 : decode cX8_measure 142 = .ok (.l2i, 1) := by decide +kernel
theorem dX8_measure_143 : decode cX8_measure 143 = .ok (.putfield 239, 3) := by decide +kernel
theorem dX8_measure_146 : decode cX8_measure 146 = .ok (.return_, 1) := by decide +kernel
theorem dX8_makes_0 : decode cX8_makes 0 = .ok (.aload_n 0, 1) := by decide +kernel
theorem dX8_makes_1 : decode cX8_makes 1 = .ok (.invokevirtual 242, 3) := by decide +kernel
theorem dX8_makes_4 : decode cX8_makes 4 = .ok (.iconst 0, 1) := by decide +kernel
theorem dX8_makes_5 : decode cX8_makes 5 = .ok (.istore_n 2, 1) := by decide +kernel
theorem dX8_makes_6 : decode cX8_makes 6 = .ok (.iload_n 2, 1) := by decide +kernel
theorem dX8_makes_7 : decode cX8_makes 7 = .ok (.aload_n 0, 1) := by decide +kernel
theorem dX8_makes_8 : decode cX8_makes 8 = .ok (.iload_n 1, 1) := by decide +kernel
theorem dX8_makes_9 : decode cX8_makes 9 = .ok (.invokevirtual 196, 3) := by decide +kernel
theorem dX8_makes_12 : decode cX8_makes 12 = .ok (.if_icmp .ge 42, 3) := by decide +kernel
theorem dX8_makes_15 : decode cX8_makes 15 = .ok (.aload_n 0, 1) := by decide +kernel
theorem dX8_makes_16 : decode cX8_makes 16 = .ok (.aload_n 0, 1) := by decide +kernel
theorem dX8_makes_17 : decode cX8_makes 17 = .ok (.getfield 9, 3) := by decide +kernel
theorem dX8_makes_20 : decode cX8_makes 20 = .ok (.aload_n 0, 1) := by decide +kernel
theorem dX8_makes_21 : decode cX8_makes 21 = .ok (.iload_n 1, 1) := by decide +kernel
theorem dX8_makes_22 : decode cX8_makes 22 = .ok (.iload_n 2, 1) := by decide +kernel
theorem dX8_makes_23 : decode cX8_makes 23 = .ok (.invokevirtual 199, 3) := by decide +kernel
theorem dX8_makes_26 : decode cX8_makes 26 = .ok (.iaload, 1) := by decide +kernel
theorem dX8_makes_27 : decode cX8_makes 27 = .ok (.aload_n 0, 1) := by decide +kernel
theorem dX8_makes_28 : decode cX8_makes 28 = .ok (.getfield 9, 3) := by decide +kernel
theorem dX8_makes_31 : decode cX8_makes 31 = .ok (.aload_n 0, 1) := by decide +kernel
theorem dX8_makes_32 : decode cX8_makes 32 = .ok (.iload_n 1, 1) := by decide +kernel
theorem dX8_makes_33 : decode cX8_makes 33 = .ok (.iload_n 2, 1) := by decide +kernel
theorem dX8_makes_34 : decode cX8_makes 34 = .ok (.invokevirtual 199, 3) := by decide +kernel
theorem dX8_makes_37 : decode cX8_makes 37 = .ok (.iconst 1, 1) := by decide +kernel
theorem dX8_makes_38 : decode cX8_makes 38 = .ok (.iadd, 1) := by decide +kernel
theorem dX8_makes_39 : decode cX8_makes 39 = .ok (.iaload, 1) := by decide +kernel
theorem dX8_makes_40 : decode cX8_makes 40 = .ok (.invokevirtual 245, 3) := by decide +kernel
theorem dX8_makes_43 : decode cX8_makes 43 = .ok (.ifCond .ne 5, 3) := by decide +kernel
theorem dX8_makes_46 : decode cX8_makes 46 = .ok (.iload_n 2, 1) := by decide +kernel
theorem dX8_makes_47 : decode cX8_makes 47 = .ok (.ireturn, 1) := by decide +kernel
theorem dX8_makes_48 : decode cX8_makes 48 = .ok (.iinc 2 1, 3) := by decide +kernel
theorem dX8_makes_51 : decode cX8_makes 51 = .ok (.goto (-45), 3) := by decide +kernel
theorem dX8_makes_54 : decode cX8_makes 54 = .ok (.aload_n 0, 1) := by decide +kernel
theorem dX8_makes_55 : decode cX8_makes 55 = .ok (.invokevirtual 249, 3) := by decide +kernel
theorem dX8_makes_58 : decode cX8_makes 58 = .ok (.iconst (-1), 1) := by decide +kernel
theorem dX8_makes_59 : decode cX8_makes 59 = .ok (.ireturn, 1) := by decide +kernel
theorem dX8_breaks_0 : decode cX8_breaks 0 = .ok (.aload_n 0, 1) := by decide +kernel
theorem dX8_breaks_1 : decode cX8_breaks 1 = .ok (.iconst 0, 1) := by decide +kernel
theorem dX8_breaks_2 : decode cX8_breaks 2 = .ok (.putfield 64, 3) := by decide +kernel
theorem dX8_breaks_5 : decode cX8_breaks 5 = .ok (.aload_n 0, 1) := by decide +kernel
theorem dX8_breaks_6 : decode cX8_breaks 6 = .ok (.iload_n 1, 1) := by decide +kernel
theorem dX8_breaks_7 : decode cX8_breaks 7 = .ok (.invokevirtual 193, 3) := by decide +kernel
theorem dX8_breaks_10 : decode cX8_breaks 10 = .ok (.ifCond .eq 11, 3) := by decide +kernel
theorem dX8_breaks_13 : decode cX8_breaks 13 = .ok (.aload_n 0, 1) := by decide +kernel
theorem dX8_breaks_14 : decode cX8_breaks 14 = .ok (.iload_n 1, 1) := by decide +kernel
theorem dX8_breaks_15 : decode cX8_breaks 15 = .ok (.invokevirtual 252, 3) := by decide +kernel
theorem dX8_breaks_18 : decode cX8_breaks 18 = .ok (.goto 8, 3) := by decide +kernel
theorem dX8_breaks_21 : decode cX8_breaks 21 = .ok (.aload_n 0, 1) := by decide +kernel
theorem dX8_breaks_22 : decode cX8_breaks 22 = .ok (.iconst 1, 1) := by decide +kernel
theorem dX8_breaks_23 : decode cX8_breaks 23 = .ok (.invokevirtual 146, 3) := by decide +kernel
theorem dX8_breaks_26 : decode cX8_breaks 26 = .ok (.ireturn, 1) := by decide +kernel
theorem dX8_wayFault_0 : decode cX8_wayFault 0 = .ok (.aload_n 0, 1) := by decide +kernel
theorem dX8_wayFault_1 : decode cX8_wayFault 1 = .ok (.iload_n 1, 1) := by decide +kernel
theorem dX8_wayFault_2 : decode cX8_wayFault 2 = .ok (.invokevirtual 193, 3) := by decide +kernel
theorem dX8_wayFault_5 : decode cX8_wayFault 5 = .ok (.ifCond .ne 7, 3) := by decide +kernel
theorem dX8_wayFault_8 : decode cX8_wayFault 8 = .ok (.iconst 1, 1) := by decide +kernel
theorem dX8_wayFault_9 : decode cX8_wayFault 9 = .ok (.goto 17, 3) := by decide +kernel
theorem dX8_wayFault_12 : decode cX8_wayFault 12 = .ok (.aload_n 0, 1) := by decide +kernel
theorem dX8_wayFault_13 : decode cX8_wayFault 13 = .ok (.iload_n 1, 1) := by decide +kernel
theorem dX8_wayFault_14 : decode cX8_wayFault 14 = .ok (.invokevirtual 252, 3) := by decide +kernel
theorem dX8_wayFault_17 : decode cX8_wayFault 17 = .ok (.iconst (-1), 1) := by decide +kernel
theorem dX8_wayFault_18 : decode cX8_wayFault 18 = .ok (.if_icmp .ne 7, 3) := by decide +kernel
theorem dX8_wayFault_21 : decode cX8_wayFault 21 = .ok (.iconst 0, 1) := by decide +kernel
theorem dX8_wayFault_22 : decode cX8_wayFault 22 = .ok (.goto 4, 3) := by decide +kernel
theorem dX8_wayFault_25 : decode cX8_wayFault 25 = .ok (.iconst 2, 1) := by decide +kernel
theorem dX8_wayFault_26 : decode cX8_wayFault 26 = .ok (.ireturn, 1) := by decide +kernel
theorem dX8_make_0 : decode cX8_make 0 = .ok (.aload_n 0, 1) := by decide +kernel
theorem dX8_make_1 : decode cX8_make 1 = .ok (.aload_n 0, 1) := by decide +kernel
theorem dX8_make_2 : decode cX8_make 2 = .ok (.iload_n 1, 1) := by decide +kernel
theorem dX8_make_3 : decode cX8_make 3 = .ok (.invokevirtual 255, 3) := by decide +kernel
theorem dX8_make_6 : decode cX8_make 6 = .ok (.putfield 64, 3) := by decide +kernel
theorem dX8_make_9 : decode cX8_make 9 = .ok (.aload_n 0, 1) := by decide +kernel
theorem dX8_make_10 : decode cX8_make 10 = .ok (.getfield 64, 3) := by decide +kernel
theorem dX8_make_13 : decode cX8_make 13 = .ok (.ifCond .le 5, 3) := by decide +kernel
theorem dX8_make_16 : decode cX8_make 16 = .ok (.iconst 0, 1) := by decide +kernel
theorem dX8_make_17 : decode cX8_make 17 = .ok (.ireturn, 1) := by decide +kernel
theorem dX8_make_18 : decode cX8_make 18 = .ok (.iload_n 2, 1) := by decide +kernel
theorem dX8_make_19 : decode cX8_make 19 = .ok (.tableswitch 76 0 6 #[41, 46, 51, 56, 61, 66, 71], 41) := by decide +kernel
theorem dX8_make_60 : decode cX8_make 60 = .ok (.aload_n 0, 1) := by decide +kernel
theorem dX8_make_61 : decode cX8_make 61 = .ok (.getfield 202, 3) := by decide +kernel
theorem dX8_make_64 : decode cX8_make 64 = .ok (.ireturn, 1) := by decide +kernel
theorem dX8_make_65 : decode cX8_make 65 = .ok (.aload_n 0, 1) := by decide +kernel
theorem dX8_make_66 : decode cX8_make 66 = .ok (.getfield 205, 3) := by decide +kernel
theorem dX8_make_69 : decode cX8_make 69 = .ok (.ireturn, 1) := by decide +kernel
theorem dX8_make_70 : decode cX8_make 70 = .ok (.aload_n 0, 1) := by decide +kernel
theorem dX8_make_71 : decode cX8_make 71 = .ok (.getfield 227, 3) := by decide +kernel
theorem dX8_make_74 : decode cX8_make 74 = .ok (.ireturn, 1) := by decide +kernel
theorem dX8_make_75 : decode cX8_make 75 = .ok (.aload_n 0, 1) := by decide +kernel
theorem dX8_make_76 : decode cX8_make 76 = .ok (.getfield 230, 3) := by decide +kernel
theorem dX8_make_79 : decode cX8_make 79 = .ok (.ireturn, 1) := by decide +kernel
theorem dX8_make_80 : decode cX8_make 80 = .ok (.aload_n 0, 1) := by decide +kernel
theorem dX8_make_81 : decode cX8_make 81 = .ok (.getfield 233, 3) := by decide +kernel
theorem dX8_make_84 : decode cX8_make 84 = .ok (.ireturn, 1) := by decide +kernel
theorem dX8_make_85 : decode cX8_make 85 = .ok (.aload_n 0, 1) := by decide +kernel
theorem dX8_make_86 : decode cX8_make 86 = .ok (.getfield 236, 3) := by decide +kernel
theorem dX8_make_89 : decode cX8_make 89 = .ok (.ireturn, 1) := by decide +kernel
theorem dX8_make_90 : decode cX8_make 90 = .ok (.aload_n 0, 1) := by decide +kernel
theorem dX8_make_91 : decode cX8_make 91 = .ok (.getfield 239, 3) := by decide +kernel
theorem dX8_make_94 : decode cX8_make 94 = .ok (.ireturn, 1) := by decide +kernel
theorem dX8_make_95 : decode cX8_make 95 = .ok (.aload_n 0, 1) := by decide +kernel
theorem dX8_make_96 : decode cX8_make 96 = .ok (.iconst 3, 1) := by decide +kernel
theorem dX8_make_97 : decode cX8_make 97 = .ok (.invokevirtual 146, 3) := by decide +kernel
theorem dX8_make_100 : decode cX8_make 100 = .ok (.ireturn, 1) := by decide +kernel
theorem dX8_layers_0 : decode cX8_layers 0 = .ok (.aload_n 0, 1) := by decide +kernel
theorem dX8_layers_1 : decode cX8_layers 1 = .ok (.aload_n 0, 1) := by decide +kernel
theorem dX8_layers_2 : decode cX8_layers 2 = .ok (.iload_n 1, 1) := by decide +kernel
theorem dX8_layers_3 : decode cX8_layers 3 = .ok (.invokevirtual 255, 3) := by decide +kernel
theorem dX8_layers_6 : decode cX8_layers 6 = .ok (.putfield 64, 3) := by decide +kernel
theorem dX8_layers_9 : decode cX8_layers 9 = .ok (.aload_n 0, 1) := by decide +kernel
theorem dX8_layers_10 : decode cX8_layers 10 = .ok (.getfield 64, 3) := by decide +kernel
theorem dX8_layers_13 : decode cX8_layers 13 = .ok (.ifCond .le 5, 3) := by decide +kernel
theorem dX8_layers_16 : decode cX8_layers 16 = .ok (.iconst 0, 1) := by decide +kernel
theorem dX8_layers_17 : decode cX8_layers 17 = .ok (.ireturn, 1) := by decide +kernel
theorem dX8_layers_18 : decode cX8_layers 18 = .ok (.iload_n 2, 1) := by decide +kernel
theorem dX8_layers_19 : decode cX8_layers 19 = .ok (.i2l, 1) := by decide +kernel
theorem dX8_layers_20 : decode cX8_layers 20 = .ok (.lconst 0, 1) := by decide +kernel
theorem dX8_layers_21 : decode cX8_layers 21 = .ok (.aload_n 0, 1) := by decide +kernel
theorem dX8_layers_22 : decode cX8_layers 22 = .ok (.getfield 202, 3) := by decide +kernel
theorem dX8_layers_25 : decode cX8_layers 25 = .ok (.iconst 1, 1) := by decide +kernel
theorem dX8_layers_26 : decode cX8_layers 26 = .ok (.isub, 1) := by decide +kernel
theorem dX8_layers_27 : decode cX8_layers 27 = .ok (.i2l, 1) := by decide +kernel
theorem dX8_layers_28 : decode cX8_layers 28 = .ok (.invokestatic 67, 3) := by decide +kernel
theorem dX8_layers_31 : decode cX8_layers 31 = .ok (.ifCond .eq 33, 3) := by decide +kernel
theorem dX8_layers_34 : decode cX8_layers 34 = .ok (.iload_n 3, 1) := by decide +kernel
theorem dX8_layers_35 : decode cX8_layers 35 = .ok (.i2l, 1) := by decide +kernel
theorem dX8_layers_36 : decode cX8_layers 36 = .ok (.lconst 0, 1) := by decide +kernel
theorem dX8_layers_37 : decode cX8_layers 37 = .ok (.aload_n 0, 1) := by decide +kernel
theorem dX8_layers_38 : decode cX8_layers 38 = .ok (.getfield 205, 3) := by decide +kernel
theorem dX8_layers_41 : decode cX8_layers 41 = .ok (.iconst 1, 1) := by decide +kernel
theorem dX8_layers_42 : decode cX8_layers 42 = .ok (.isub, 1) := by decide +kernel
theorem dX8_layers_43 : decode cX8_layers 43 = .ok (.i2l, 1) := by decide +kernel
theorem dX8_layers_44 : decode cX8_layers 44 = .ok (.invokestatic 67, 3) := by decide +kernel
theorem dX8_layers_47 : decode cX8_layers 47 = .ok (.ifCond .eq 17, 3) := by decide +kernel
theorem dX8_layers_50 : decode cX8_layers 50 = .ok (.aload_n 0, 1) := by decide +kernel
theorem dX8_layers_51 : decode cX8_layers 51 = .ok (.getfield 39, 3) := by decide +kernel
theorem dX8_layers_54 : decode cX8_layers 54 = .ok (.bipush 12, 2) := by decide +kernel
theorem dX8_layers_56 : decode cX8_layers 56 = .ok (.iload_n 2, 1) := by decide +kernel
theorem dX8_layers_57 : decode cX8_layers 57 = .ok (.imul, 1) := by decide +kernel
theorem dX8_layers_58 : decode cX8_layers 58 = .ok (.iload_n 3, 1) := by decide +kernel
theorem dX8_layers_59 : decode cX8_layers 59 = .ok (.iadd, 1) := by decide +kernel
theorem dX8_layers_60 : decode cX8_layers 60 = .ok (.iaload, 1) := by decide +kernel
theorem dX8_layers_61 : decode cX8_layers 61 = .ok (.goto 4, 3) := by decide +kernel
theorem dX8_layers_64 : decode cX8_layers 64 = .ok (.iconst (-1), 1) := by decide +kernel
theorem dX8_layers_65 : decode cX8_layers 65 = .ok (.ireturn, 1) := by decide +kernel
theorem dX8_quarter_0 : decode cX8_quarter 0 = .ok (.iload_n 0, 1) := by decide +kernel
theorem dX8_quarter_1 : decode cX8_quarter 1 = .ok (.tableswitch 140 0 15 #[79, 81, 84, 88, 92, 96, 100, 104, 108, 112, 116, 120, 124, 128, 132, 136], 79) := by decide +kernel
theorem dX8_quarter_80 : decode cX8_quarter 80 = .ok (.iconst 0, 1) := by decide +kernel
theorem dX8_quarter_81 : decode cX8_quarter 81 = .ok (.ireturn, 1) := by decide +kernel
theorem dX8_quarter_82 : decode cX8_quarter 82 = .ok (.bipush 98, 2) := by decide +kernel
theorem dX8_quarter_84 : decode cX8_quarter 84 = .ok (.ireturn, 1) := by decide +kernel
theorem dX8_quarter_85 : decode cX8_quarter 85 = .ok (.sipush 195, 3) := by decide +kernel
theorem dX8_quarter_88 : decode cX8_quarter 88 = .ok (.ireturn, 1) := by decide +kernel
theorem dX8_quarter_89 : decode cX8_quarter 89 = .ok (.sipush 290, 3) := by decide +kernel
theorem dX8_quarter_92 : decode cX8_quarter 92 = .ok (.ireturn, 1) := by decide +kernel
theorem dX8_quarter_93 : decode cX8_quarter 93 = .ok (.sipush 383, 3) := by decide +kernel
theorem dX8_quarter_96 : decode cX8_quarter 96 = .ok (.ireturn, 1) := by decide +kernel
theorem dX8_quarter_97 : decode cX8_quarter 97 = .ok (.sipush 471, 3) := by decide +kernel
theorem dX8_quarter_100 : decode cX8_quarter 100 = .ok (.ireturn, 1) := by decide +kernel
theorem dX8_quarter_101 : decode cX8_quarter 101 = .ok (.sipush 556, 3) := by decide +kernel
theorem dX8_quarter_104 : decode cX8_quarter 104 = .ok (.ireturn, 1) := by decide +kernel
theorem dX8_quarter_105 : decode cX8_quarter 105 = .ok (.sipush 634, 3) := by decide +kernel
theorem dX8_quarter_108 : decode cX8_quarter 108 = .ok (.ireturn, 1) := by decide +kernel
theorem dX8_quarter_109 : decode cX8_quarter 109 = .ok (.sipush 707, 3) := by decide +kernel
theorem dX8_quarter_112 : decode cX8_quarter 112 = .ok (.ireturn, 1) := by decide +kernel
theorem dX8_quarter_113 : decode cX8_quarter 113 = .ok (.sipush 773, 3) := by decide +kernel
theorem dX8_quarter_116 : decode cX8_quarter 116 = .ok (.ireturn, 1) := by decide +kernel
theorem dX8_quarter_117 : decode cX8_quarter 117 = .ok (.sipush 831, 3) := by decide +kernel
theorem dX8_quarter_120 : decode cX8_quarter 120 = .ok (.ireturn, 1) := by decide +kernel
theorem dX8_quarter_121 : decode cX8_quarter 121 = .ok (.sipush 882, 3) := by decide +kernel
theorem dX8_quarter_124 : decode cX8_quarter 124 = .ok (.ireturn, 1) := by decide +kernel
theorem dX8_quarter_125 : decode cX8_quarter 125 = .ok (.sipush 924, 3) := by decide +kernel
theorem dX8_quarter_128 : decode cX8_quarter 128 = .ok (.ireturn, 1) := by decide +kernel
theorem dX8_quarter_129 : decode cX8_quarter 129 = .ok (.sipush 957, 3) := by decide +kernel
theorem dX8_quarter_132 : decode cX8_quarter 132 = .ok (.ireturn, 1) := by decide +kernel
theorem dX8_quarter_133 : decode cX8_quarter 133 = .ok (.sipush 981, 3) := by decide +kernel
theorem dX8_quarter_136 : decode cX8_quarter 136 = .ok (.ireturn, 1) := by decide +kernel
theorem dX8_quarter_137 : decode cX8_quarter 137 = .ok (.sipush 995, 3) := by decide +kernel
theorem dX8_quarter_140 : decode cX8_quarter 140 = .ok (.ireturn, 1) := by decide +kernel
theorem dX8_quarter_141 : decode cX8_quarter 141 = .ok (.sipush 1000, 3) := by decide +kernel
theorem dX8_quarter_144 : decode cX8_quarter 144 = .ok (.ireturn, 1) := by decide +kernel
theorem dX8_sine_0 : decode cX8_sine 0 = .ok (.iload_n 0, 1) := by decide +kernel
theorem dX8_sine_1 : decode cX8_sine 1 = .ok (.bipush 16, 2) := by decide +kernel
theorem dX8_sine_3 : decode cX8_sine 3 = .ok (.if_icmp .gt 10, 3) := by decide +kernel
theorem dX8_sine_6 : decode cX8_sine 6 = .ok (.iload_n 0, 1) := by decide +kernel
theorem dX8_sine_7 : decode cX8_sine 7 = .ok (.invokestatic 258, 3) := by decide +kernel
theorem dX8_sine_10 : decode cX8_sine 10 = .ok (.goto 27, 3) := by decide +kernel
theorem dX8_sine_13 : decode cX8_sine 13 = .ok (.iload_n 0, 1) := by decide +kernel
theorem dX8_sine_14 : decode cX8_sine 14 = .ok (.bipush 32, 2) := by decide +kernel
theorem dX8_sine_16 : decode cX8_sine 16 = .ok (.if_icmp .gt 13, 3) := by decide +kernel
theorem dX8_sine_19 : decode cX8_sine 19 = .ok (.bipush 32, 2) := by decide +kernel
theorem dX8_sine_21 : decode cX8_sine 21 = .ok (.iload_n 0, 1) := by decide +kernel
theorem dX8_sine_22 : decode cX8_sine 22 = .ok (.isub, 1) := by decide +kernel
theorem dX8_sine_23 : decode cX8_sine 23 = .ok (.invokestatic 258, 3) := by decide +kernel
theorem dX8_sine_26 : decode cX8_sine 26 = .ok (.goto 11, 3) := by decide +kernel
theorem dX8_sine_29 : decode cX8_sine 29 = .ok (.iload_n 0, 1) := by decide +kernel
theorem dX8_sine_30 : decode cX8_sine 30 = .ok (.bipush 32, 2) := by decide +kernel
theorem dX8_sine_32 : decode cX8_sine 32 = .ok (.isub, 1) := by decide +kernel
theorem dX8_sine_33 : decode cX8_sine 33 = .ok (.invokestatic 261, 3) := by decide +kernel
theorem dX8_sine_36 : decode cX8_sine 36 = .ok (.ineg, 1) := by decide +kernel
theorem dX8_sine_37 : decode cX8_sine 37 = .ok (.ireturn, 1) := by decide +kernel
theorem dX8_cosine_0 : decode cX8_cosine 0 = .ok (.iload_n 0, 1) := by decide +kernel
theorem dX8_cosine_1 : decode cX8_cosine 1 = .ok (.bipush 16, 2) := by decide +kernel
theorem dX8_cosine_3 : decode cX8_cosine 3 = .ok (.iadd, 1) := by decide +kernel
theorem dX8_cosine_4 : decode cX8_cosine 4 = .ok (.bipush 64, 2) := by decide +kernel
theorem dX8_cosine_6 : decode cX8_cosine 6 = .ok (.irem, 1) := by decide +kernel
theorem dX8_cosine_7 : decode cX8_cosine 7 = .ok (.invokestatic 261, 3) := by decide +kernel
theorem dX8_cosine_10 : decode cX8_cosine 10 = .ok (.ireturn, 1) := by decide +kernel
theorem dX8_laySines_0 : decode cX8_laySines 0 = .ok (.aload_n 0, 1) := by decide +kernel
theorem dX8_laySines_1 : decode cX8_laySines 1 = .ok (.getfield 264, 3) := by decide +kernel
theorem dX8_laySines_4 : decode cX8_laySines 4 = .ok (.ifCond .eq 4, 3) := by decide +kernel
theorem dX8_laySines_7 : decode cX8_laySines 7 = .ok (.return_, 1) := by decide +kernel
theorem dX8_laySines_8 : decode cX8_laySines 8 = .ok (.aload_n 0, 1) := by decide +kernel
theorem dX8_laySines_9 : decode cX8_laySines 9 = .ok (.iconst 1, 1) := by decide +kernel
theorem dX8_laySines_10 : decode cX8_laySines 10 = .ok (.putfield 264, 3) := by decide +kernel
theorem dX8_laySines_13 : decode cX8_laySines 13 = .ok (.iconst 0, 1) := by decide +kernel
theorem dX8_laySines_14 : decode cX8_laySines 14 = .ok (.istore_n 1, 1) := by decide +kernel
theorem dX8_laySines_15 : decode cX8_laySines 15 = .ok (.iload_n 1, 1) := by decide +kernel
theorem dX8_laySines_16 : decode cX8_laySines 16 = .ok (.bipush 64, 2) := by decide +kernel
theorem dX8_laySines_18 : decode cX8_laySines 18 = .ok (.if_icmp .ge 29, 3) := by decide +kernel
theorem dX8_laySines_21 : decode cX8_laySines 21 = .ok (.aload_n 0, 1) := by decide +kernel
theorem dX8_laySines_22 : decode cX8_laySines 22 = .ok (.getfield 42, 3) := by decide +kernel
theorem dX8_laySines_25 : decode cX8_laySines 25 = .ok (.iload_n 1, 1) := by decide +kernel
theorem dX8_laySines_26 : decode cX8_laySines 26 = .ok (.iload_n 1, 1) := by decide +kernel
theorem dX8_laySines_27 : decode cX8_laySines 27 = .ok (.invokestatic 261, 3) := by decide +kernel
theorem dX8_laySines_30 : decode cX8_laySines 30 = .ok (.iastore, 1) := by decide +kernel
theorem dX8_laySines_31 : decode cX8_laySines 31 = .ok (.aload_n 0, 1) := by decide +kernel
theorem dX8_laySines_32 : decode cX8_laySines 32 = .ok (.getfield 45, 3) := by decide +kernel
theorem dX8_laySines_35 : decode cX8_laySines 35 = .ok (.iload_n 1, 1) := by decide +kernel
theorem dX8_laySines_36 : decode cX8_laySines 36 = .ok (.iload_n 1, 1) := by decide +kernel
theorem dX8_laySines_37 : decode cX8_laySines 37 = .ok (.invokestatic 268, 3) := by decide +kernel
theorem dX8_laySines_40 : decode cX8_laySines 40 = .ok (.iastore, 1) := by decide +kernel
theorem dX8_laySines_41 : decode cX8_laySines 41 = .ok (.iinc 1 1, 3) := by decide +kernel
theorem dX8_laySines_44 : decode cX8_laySines 44 = .ok (.goto (-29), 3) := by decide +kernel
theorem dX8_laySines_47 : decode cX8_laySines 47 = .ok (.return_, 1) := by decide +kernel
theorem dX8_heavy_0 : decode cX8_heavy 0 = .ok (.aload_n 0, 1) := by decide +kernel
theorem dX8_heavy_1 : decode cX8_heavy 1 = .ok (.getfield 230, 3) := by decide +kernel
theorem dX8_heavy_4 : decode cX8_heavy 4 = .ok (.aload_n 0, 1) := by decide +kernel
theorem dX8_heavy_5 : decode cX8_heavy 5 = .ok (.getfield 230, 3) := by decide +kernel
theorem dX8_heavy_8 : decode cX8_heavy 8 = .ok (.aload_n 0, 1) := by decide +kernel
theorem dX8_heavy_9 : decode cX8_heavy 9 = .ok (.getfield 9, 3) := by decide +kernel
theorem dX8_heavy_12 : decode cX8_heavy 12 = .ok (.bipush 7, 2) := by decide +kernel
theorem dX8_heavy_14 : decode cX8_heavy 14 = .ok (.iaload, 1) := by decide +kernel
theorem dX8_heavy_15 : decode cX8_heavy 15 = .ok (.imul, 1) := by decide +kernel
theorem dX8_heavy_16 : decode cX8_heavy 16 = .ok (.bipush 100, 2) := by decide +kernel
theorem dX8_heavy_18 : decode cX8_heavy 18 = .ok (.idiv, 1) := by decide +kernel
theorem dX8_heavy_19 : decode cX8_heavy 19 = .ok (.iadd, 1) := by decide +kernel
theorem dX8_heavy_20 : decode cX8_heavy 20 = .ok (.i2l, 1) := by decide +kernel
theorem dX8_heavy_21 : decode cX8_heavy 21 = .ok (.lreturn, 1) := by decide +kernel
theorem dX8_starts_0 : decode cX8_starts 0 = .ok (.aload_n 0, 1) := by decide +kernel
theorem dX8_starts_1 : decode cX8_starts 1 = .ok (.invokevirtual 271, 3) := by decide +kernel
theorem dX8_starts_4 : decode cX8_starts 4 = .ok (.iload_n 2, 1) := by decide +kernel
theorem dX8_starts_5 : decode cX8_starts 5 = .ok (.ifCond .ge 10, 3) := by decide +kernel
theorem dX8_starts_8 : decode cX8_starts 8 = .ok (.iload_n 2, 1) := by decide +kernel
theorem dX8_starts_9 : decode cX8_starts 9 = .ok (.bipush 64, 2) := by decide +kernel
theorem dX8_starts_11 : decode cX8_starts 11 = .ok (.iadd, 1) := by decide +kernel
theorem dX8_starts_12 : decode cX8_starts 12 = .ok (.goto 4, 3) := by decide +kernel
theorem dX8_starts_15 : decode cX8_starts 15 = .ok (.iload_n 2, 1) := by decide +kernel
theorem dX8_starts_16 : decode cX8_starts 16 = .ok (.istore_n 3, 1) := by decide +kernel
theorem dX8_starts_17 : decode cX8_starts 17 = .ok (.aload_n 0, 1) := by decide +kernel
theorem dX8_starts_18 : decode cX8_starts 18 = .ok (.iconst 0, 1) := by decide +kernel
theorem dX8_starts_19 : decode cX8_starts 19 = .ok (.putfield 274, 3) := by decide +kernel
theorem dX8_starts_22 : decode cX8_starts 22 = .ok (.aload_n 0, 1) := by decide +kernel
theorem dX8_starts_23 : decode cX8_starts 23 = .ok (.sipush 2000, 3) := by decide +kernel
theorem dX8_starts_26 : decode cX8_starts 26 = .ok (.putfield 277, 3) := by decide +kernel
theorem dX8_starts_29 : decode cX8_starts 29 = .ok (.aload_n 0, 1) := by decide +kernel
theorem dX8_starts_30 : decode cX8_starts 30 = .ok (.iload_n 1, 1) := by decide +kernel
theorem dX8_starts_31 : decode cX8_starts 31 = .ok (.aload_n 0, 1) := by decide +kernel
theorem dX8_starts_32 : decode cX8_starts 32 = .ok (.getfield 45, 3) := by decide +kernel
theorem dX8_starts_35 : decode cX8_starts 35 = .ok (.iload_n 3, 1) := by decide +kernel
theorem dX8_starts_36 : decode cX8_starts 36 = .ok (.iaload, 1) := by decide +kernel
theorem dX8_starts_37 : decode cX8_starts 37 = .ok (.imul, 1) := by decide +kernel
theorem dX8_starts_38 : decode cX8_starts 38 = .ok (.sipush 1000, 3) := by decide +kernel
theorem dX8_starts_41 : decode cX8_starts 41 = .ok (.idiv, 1) := by decide +kernel
theorem dX8_starts_42 : decode cX8_starts 42 = .ok (.putfield 280, 3) := by decide +kernel
theorem dX8_starts_45 : decode cX8_starts 45 = .ok (.aload_n 0, 1) := by decide +kernel
theorem dX8_starts_46 : decode cX8_starts 46 = .ok (.iload_n 1, 1) := by decide +kernel
theorem dX8_starts_47 : decode cX8_starts 47 = .ok (.aload_n 0, 1) := by decide +kernel
theorem dX8_starts_48 : decode cX8_starts 48 = .ok (.getfield 42, 3) := by decide +kernel
theorem dX8_starts_51 : decode cX8_starts 51 = .ok (.iload_n 3, 1) := by decide +kernel
theorem dX8_starts_52 : decode cX8_starts 52 = .ok (.iaload, 1) := by decide +kernel
theorem dX8_starts_53 : decode cX8_starts 53 = .ok (.imul, 1) := by decide +kernel
theorem dX8_starts_54 : decode cX8_starts 54 = .ok (.sipush 1000, 3) := by decide +kernel
theorem dX8_starts_57 : decode cX8_starts 57 = .ok (.idiv, 1) := by decide +kernel
theorem dX8_starts_58 : decode cX8_starts 58 = .ok (.putfield 283, 3) := by decide +kernel
theorem dX8_starts_61 : decode cX8_starts 61 = .ok (.aload_n 0, 1) := by decide +kernel
theorem dX8_starts_62 : decode cX8_starts 62 = .ok (.bipush 16, 2) := by decide +kernel
theorem dX8_starts_64 : decode cX8_starts 64 = .ok (.iload_n 3, 1) := by decide +kernel
theorem dX8_starts_65 : decode cX8_starts 65 = .ok (.imul, 1) := by decide +kernel
theorem dX8_starts_66 : decode cX8_starts 66 = .ok (.putfield 286, 3) := by decide +kernel
theorem dX8_starts_69 : decode cX8_starts 69 = .ok (.aload_n 0, 1) := by decide +kernel
theorem dX8_starts_70 : decode cX8_starts 70 = .ok (.iconst 0, 1) := by decide +kernel
theorem dX8_starts_71 : decode cX8_starts 71 = .ok (.putfield 288, 3) := by decide +kernel
theorem dX8_starts_74 : decode cX8_starts 74 = .ok (.aload_n 0, 1) := by decide +kernel
theorem dX8_starts_75 : decode cX8_starts 75 = .ok (.iconst 0, 1) := by decide +kernel
theorem dX8_starts_76 : decode cX8_starts 76 = .ok (.putfield 291, 3) := by decide +kernel
theorem dX8_starts_79 : decode cX8_starts 79 = .ok (.aload_n 0, 1) := by decide +kernel
theorem dX8_starts_80 : decode cX8_starts 80 = .ok (.sipush 2000, 3) := by decide +kernel
theorem dX8_starts_83 : decode cX8_starts 83 = .ok (.putfield 294, 3) := by decide +kernel
theorem dX8_starts_86 : decode cX8_starts 86 = .ok (.aload_n 0, 1) := by decide +kernel
theorem dX8_starts_87 : decode cX8_starts 87 = .ok (.iconst 0, 1) := by decide +kernel
theorem dX8_starts_88 : decode cX8_starts 88 = .ok (.putfield 297, 3) := by decide +kernel
theorem dX8_starts_91 : decode cX8_starts 91 = .ok (.aload_n 0, 1) := by decide +kernel
theorem dX8_starts_92 : decode cX8_starts 92 = .ok (.iconst 0, 1) := by decide +kernel
theorem dX8_starts_93 : decode cX8_starts 93 = .ok (.putfield 300, 3) := by decide +kernel
theorem dX8_starts_96 : decode cX8_starts 96 = .ok (.aload_n 0, 1) := by decide +kernel
theorem dX8_starts_97 : decode cX8_starts 97 = .ok (.iconst 0, 1) := by decide +kernel
theorem dX8_starts_98 : decode cX8_starts 98 = .ok (.putfield 303, 3) := by decide +kernel
theorem dX8_starts_101 : decode cX8_starts 101 = .ok (.aload_n 0, 1) := by decide +kernel
theorem dX8_starts_102 : decode cX8_starts 102 = .ok (.iconst 0, 1) := by decide +kernel
theorem dX8_starts_103 : decode cX8_starts 103 = .ok (.putfield 306, 3) := by decide +kernel
theorem dX8_starts_106 : decode cX8_starts 106 = .ok (.return_, 1) := by decide +kernel
theorem dX8_path_0 : decode cX8_path 0 = .ok (.iconst 0, 1) := by decide +kernel
theorem dX8_path_1 : decode cX8_path 1 = .ok (.istore_n 1, 1) := by decide +kernel
theorem dX8_path_2 : decode cX8_path 2 = .ok (.lconst 0, 1) := by decide +kernel
theorem dX8_path_3 : decode cX8_path 3 = .ok (.lstore_n 2, 1) := by decide +kernel
theorem dX8_path_4 : decode cX8_path 4 = .ok (.iconst 0, 1) := by decide +kernel
theorem dX8_path_5 : decode cX8_path 5 = .ok (.istore 4, 2) := by decide +kernel
theorem dX8_path_7 : decode cX8_path 7 = .ok (.iload 4, 2) := by decide +kernel
theorem dX8_path_9 : decode cX8_path 9 = .ok (.bipush 64, 2) := by decide +kernel
theorem dX8_path_11 : decode cX8_path 11 = .ok (.if_icmp .ge 61, 3) := by decide +kernel
theorem dX8_path_14 : decode cX8_path 14 = .ok (.aload_n 0, 1) := by decide +kernel
theorem dX8_path_15 : decode cX8_path 15 = .ok (.getfield 280, 3) := by decide +kernel
theorem dX8_path_18 : decode cX8_path 18 = .ok (.i2l, 1) := by decide +kernel
theorem dX8_path_19 : decode cX8_path 19 = .ok (.aload_n 0, 1) := by decide +kernel
theorem dX8_path_20 : decode cX8_path 20 = .ok (.getfield 45, 3) := by decide +kernel
theorem dX8_path_23 : decode cX8_path 23 = .ok (.iload 4, 2) := by decide +kernel
theorem dX8_path_25 : decode cX8_path 25 = .ok (.iaload, 1) := by decide +kernel
theorem dX8_path_26 : decode cX8_path 26 = .ok (.i2l, 1) := by decide +kernel
theorem dX8_path_27 : decode cX8_path 27 = .ok (.lmul, 1) := by decide +kernel
theorem dX8_path_28 : decode cX8_path 28 = .ok (.aload_n 0, 1) := by decide +kernel
theorem dX8_path_29 : decode cX8_path 29 = .ok (.getfield 283, 3) := by decide +kernel
theorem dX8_path_32 : decode cX8_path 32 = .ok (.i2l, 1) := by decide +kernel
theorem dX8_path_33 : decode cX8_path 33 = .ok (.aload_n 0, 1) := by decide +kernel
theorem dX8_path_34 : decode cX8_path 34 = .ok (.getfield 42, 3) := by decide +kernel
theorem dX8_path_37 : decode cX8_path 37 = .ok (.iload 4, 2) := by decide +kernel
theorem dX8_path_39 : decode cX8_path 39 = .ok (.iaload, 1) := by decide +kernel
theorem dX8_path_40 : decode cX8_path 40 = .ok (.i2l, 1) := by decide +kernel
theorem dX8_path_41 : decode cX8_path 41 = .ok (.lmul, 1) := by decide +kernel
theorem dX8_path_42 : decode cX8_path 42 = .ok (.ladd, 1) := by decide +kernel
theorem dX8_path_43 : decode cX8_path 43 = .ok (.lstore 5, 2) := by decide +kernel
theorem dX8_path_45 : decode cX8_path 45 = .ok (.iload 4, 2) := by decide +kernel
theorem dX8_path_47 : decode cX8_path 47 = .ok (.ifCond .le 13, 3) := by decide +kernel
theorem dX8_path_50 : decode cX8_path 50 = .ok (.lload 5, 2) := by decide +kernel
theorem dX8_path_52 : decode cX8_path 52 = .ok (.lload_n 2, 1) := by decide +kernel
theorem dX8_path_53 : decode cX8_path 53 = .ok (.lcmp, 1) := by decide +kernel
theorem dX8_path_54 : decode cX8_path 54 = .ok (.ifCond .gt 6, 3) := by decide +kernel
theorem dX8_path_57 : decode cX8_path 57 = .ok (.goto 9, 3) := by decide +kernel
theorem dX8_path_60 : decode cX8_path 60 = .ok (.lload 5, 2) := by decide +kernel
theorem dX8_path_62 : decode cX8_path 62 = .ok (.lstore_n 2, 1) := by decide +kernel
theorem dX8_path_63 : decode cX8_path 63 = .ok (.iload 4, 2) := by decide +kernel
theorem dX8_path_65 : decode cX8_path 65 = .ok (.istore_n 1, 1) := by decide +kernel
theorem dX8_path_66 : decode cX8_path 66 = .ok (.iinc 4 1, 3) := by decide +kernel
theorem dX8_path_69 : decode cX8_path 69 = .ok (.goto (-62), 3) := by decide +kernel
theorem dX8_path_72 : decode cX8_path 72 = .ok (.iload_n 1, 1) := by decide +kernel
theorem dX8_path_73 : decode cX8_path 73 = .ok (.ireturn, 1) := by decide +kernel
theorem dX8_kept_0 : decode cX8_kept 0 = .ok (.iload_n 2, 1) := by decide +kernel
theorem dX8_kept_1 : decode cX8_kept 1 = .ok (.ineg, 1) := by decide +kernel
theorem dX8_kept_2 : decode cX8_kept 2 = .ok (.i2l, 1) := by decide +kernel
theorem dX8_kept_3 : decode cX8_kept 3 = .ok (.iload_n 2, 1) := by decide +kernel
theorem dX8_kept_4 : decode cX8_kept 4 = .ok (.i2l, 1) := by decide +kernel
theorem dX8_kept_5 : decode cX8_kept 5 = .ok (.lload_n 0, 1) := by decide +kernel
theorem dX8_kept_6 : decode cX8_kept 6 = .ok (.invokestatic 309, 3) := by decide +kernel
theorem dX8_kept_9 : decode cX8_kept 9 = .ok (.invokestatic 312, 3) := by decide +kernel
theorem dX8_kept_12 : decode cX8_kept 12 = .ok (.l2i, 1) := by decide +kernel
theorem dX8_kept_13 : decode cX8_kept 13 = .ok (.ireturn, 1) := by decide +kernel
theorem dX8_pull_0 : decode cX8_pull 0 = .ok (.aload_n 0, 1) := by decide +kernel
theorem dX8_pull_1 : decode cX8_pull 1 = .ok (.getfield 9, 3) := by decide +kernel
theorem dX8_pull_4 : decode cX8_pull 4 = .ok (.bipush 8, 2) := by decide +kernel
theorem dX8_pull_6 : decode cX8_pull 6 = .ok (.iaload, 1) := by decide +kernel
theorem dX8_pull_7 : decode cX8_pull 7 = .ok (.istore_n 1, 1) := by decide +kernel
theorem dX8_pull_8 : decode cX8_pull 8 = .ok (.iconst 0, 1) := by decide +kernel
theorem dX8_pull_9 : decode cX8_pull 9 = .ok (.istore_n 2, 1) := by decide +kernel
theorem dX8_pull_10 : decode cX8_pull 10 = .ok (.iload_n 2, 1) := by decide +kernel
theorem dX8_pull_11 : decode cX8_pull 11 = .ok (.aload_n 0, 1) := by decide +kernel
theorem dX8_pull_12 : decode cX8_pull 12 = .ok (.getfield 9, 3) := by decide +kernel
theorem dX8_pull_15 : decode cX8_pull 15 = .ok (.iconst 4, 1) := by decide +kernel
theorem dX8_pull_16 : decode cX8_pull 16 = .ok (.iaload, 1) := by decide +kernel
theorem dX8_pull_17 : decode cX8_pull 17 = .ok (.if_icmp .ge 65, 3) := by decide +kernel
theorem dX8_pull_20 : decode cX8_pull 20 = .ok (.aload_n 0, 1) := by decide +kernel
theorem dX8_pull_21 : decode cX8_pull 21 = .ok (.getfield 291, 3) := by decide +kernel
theorem dX8_pull_24 : decode cX8_pull 24 = .ok (.i2l, 1) := by decide +kernel
theorem dX8_pull_25 : decode cX8_pull 25 = .ok (.aload_n 0, 1) := by decide +kernel
theorem dX8_pull_26 : decode cX8_pull 26 = .ok (.getfield 9, 3) := by decide +kernel
theorem dX8_pull_29 : decode cX8_pull 29 = .ok (.sipush 234, 3) := by decide +kernel
theorem dX8_pull_32 : decode cX8_pull 32 = .ok (.iconst 3, 1) := by decide +kernel
theorem dX8_pull_33 : decode cX8_pull 33 = .ok (.iload_n 2, 1) := by decide +kernel
theorem dX8_pull_34 : decode cX8_pull 34 = .ok (.imul, 1) := by decide +kernel
theorem dX8_pull_35 : decode cX8_pull 35 = .ok (.iadd, 1) := by decide +kernel
theorem dX8_pull_36 : decode cX8_pull 36 = .ok (.iaload, 1) := by decide +kernel
theorem dX8_pull_37 : decode cX8_pull 37 = .ok (.i2l, 1) := by decide +kernel
theorem dX8_pull_38 : decode cX8_pull 38 = .ok (.aload_n 0, 1) := by decide +kernel
theorem dX8_pull_39 : decode cX8_pull 39 = .ok (.getfield 9, 3) := by decide +kernel
theorem dX8_pull_42 : decode cX8_pull 42 = .ok (.sipush 234, 3) := by decide +kernel
theorem dX8_pull_45 : decode cX8_pull 45 = .ok (.iconst 3, 1) := by decide +kernel
theorem dX8_pull_46 : decode cX8_pull 46 = .ok (.iload_n 2, 1) := by decide +kernel
theorem dX8_pull_47 : decode cX8_pull 47 = .ok (.imul, 1) := by decide +kernel
theorem dX8_pull_48 : decode cX8_pull 48 = .ok (.iadd, 1) := by decide +kernel
theorem dX8_pull_49 : decode cX8_pull 49 = .ok (.iconst 1, 1) := by decide +kernel
theorem dX8_pull_50 : decode cX8_pull 50 = .ok (.iadd, 1) := by decide +kernel
theorem dX8_pull_51 : decode cX8_pull 51 = .ok (.iaload, 1) := by decide +kernel
theorem dX8_pull_52 : decode cX8_pull 52 = .ok (.i2l, 1) := by decide +kernel
theorem dX8_pull_53 : decode cX8_pull 53 = .ok (.invokestatic 67, 3) := by decide +kernel
theorem dX8_pull_56 : decode cX8_pull 56 = .ok (.ifCond .eq 20, 3) := by decide +kernel
theorem dX8_pull_59 : decode cX8_pull 59 = .ok (.iload_n 1, 1) := by decide +kernel
theorem dX8_pull_60 : decode cX8_pull 60 = .ok (.aload_n 0, 1) := by decide +kernel
theorem dX8_pull_61 : decode cX8_pull 61 = .ok (.getfield 9, 3) := by decide +kernel
theorem dX8_pull_64 : decode cX8_pull 64 = .ok (.sipush 234, 3) := by decide +kernel
theorem dX8_pull_67 : decode cX8_pull 67 = .ok (.iconst 3, 1) := by decide +kernel
theorem dX8_pull_68 : decode cX8_pull 68 = .ok (.iload_n 2, 1) := by decide +kernel
theorem dX8_pull_69 : decode cX8_pull 69 = .ok (.imul, 1) := by decide +kernel
theorem dX8_pull_70 : decode cX8_pull 70 = .ok (.iadd, 1) := by decide +kernel
theorem dX8_pull_71 : decode cX8_pull 71 = .ok (.iconst 2, 1) := by decide +kernel
theorem dX8_pull_72 : decode cX8_pull 72 = .ok (.iadd, 1) := by decide +kernel
theorem dX8_pull_73 : decode cX8_pull 73 = .ok (.iaload, 1) := by decide +kernel
theorem dX8_pull_74 : decode cX8_pull 74 = .ok (.isub, 1) := by decide +kernel
theorem dX8_pull_75 : decode cX8_pull 75 = .ok (.istore_n 1, 1) := by decide +kernel
theorem dX8_pull_76 : decode cX8_pull 76 = .ok (.iinc 2 1, 3) := by decide +kernel
theorem dX8_pull_79 : decode cX8_pull 79 = .ok (.goto (-69), 3) := by decide +kernel
theorem dX8_pull_82 : decode cX8_pull 82 = .ok (.iload_n 1, 1) := by decide +kernel
theorem dX8_pull_83 : decode cX8_pull 83 = .ok (.ireturn, 1) := by decide +kernel
theorem dX8_air_0 : decode cX8_air 0 = .ok (.aload_n 0, 1) := by decide +kernel
theorem dX8_air_1 : decode cX8_air 1 = .ok (.invokevirtual 315, 3) := by decide +kernel
theorem dX8_air_4 : decode cX8_air 4 = .ok (.istore_n 2, 1) := by decide +kernel
theorem dX8_air_5 : decode cX8_air 5 = .ok (.aload_n 0, 1) := by decide +kernel
theorem dX8_air_6 : decode cX8_air 6 = .ok (.getfield 286, 3) := by decide +kernel
theorem dX8_air_9 : decode cX8_air 9 = .ok (.bipush 16, 2) := by decide +kernel
theorem dX8_air_11 : decode cX8_air 11 = .ok (.idiv, 1) := by decide +kernel
theorem dX8_air_12 : decode cX8_air 12 = .ok (.iload_n 2, 1) := by decide +kernel
theorem dX8_air_13 : decode cX8_air 13 = .ok (.isub, 1) := by decide +kernel
theorem dX8_air_14 : decode cX8_air 14 = .ok (.istore_n 3, 1) := by decide +kernel
theorem dX8_air_15 : decode cX8_air 15 = .ok (.iload_n 3, 1) := by decide +kernel
theorem dX8_air_16 : decode cX8_air 16 = .ok (.bipush 31, 2) := by decide +kernel
theorem dX8_air_18 : decode cX8_air 18 = .ok (.if_icmp .le 10, 3) := by decide +kernel
theorem dX8_air_21 : decode cX8_air 21 = .ok (.iload_n 3, 1) := by decide +kernel
theorem dX8_air_22 : decode cX8_air 22 = .ok (.bipush 64, 2) := by decide +kernel
theorem dX8_air_24 : decode cX8_air 24 = .ok (.isub, 1) := by decide +kernel
theorem dX8_air_25 : decode cX8_air 25 = .ok (.goto 17, 3) := by decide +kernel
theorem dX8_air_28 : decode cX8_air 28 = .ok (.iload_n 3, 1) := by decide +kernel
theorem dX8_air_29 : decode cX8_air 29 = .ok (.bipush (-32), 2) := by decide +kernel
theorem dX8_air_31 : decode cX8_air 31 = .ok (.if_icmp .ge 10, 3) := by decide +kernel
theorem dX8_air_34 : decode cX8_air 34 = .ok (.iload_n 3, 1) := by decide +kernel
theorem dX8_air_35 : decode cX8_air 35 = .ok (.bipush 64, 2) := by decide +kernel
theorem dX8_air_37 : decode cX8_air 37 = .ok (.iadd, 1) := by decide +kernel
theorem dX8_air_38 : decode cX8_air 38 = .ok (.goto 4, 3) := by decide +kernel
theorem dX8_air_41 : decode cX8_air 41 = .ok (.iload_n 3, 1) := by decide +kernel
theorem dX8_air_42 : decode cX8_air 42 = .ok (.istore_n 3, 1) := by decide +kernel
theorem dX8_air_43 : decode cX8_air 43 = .ok (.iload_n 3, 1) := by decide +kernel
theorem dX8_air_44 : decode cX8_air 44 = .ok (.i2l, 1) := by decide +kernel
theorem dX8_air_45 : decode cX8_air 45 = .ok (.bipush 8, 2) := by decide +kernel
theorem dX8_air_47 : decode cX8_air 47 = .ok (.invokestatic 318, 3) := by decide +kernel
theorem dX8_air_50 : decode cX8_air 50 = .ok (.istore_n 3, 1) := by decide +kernel
theorem dX8_air_51 : decode cX8_air 51 = .ok (.aload_n 0, 1) := by decide +kernel
theorem dX8_air_52 : decode cX8_air 52 = .ok (.getfield 280, 3) := by decide +kernel
theorem dX8_air_55 : decode cX8_air 55 = .ok (.i2l, 1) := by decide +kernel
theorem dX8_air_56 : decode cX8_air 56 = .ok (.aload_n 0, 1) := by decide +kernel
theorem dX8_air_57 : decode cX8_air 57 = .ok (.getfield 280, 3) := by decide +kernel
theorem dX8_air_60 : decode cX8_air 60 = .ok (.i2l, 1) := by decide +kernel
theorem dX8_air_61 : decode cX8_air 61 = .ok (.lmul, 1) := by decide +kernel
theorem dX8_air_62 : decode cX8_air 62 = .ok (.aload_n 0, 1) := by decide +kernel
theorem dX8_air_63 : decode cX8_air 63 = .ok (.getfield 283, 3) := by decide +kernel
theorem dX8_air_66 : decode cX8_air 66 = .ok (.i2l, 1) := by decide +kernel
theorem dX8_air_67 : decode cX8_air 67 = .ok (.aload_n 0, 1) := by decide +kernel
theorem dX8_air_68 : decode cX8_air 68 = .ok (.getfield 283, 3) := by decide +kernel
theorem dX8_air_71 : decode cX8_air 71 = .ok (.i2l, 1) := by decide +kernel
theorem dX8_air_72 : decode cX8_air 72 = .ok (.lmul, 1) := by decide +kernel
theorem dX8_air_73 : decode cX8_air 73 = .ok (.ladd, 1) := by decide +kernel
theorem dX8_air_74 : decode cX8_air 74 = .ok (.ldc2_w 322, 3) := by decide +kernel
theorem dX8_air_77 : decode cX8_air 77 = .ok (.ldiv, 1) := by decide +kernel
theorem dX8_air_78 : decode cX8_air 78 = .ok (.lstore 4, 2) := by decide +kernel
theorem dX8_air_80 : decode cX8_air 80 = .ok (.aload_n 0, 1) := by decide +kernel
theorem dX8_air_81 : decode cX8_air 81 = .ok (.invokevirtual 324, 3) := by decide +kernel
theorem dX8_air_84 : decode cX8_air 84 = .ok (.aload_n 0, 1) := by decide +kernel
theorem dX8_air_85 : decode cX8_air 85 = .ok (.getfield 9, 3) := by decide +kernel
theorem dX8_air_88 : decode cX8_air 88 = .ok (.bipush 9, 2) := by decide +kernel
theorem dX8_air_90 : decode cX8_air 90 = .ok (.iaload, 1) := by decide +kernel
theorem dX8_air_91 : decode cX8_air 91 = .ok (.i2l, 1) := by decide +kernel
theorem dX8_air_92 : decode cX8_air 92 = .ok (.lmul, 1) := by decide +kernel
theorem dX8_air_93 : decode cX8_air 93 = .ok (.lstore 6, 2) := by decide +kernel
theorem dX8_air_95 : decode cX8_air 95 = .ok (.aload_n 0, 1) := by decide +kernel
theorem dX8_air_96 : decode cX8_air 96 = .ok (.getfield 9, 3) := by decide +kernel
theorem dX8_air_99 : decode cX8_air 99 = .ok (.bipush 13, 2) := by decide +kernel
theorem dX8_air_101 : decode cX8_air 101 = .ok (.iload_n 3, 1) := by decide +kernel
theorem dX8_air_102 : decode cX8_air 102 = .ok (.invokestatic 328, 3) := by decide +kernel
theorem dX8_air_105 : decode cX8_air 105 = .ok (.iadd, 1) := by decide +kernel
theorem dX8_air_106 : decode cX8_air 106 = .ok (.iaload, 1) := by decide +kernel
theorem dX8_air_107 : decode cX8_air 107 = .ok (.i2l, 1) := by decide +kernel
theorem dX8_air_108 : decode cX8_air 108 = .ok (.lload 4, 2) := by decide +kernel
theorem dX8_air_110 : decode cX8_air 110 = .ok (.lmul, 1) := by decide +kernel
theorem dX8_air_111 : decode cX8_air 111 = .ok (.aload_n 0, 1) := by decide +kernel
theorem dX8_air_112 : decode cX8_air 112 = .ok (.getfield 227, 3) := by decide +kernel
theorem dX8_air_115 : decode cX8_air 115 = .ok (.i2l, 1) := by decide +kernel
theorem dX8_air_116 : decode cX8_air 116 = .ok (.lmul, 1) := by decide +kernel
theorem dX8_air_117 : decode cX8_air 117 = .ok (.lload 6, 2) := by decide +kernel
theorem dX8_air_119 : decode cX8_air 119 = .ok (.ldiv, 1) := by decide +kernel
theorem dX8_air_120 : decode cX8_air 120 = .ok (.lstore 8, 2) := by decide +kernel
theorem dX8_air_122 : decode cX8_air 122 = .ok (.iload_n 3, 1) := by decide +kernel
theorem dX8_air_123 : decode cX8_air 123 = .ok (.ifCond .ge 9, 3) := by decide +kernel
theorem dX8_air_126 : decode cX8_air 126 = .ok (.lload 8, 2) := by decide +kernel
theorem dX8_air_128 : decode cX8_air 128 = .ok (.lneg, 1) := by decide +kernel
theorem dX8_air_129 : decode cX8_air 129 = .ok (.goto 13, 3) := by decide +kernel
theorem dX8_air_132 : decode cX8_air 132 = .ok (.iload_n 3, 1) := by decide +kernel
theorem dX8_air_133 : decode cX8_air 133 = .ok (.ifCond .ne 7, 3) := by decide +kernel
theorem dX8_air_136 : decode cX8_air 136 = .ok (.lconst 0, 1) := by decide +kernel
theorem dX8_air_137 : decode cX8_air 137 = .ok (.goto 5, 3) := by decide +kernel
theorem dX8_air_140 : decode cX8_air 140 = .ok (.lload 8, 2) := by decide +kernel
theorem dX8_air_142 : decode cX8_air 142 = .ok (.lstore 8, 2) := by decide +kernel
theorem dX8_air_144 : decode cX8_air 144 = .ok (.iload_n 3, 1) := by decide +kernel
theorem dX8_air_145 : decode cX8_air 145 = .ok (.ifCond .ne 26, 3) := by decide +kernel
theorem dX8_air_148 : decode cX8_air 148 = .ok (.aload_n 0, 1) := by decide +kernel
theorem dX8_air_149 : decode cX8_air 149 = .ok (.getfield 9, 3) := by decide +kernel
theorem dX8_air_152 : decode cX8_air 152 = .ok (.bipush 13, 2) := by decide +kernel
theorem dX8_air_154 : decode cX8_air 154 = .ok (.iaload, 1) := by decide +kernel
theorem dX8_air_155 : decode cX8_air 155 = .ok (.i2l, 1) := by decide +kernel
theorem dX8_air_156 : decode cX8_air 156 = .ok (.lload 4, 2) := by decide +kernel
theorem dX8_air_158 : decode cX8_air 158 = .ok (.lmul, 1) := by decide +kernel
theorem dX8_air_159 : decode cX8_air 159 = .ok (.aload_n 0, 1) := by decide +kernel
theorem dX8_air_160 : decode cX8_air 160 = .ok (.getfield 227, 3) := by decide +kernel
theorem dX8_air_163 : decode cX8_air 163 = .ok (.i2l, 1) := by decide +kernel
theorem dX8_air_164 : decode cX8_air 164 = .ok (.lmul, 1) := by decide +kernel
theorem dX8_air_165 : decode cX8_air 165 = .ok (.lload 6, 2) := by decide +kernel
theorem dX8_air_167 : decode cX8_air 167 = .ok (.ldiv, 1) := by decide +kernel
theorem dX8_air_168 : decode cX8_air 168 = .ok (.goto 5, 3) := by decide +kernel
theorem dX8_air_171 : decode cX8_air 171 = .ok (.lload 8, 2) := by decide +kernel
theorem dX8_air_173 : decode cX8_air 173 = .ok (.lstore 8, 2) := by decide +kernel
theorem dX8_air_175 : decode cX8_air 175 = .ok (.aload_n 0, 1) := by decide +kernel
theorem dX8_air_176 : decode cX8_air 176 = .ok (.getfield 9, 3) := by decide +kernel
theorem dX8_air_179 : decode cX8_air 179 = .ok (.bipush 22, 2) := by decide +kernel
theorem dX8_air_181 : decode cX8_air 181 = .ok (.iload_n 3, 1) := by decide +kernel
theorem dX8_air_182 : decode cX8_air 182 = .ok (.invokestatic 328, 3) := by decide +kernel
theorem dX8_air_185 : decode cX8_air 185 = .ok (.iadd, 1) := by decide +kernel
theorem dX8_air_186 : decode cX8_air 186 = .ok (.iaload, 1) := by decide +kernel
theorem dX8_air_187 : decode cX8_air 187 = .ok (.i2l, 1) := by decide +kernel
theorem dX8_air_188 : decode cX8_air 188 = .ok (.lload 4, 2) := by decide +kernel
theorem dX8_air_190 : decode cX8_air 190 = .ok (.lmul, 1) := by decide +kernel
theorem dX8_air_191 : decode cX8_air 191 = .ok (.aload_n 0, 1) := by decide +kernel
theorem dX8_air_192 : decode cX8_air 192 = .ok (.getfield 227, 3) := by decide +kernel
theorem dX8_air_195 : decode cX8_air 195 = .ok (.i2l, 1) := by decide +kernel
theorem dX8_air_196 : decode cX8_air 196 = .ok (.lmul, 1) := by decide +kernel
theorem dX8_air_197 : decode cX8_air 197 = .ok (.lload 6, 2) := by decide +kernel
theorem dX8_air_199 : decode cX8_air 199 = .ok (.ldiv, 1) := by decide +kernel
theorem dX8_air_200 : decode cX8_air 200 = .ok (.lstore 10, 2) := by decide +kernel
theorem dX8_air_202 : decode cX8_air 202 = .ok (.aload_n 0, 1) := by decide +kernel
theorem dX8_air_203 : decode cX8_air 203 = .ok (.getfield 288, 3) := by decide +kernel
theorem dX8_air_206 : decode cX8_air 206 = .ok (.i2l, 1) := by decide +kernel
theorem dX8_air_207 : decode cX8_air 207 = .ok (.iload_n 1, 1) := by decide +kernel
theorem dX8_air_208 : decode cX8_air 208 = .ok (.i2l, 1) := by decide +kernel
theorem dX8_air_209 : decode cX8_air 209 = .ok (.lload 4, 2) := by decide +kernel
theorem dX8_air_211 : decode cX8_air 211 = .ok (.lmul, 1) := by decide +kernel
theorem dX8_air_212 : decode cX8_air 212 = .ok (.aload_n 0, 1) := by decide +kernel
theorem dX8_air_213 : decode cX8_air 213 = .ok (.getfield 239, 3) := by decide +kernel
theorem dX8_air_216 : decode cX8_air 216 = .ok (.i2l, 1) := by decide +kernel
theorem dX8_air_217 : decode cX8_air 217 = .ok (.lload 8, 2) := by decide +kernel
theorem dX8_air_219 : decode cX8_air 219 = .ok (.lmul, 1) := by decide +kernel
theorem dX8_air_220 : decode cX8_air 220 = .ok (.lsub, 1) := by decide +kernel
theorem dX8_air_221 : decode cX8_air 221 = .ok (.aload_n 0, 1) := by decide +kernel
theorem dX8_air_222 : decode cX8_air 222 = .ok (.getfield 9, 3) := by decide +kernel
theorem dX8_air_225 : decode cX8_air 225 = .ok (.bipush 10, 2) := by decide +kernel
theorem dX8_air_227 : decode cX8_air 227 = .ok (.iaload, 1) := by decide +kernel
theorem dX8_air_228 : decode cX8_air 228 = .ok (.i2l, 1) := by decide +kernel
theorem dX8_air_229 : decode cX8_air 229 = .ok (.lmul, 1) := by decide +kernel
theorem dX8_air_230 : decode cX8_air 230 = .ok (.ldc2_w 322, 3) := by decide +kernel
theorem dX8_air_233 : decode cX8_air 233 = .ok (.ldiv, 1) := by decide +kernel
theorem dX8_air_234 : decode cX8_air 234 = .ok (.ladd, 1) := by decide +kernel
theorem dX8_air_235 : decode cX8_air 235 = .ok (.lstore 12, 2) := by decide +kernel
theorem dX8_air_237 : decode cX8_air 237 = .ok (.lload 12, 2) := by decide +kernel
theorem dX8_air_239 : decode cX8_air 239 = .ok (.lload 12, 2) := by decide +kernel
theorem dX8_air_241 : decode cX8_air 241 = .ok (.aload_n 0, 1) := by decide +kernel
theorem dX8_air_242 : decode cX8_air 242 = .ok (.getfield 9, 3) := by decide +kernel
theorem dX8_air_245 : decode cX8_air 245 = .ok (.bipush 11, 2) := by decide +kernel
theorem dX8_air_247 : decode cX8_air 247 = .ok (.iaload, 1) := by decide +kernel
theorem dX8_air_248 : decode cX8_air 248 = .ok (.i2l, 1) := by decide +kernel
theorem dX8_air_249 : decode cX8_air 249 = .ok (.lmul, 1) := by decide +kernel
theorem dX8_air_250 : decode cX8_air 250 = .ok (.ldc2_w 75, 3) := by decide +kernel
theorem dX8_air_253 : decode cX8_air 253 = .ok (.ldiv, 1) := by decide +kernel
theorem dX8_air_254 : decode cX8_air 254 = .ok (.lsub, 1) := by decide +kernel
theorem dX8_air_255 : decode cX8_air 255 = .ok (.lstore 12, 2) := by decide +kernel
theorem dX8_air_257 : decode cX8_air 257 = .ok (.aload_n 0, 1) := by decide +kernel
theorem dX8_air_258 : decode cX8_air 258 = .ok (.lload 12, 2) := by decide +kernel
theorem dX8_air_260 : decode cX8_air 260 = .ok (.sipush 200, 3) := by decide +kernel
theorem dX8_air_263 : decode cX8_air 263 = .ok (.invokestatic 318, 3) := by decide +kernel
theorem dX8_air_266 : decode cX8_air 266 = .ok (.putfield 288, 3) := by decide +kernel
theorem dX8_air_269 : decode cX8_air 269 = .ok (.aload_n 0, 1) := by decide +kernel
theorem dX8_air_270 : decode cX8_air 270 = .ok (.aload_n 0, 1) := by decide +kernel
theorem dX8_air_271 : decode cX8_air 271 = .ok (.getfield 286, 3) := by decide +kernel
theorem dX8_air_274 : decode cX8_air 274 = .ok (.aload_n 0, 1) := by decide +kernel
theorem dX8_air_275 : decode cX8_air 275 = .ok (.getfield 288, 3) := by decide +kernel
theorem dX8_air_278 : decode cX8_air 278 = .ok (.iadd, 1) := by decide +kernel
theorem dX8_air_279 : decode cX8_air 279 = .ok (.sipush 1024, 3) := by decide +kernel
theorem dX8_air_282 : decode cX8_air 282 = .ok (.iadd, 1) := by decide +kernel
theorem dX8_air_283 : decode cX8_air 283 = .ok (.sipush 1024, 3) := by decide +kernel
theorem dX8_air_286 : decode cX8_air 286 = .ok (.irem, 1) := by decide +kernel
theorem dX8_air_287 : decode cX8_air 287 = .ok (.putfield 286, 3) := by decide +kernel
theorem dX8_air_290 : decode cX8_air 290 = .ok (.aload_n 0, 1) := by decide +kernel
theorem dX8_air_291 : decode cX8_air 291 = .ok (.getfield 280, 3) := by decide +kernel
theorem dX8_air_294 : decode cX8_air 294 = .ok (.i2l, 1) := by decide +kernel
theorem dX8_air_295 : decode cX8_air 295 = .ok (.lload 10, 2) := by decide +kernel
theorem dX8_air_297 : decode cX8_air 297 = .ok (.lneg, 1) := by decide +kernel
theorem dX8_air_298 : decode cX8_air 298 = .ok (.aload_n 0, 1) := by decide +kernel
theorem dX8_air_299 : decode cX8_air 299 = .ok (.getfield 45, 3) := by decide +kernel
theorem dX8_air_302 : decode cX8_air 302 = .ok (.iload_n 2, 1) := by decide +kernel
theorem dX8_air_303 : decode cX8_air 303 = .ok (.iaload, 1) := by decide +kernel
theorem dX8_air_304 : decode cX8_air 304 = .ok (.i2l, 1) := by decide +kernel
theorem dX8_air_305 : decode cX8_air 305 = .ok (.lmul, 1) := by decide +kernel
theorem dX8_air_306 : decode cX8_air 306 = .ok (.lload 8, 2) := by decide +kernel
theorem dX8_air_308 : decode cX8_air 308 = .ok (.aload_n 0, 1) := by decide +kernel
theorem dX8_air_309 : decode cX8_air 309 = .ok (.getfield 42, 3) := by decide +kernel
theorem dX8_air_312 : decode cX8_air 312 = .ok (.iload_n 2, 1) := by decide +kernel
theorem dX8_air_313 : decode cX8_air 313 = .ok (.iaload, 1) := by decide +kernel
theorem dX8_air_314 : decode cX8_air 314 = .ok (.i2l, 1) := by decide +kernel
theorem dX8_air_315 : decode cX8_air 315 = .ok (.lmul, 1) := by decide +kernel
theorem dX8_air_316 : decode cX8_air 316 = .ok (.lsub, 1) := by decide +kernel
theorem dX8_air_317 : decode cX8_air 317 = .ok (.ldc2_w 322, 3) := by decide +kernel
theorem dX8_air_320 : decode cX8_air 320 = .ok (.ldiv, 1) := by decide +kernel
theorem dX8_air_321 : decode cX8_air 321 = .ok (.ladd, 1) := by decide +kernel
theorem dX8_air_322 : decode cX8_air 322 = .ok (.sipush 2000, 3) := by decide +kernel
theorem dX8_air_325 : decode cX8_air 325 = .ok (.invokestatic 318, 3) := by decide +kernel
theorem dX8_air_328 : decode cX8_air 328 = .ok (.istore 14, 2) := by decide +kernel
theorem dX8_air_330 : decode cX8_air 330 = .ok (.aload_n 0, 1) := by decide +kernel
theorem dX8_air_331 : decode cX8_air 331 = .ok (.aload_n 0, 1) := by decide +kernel
theorem dX8_air_332 : decode cX8_air 332 = .ok (.getfield 283, 3) := by decide +kernel
theorem dX8_air_335 : decode cX8_air 335 = .ok (.i2l, 1) := by decide +kernel
theorem dX8_air_336 : decode cX8_air 336 = .ok (.lload 10, 2) := by decide +kernel
theorem dX8_air_338 : decode cX8_air 338 = .ok (.lneg, 1) := by decide +kernel
theorem dX8_air_339 : decode cX8_air 339 = .ok (.aload_n 0, 1) := by decide +kernel
theorem dX8_air_340 : decode cX8_air 340 = .ok (.getfield 42, 3) := by decide +kernel
theorem dX8_air_343 : decode cX8_air 343 = .ok (.iload_n 2, 1) := by decide +kernel
theorem dX8_air_344 : decode cX8_air 344 = .ok (.iaload, 1) := by decide +kernel
theorem dX8_air_345 : decode cX8_air 345 = .ok (.i2l, 1) := by decide +kernel
theorem dX8_air_346 : decode cX8_air 346 = .ok (.lmul, 1) := by decide +kernel
theorem dX8_air_347 : decode cX8_air 347 = .ok (.lload 8, 2) := by decide +kernel
theorem dX8_air_349 : decode cX8_air 349 = .ok (.aload_n 0, 1) := by decide +kernel
theorem dX8_air_350 : decode cX8_air 350 = .ok (.getfield 45, 3) := by decide +kernel
theorem dX8_air_353 : decode cX8_air 353 = .ok (.iload_n 2, 1) := by decide +kernel
theorem dX8_air_354 : decode cX8_air 354 = .ok (.iaload, 1) := by decide +kernel
theorem dX8_air_355 : decode cX8_air 355 = .ok (.i2l, 1) := by decide +kernel
theorem dX8_air_356 : decode cX8_air 356 = .ok (.lmul, 1) := by decide +kernel
theorem dX8_air_357 : decode cX8_air 357 = .ok (.ladd, 1) := by decide +kernel
theorem dX8_air_358 : decode cX8_air 358 = .ok (.ldc2_w 322, 3) := by decide +kernel
theorem dX8_air_361 : decode cX8_air 361 = .ok (.ldiv, 1) := by decide +kernel
theorem dX8_air_362 : decode cX8_air 362 = .ok (.ladd, 1) := by decide +kernel
theorem dX8_air_363 : decode cX8_air 363 = .ok (.aload_n 0, 1) := by decide +kernel
theorem dX8_air_364 : decode cX8_air 364 = .ok (.invokevirtual 331, 3) := by decide +kernel
theorem dX8_air_367 : decode cX8_air 367 = .ok (.i2l, 1) := by decide +kernel
theorem dX8_air_368 : decode cX8_air 368 = .ok (.lsub, 1) := by decide +kernel
theorem dX8_air_369 : decode cX8_air 369 = .ok (.sipush 2000, 3) := by decide +kernel
theorem dX8_air_372 : decode cX8_air 372 = .ok (.invokestatic 318, 3) := by decide +kernel
theorem dX8_air_375 : decode cX8_air 375 = .ok (.putfield 283, 3) := by decide +kernel
theorem dX8_air_378 : decode cX8_air 378 = .ok (.aload_n 0, 1) := by decide +kernel
theorem dX8_air_379 : decode cX8_air 379 = .ok (.iload 14, 2) := by decide +kernel
theorem dX8_air_381 : decode cX8_air 381 = .ok (.putfield 280, 3) := by decide +kernel
theorem dX8_air_384 : decode cX8_air 384 = .ok (.return_, 1) := by decide +kernel
theorem dX8_tick_0 : decode cX8_tick 0 = .ok (.aload_n 0, 1) := by decide +kernel
theorem dX8_tick_1 : decode cX8_tick 1 = .ok (.dup, 1) := by decide +kernel
theorem dX8_tick_2 : decode cX8_tick 2 = .ok (.getfield 291, 3) := by decide +kernel
theorem dX8_tick_5 : decode cX8_tick 5 = .ok (.iconst 1, 1) := by decide +kernel
theorem dX8_tick_6 : decode cX8_tick 6 = .ok (.iadd, 1) := by decide +kernel
theorem dX8_tick_7 : decode cX8_tick 7 = .ok (.putfield 291, 3) := by decide +kernel
theorem dX8_tick_10 : decode cX8_tick 10 = .ok (.aload_n 0, 1) := by decide +kernel
theorem dX8_tick_11 : decode cX8_tick 11 = .ok (.iload_n 1, 1) := by decide +kernel
theorem dX8_tick_12 : decode cX8_tick 12 = .ok (.invokevirtual 333, 3) := by decide +kernel
theorem dX8_tick_15 : decode cX8_tick 15 = .ok (.aload_n 0, 1) := by decide +kernel
theorem dX8_tick_16 : decode cX8_tick 16 = .ok (.getfield 274, 3) := by decide +kernel
theorem dX8_tick_19 : decode cX8_tick 19 = .ok (.istore_n 2, 1) := by decide +kernel
theorem dX8_tick_20 : decode cX8_tick 20 = .ok (.aload_n 0, 1) := by decide +kernel
theorem dX8_tick_21 : decode cX8_tick 21 = .ok (.dup, 1) := by decide +kernel
theorem dX8_tick_22 : decode cX8_tick 22 = .ok (.getfield 274, 3) := by decide +kernel
theorem dX8_tick_25 : decode cX8_tick 25 = .ok (.aload_n 0, 1) := by decide +kernel
theorem dX8_tick_26 : decode cX8_tick 26 = .ok (.getfield 280, 3) := by decide +kernel
theorem dX8_tick_29 : decode cX8_tick 29 = .ok (.iadd, 1) := by decide +kernel
theorem dX8_tick_30 : decode cX8_tick 30 = .ok (.putfield 274, 3) := by decide +kernel
theorem dX8_tick_33 : decode cX8_tick 33 = .ok (.aload_n 0, 1) := by decide +kernel
theorem dX8_tick_34 : decode cX8_tick 34 = .ok (.dup, 1) := by decide +kernel
theorem dX8_tick_35 : decode cX8_tick 35 = .ok (.getfield 277, 3) := by decide +kernel
theorem dX8_tick_38 : decode cX8_tick 38 = .ok (.aload_n 0, 1) := by decide +kernel
theorem dX8_tick_39 : decode cX8_tick 39 = .ok (.getfield 283, 3) := by decide +kernel
theorem dX8_tick_42 : decode cX8_tick 42 = .ok (.iadd, 1) := by decide +kernel
theorem dX8_tick_43 : decode cX8_tick 43 = .ok (.putfield 277, 3) := by decide +kernel
theorem dX8_tick_46 : decode cX8_tick 46 = .ok (.aload_n 0, 1) := by decide +kernel
theorem dX8_tick_47 : decode cX8_tick 47 = .ok (.getfield 9, 3) := by decide +kernel
theorem dX8_tick_50 : decode cX8_tick 50 = .ok (.bipush 12, 2) := by decide +kernel
theorem dX8_tick_52 : decode cX8_tick 52 = .ok (.iaload, 1) := by decide +kernel
theorem dX8_tick_53 : decode cX8_tick 53 = .ok (.iconst (-1), 1) := by decide +kernel
theorem dX8_tick_54 : decode cX8_tick 54 = .ok (.if_icmp .eq 45, 3) := by decide +kernel
theorem dX8_tick_57 : decode cX8_tick 57 = .ok (.aload_n 0, 1) := by decide +kernel
theorem dX8_tick_58 : decode cX8_tick 58 = .ok (.getfield 277, 3) := by decide +kernel
theorem dX8_tick_61 : decode cX8_tick 61 = .ok (.bipush 100, 2) := by decide +kernel
theorem dX8_tick_63 : decode cX8_tick 63 = .ok (.aload_n 0, 1) := by decide +kernel
theorem dX8_tick_64 : decode cX8_tick 64 = .ok (.getfield 9, 3) := by decide +kernel
theorem dX8_tick_67 : decode cX8_tick 67 = .ok (.bipush 12, 2) := by decide +kernel
theorem dX8_tick_69 : decode cX8_tick 69 = .ok (.iaload, 1) := by decide +kernel
theorem dX8_tick_70 : decode cX8_tick 70 = .ok (.imul, 1) := by decide +kernel
theorem dX8_tick_71 : decode cX8_tick 71 = .ok (.if_icmp .le 28, 3) := by decide +kernel
theorem dX8_tick_74 : decode cX8_tick 74 = .ok (.aload_n 0, 1) := by decide +kernel
theorem dX8_tick_75 : decode cX8_tick 75 = .ok (.bipush 100, 2) := by decide +kernel
theorem dX8_tick_77 : decode cX8_tick 77 = .ok (.aload_n 0, 1) := by decide +kernel
theorem dX8_tick_78 : decode cX8_tick 78 = .ok (.getfield 9, 3) := by decide +kernel
theorem dX8_tick_81 : decode cX8_tick 81 = .ok (.bipush 12, 2) := by decide +kernel
theorem dX8_tick_83 : decode cX8_tick 83 = .ok (.iaload, 1) := by decide +kernel
theorem dX8_tick_84 : decode cX8_tick 84 = .ok (.imul, 1) := by decide +kernel
theorem dX8_tick_85 : decode cX8_tick 85 = .ok (.putfield 277, 3) := by decide +kernel
theorem dX8_tick_88 : decode cX8_tick 88 = .ok (.aload_n 0, 1) := by decide +kernel
theorem dX8_tick_89 : decode cX8_tick 89 = .ok (.aload_n 0, 1) := by decide +kernel
theorem dX8_tick_90 : decode cX8_tick 90 = .ok (.getfield 283, 3) := by decide +kernel
theorem dX8_tick_93 : decode cX8_tick 93 = .ok (.ineg, 1) := by decide +kernel
theorem dX8_tick_94 : decode cX8_tick 94 = .ok (.iconst 2, 1) := by decide +kernel
theorem dX8_tick_95 : decode cX8_tick 95 = .ok (.idiv, 1) := by decide +kernel
theorem dX8_tick_96 : decode cX8_tick 96 = .ok (.putfield 283, 3) := by decide +kernel
theorem dX8_tick_99 : decode cX8_tick 99 = .ok (.aload_n 0, 1) := by decide +kernel
theorem dX8_tick_100 : decode cX8_tick 100 = .ok (.aload_n 0, 1) := by decide +kernel
theorem dX8_tick_101 : decode cX8_tick 101 = .ok (.getfield 294, 3) := by decide +kernel
theorem dX8_tick_104 : decode cX8_tick 104 = .ok (.aload_n 0, 1) := by decide +kernel
theorem dX8_tick_105 : decode cX8_tick 105 = .ok (.getfield 277, 3) := by decide +kernel
theorem dX8_tick_108 : decode cX8_tick 108 = .ok (.invokestatic 336, 3) := by decide +kernel
theorem dX8_tick_111 : decode cX8_tick 111 = .ok (.putfield 294, 3) := by decide +kernel
theorem dX8_tick_114 : decode cX8_tick 114 = .ok (.iconst 0, 1) := by decide +kernel
theorem dX8_tick_115 : decode cX8_tick 115 = .ok (.istore_n 3, 1) := by decide +kernel
theorem dX8_tick_116 : decode cX8_tick 116 = .ok (.iconst 0, 1) := by decide +kernel
theorem dX8_tick_117 : decode cX8_tick 117 = .ok (.istore 4, 2) := by decide +kernel
theorem dX8_tick_119 : decode cX8_tick 119 = .ok (.iload 4, 2) := by decide +kernel
theorem dX8_tick_121 : decode cX8_tick 121 = .ok (.aload_n 0, 1) := by decide +kernel
theorem dX8_tick_122 : decode cX8_tick 122 = .ok (.getfield 9, 3) := by decide +kernel
theorem dX8_tick_125 : decode cX8_tick 125 = .ok (.iconst 5, 1) := by decide +kernel
theorem dX8_tick_126 : decode cX8_tick 126 = .ok (.iaload, 1) := by decide +kernel
theorem dX8_tick_127 : decode cX8_tick 127 = .ok (.if_icmp .ge 74, 3) := by decide +kernel
theorem dX8_tick_130 : decode cX8_tick 130 = .ok (.aload_n 0, 1) := by decide +kernel
theorem dX8_tick_131 : decode cX8_tick 131 = .ok (.getfield 9, 3) := by decide +kernel
theorem dX8_tick_134 : decode cX8_tick 134 = .ok (.sipush 246, 3) := by decide +kernel
theorem dX8_tick_137 : decode cX8_tick 137 = .ok (.iconst 2, 1) := by decide +kernel
theorem dX8_tick_138 : decode cX8_tick 138 = .ok (.iload 4, 2) := by decide +kernel
theorem dX8_tick_140 : decode cX8_tick 140 = .ok (.imul, 1) := by decide +kernel
theorem dX8_tick_141 : decode cX8_tick 141 = .ok (.iadd, 1) := by decide +kernel
theorem dX8_tick_142 : decode cX8_tick 142 = .ok (.iaload, 1) := by decide +kernel
theorem dX8_tick_143 : decode cX8_tick 143 = .ok (.istore 5, 2) := by decide +kernel
theorem dX8_tick_145 : decode cX8_tick 145 = .ok (.iload_n 2, 1) := by decide +kernel
theorem dX8_tick_146 : decode cX8_tick 146 = .ok (.iload 5, 2) := by decide +kernel
theorem dX8_tick_148 : decode cX8_tick 148 = .ok (.if_icmp .ge 47, 3) := by decide +kernel
theorem dX8_tick_151 : decode cX8_tick 151 = .ok (.aload_n 0, 1) := by decide +kernel
theorem dX8_tick_152 : decode cX8_tick 152 = .ok (.getfield 274, 3) := by decide +kernel
theorem dX8_tick_155 : decode cX8_tick 155 = .ok (.iload 5, 2) := by decide +kernel
theorem dX8_tick_157 : decode cX8_tick 157 = .ok (.if_icmp .lt 38, 3) := by decide +kernel
theorem dX8_tick_160 : decode cX8_tick 160 = .ok (.aload_n 0, 1) := by decide +kernel
theorem dX8_tick_161 : decode cX8_tick 161 = .ok (.getfield 277, 3) := by decide +kernel
theorem dX8_tick_164 : decode cX8_tick 164 = .ok (.aload_n 0, 1) := by decide +kernel
theorem dX8_tick_165 : decode cX8_tick 165 = .ok (.getfield 9, 3) := by decide +kernel
theorem dX8_tick_168 : decode cX8_tick 168 = .ok (.sipush 246, 3) := by decide +kernel
theorem dX8_tick_171 : decode cX8_tick 171 = .ok (.iconst 2, 1) := by decide +kernel
theorem dX8_tick_172 : decode cX8_tick 172 = .ok (.iload 4, 2) := by decide +kernel
theorem dX8_tick_174 : decode cX8_tick 174 = .ok (.imul, 1) := by decide +kernel
theorem dX8_tick_175 : decode cX8_tick 175 = .ok (.iadd, 1) := by decide +kernel
theorem dX8_tick_176 : decode cX8_tick 176 = .ok (.iconst 1, 1) := by decide +kernel
theorem dX8_tick_177 : decode cX8_tick 177 = .ok (.iadd, 1) := by decide +kernel
theorem dX8_tick_178 : decode cX8_tick 178 = .ok (.iaload, 1) := by decide +kernel
theorem dX8_tick_179 : decode cX8_tick 179 = .ok (.if_icmp .gt 16, 3) := by decide +kernel
theorem dX8_tick_182 : decode cX8_tick 182 = .ok (.iload_n 3, 1) := by decide +kernel
theorem dX8_tick_183 : decode cX8_tick 183 = .ok (.ifCond .eq 9, 3) := by decide +kernel
theorem dX8_tick_186 : decode cX8_tick 186 = .ok (.iload 5, 2) := by decide +kernel
theorem dX8_tick_188 : decode cX8_tick 188 = .ok (.iload_n 3, 1) := by decide +kernel
theorem dX8_tick_189 : decode cX8_tick 189 = .ok (.if_icmp .ge 6, 3) := by decide +kernel
theorem dX8_tick_192 : decode cX8_tick 192 = .ok (.iload 5, 2) := by decide +kernel
theorem dX8_tick_194 : decode cX8_tick 194 = .ok (.istore_n 3, 1) := by decide +kernel
theorem dX8_tick_195 : decode cX8_tick 195 = .ok (.iinc 4 1, 3) := by decide +kernel
theorem dX8_tick_198 : decode cX8_tick 198 = .ok (.goto (-79), 3) := by decide +kernel
theorem dX8_tick_201 : decode cX8_tick 201 = .ok (.aload_n 0, 1) := by decide +kernel
theorem dX8_tick_202 : decode cX8_tick 202 = .ok (.iload_n 3, 1) := by decide +kernel
theorem dX8_tick_203 : decode cX8_tick 203 = .ok (.ifCond .le 7, 3) := by decide +kernel
theorem dX8_tick_206 : decode cX8_tick 206 = .ok (.iload_n 3, 1) := by decide +kernel
theorem dX8_tick_207 : decode cX8_tick 207 = .ok (.goto 7, 3) := by decide +kernel
theorem dX8_tick_210 : decode cX8_tick 210 = .ok (.aload_n 0, 1) := by decide +kernel
theorem dX8_tick_211 : decode cX8_tick 211 = .ok (.getfield 274, 3) := by decide +kernel
theorem dX8_tick_214 : decode cX8_tick 214 = .ok (.putfield 274, 3) := by decide +kernel
theorem dX8_tick_217 : decode cX8_tick 217 = .ok (.aload_n 0, 1) := by decide +kernel
theorem dX8_tick_218 : decode cX8_tick 218 = .ok (.iload_n 3, 1) := by decide +kernel
theorem dX8_tick_219 : decode cX8_tick 219 = .ok (.ifCond .le 7, 3) := by decide +kernel
theorem dX8_tick_222 : decode cX8_tick 222 = .ok (.iconst 2, 1) := by decide +kernel
theorem dX8_tick_223 : decode cX8_tick 223 = .ok (.goto 15, 3) := by decide +kernel
theorem dX8_tick_226 : decode cX8_tick 226 = .ok (.aload_n 0, 1) := by decide +kernel
theorem dX8_tick_227 : decode cX8_tick 227 = .ok (.getfield 277, 3) := by decide +kernel
theorem dX8_tick_230 : decode cX8_tick 230 = .ok (.ifCond .gt 7, 3) := by decide +kernel
theorem dX8_tick_233 : decode cX8_tick 233 = .ok (.iconst 1, 1) := by decide +kernel
theorem dX8_tick_234 : decode cX8_tick 234 = .ok (.goto 4, 3) := by decide +kernel
theorem dX8_tick_237 : decode cX8_tick 237 = .ok (.iconst 0, 1) := by decide +kernel
theorem dX8_tick_238 : decode cX8_tick 238 = .ok (.putfield 297, 3) := by decide +kernel
theorem dX8_tick_241 : decode cX8_tick 241 = .ok (.aload_n 0, 1) := by decide +kernel
theorem dX8_tick_242 : decode cX8_tick 242 = .ok (.dup, 1) := by decide +kernel
theorem dX8_tick_243 : decode cX8_tick 243 = .ok (.getfield 300, 3) := by decide +kernel
theorem dX8_tick_246 : decode cX8_tick 246 = .ok (.aload_n 0, 1) := by decide +kernel
theorem dX8_tick_247 : decode cX8_tick 247 = .ok (.getfield 288, 3) := by decide +kernel
theorem dX8_tick_250 : decode cX8_tick 250 = .ok (.iadd, 1) := by decide +kernel
theorem dX8_tick_251 : decode cX8_tick 251 = .ok (.putfield 300, 3) := by decide +kernel
theorem dX8_tick_254 : decode cX8_tick 254 = .ok (.aload_n 0, 1) := by decide +kernel
theorem dX8_tick_255 : decode cX8_tick 255 = .ok (.aload_n 0, 1) := by decide +kernel
theorem dX8_tick_256 : decode cX8_tick 256 = .ok (.getfield 288, 3) := by decide +kernel
theorem dX8_tick_259 : decode cX8_tick 259 = .ok (.i2l, 1) := by decide +kernel
theorem dX8_tick_260 : decode cX8_tick 260 = .ok (.ldc2_w 338, 3) := by decide +kernel
theorem dX8_tick_263 : decode cX8_tick 263 = .ok (.ldc2_w 216, 3) := by decide +kernel
theorem dX8_tick_266 : decode cX8_tick 266 = .ok (.invokestatic 67, 3) := by decide +kernel
theorem dX8_tick_269 : decode cX8_tick 269 = .ok (.ifCond .eq 12, 3) := by decide +kernel
theorem dX8_tick_272 : decode cX8_tick 272 = .ok (.aload_n 0, 1) := by decide +kernel
theorem dX8_tick_273 : decode cX8_tick 273 = .ok (.getfield 303, 3) := by decide +kernel
theorem dX8_tick_276 : decode cX8_tick 276 = .ok (.iconst 1, 1) := by decide +kernel
theorem dX8_tick_277 : decode cX8_tick 277 = .ok (.iadd, 1) := by decide +kernel
theorem dX8_tick_278 : decode cX8_tick 278 = .ok (.goto 4, 3) := by decide +kernel
theorem dX8_tick_281 : decode cX8_tick 281 = .ok (.iconst 0, 1) := by decide +kernel
theorem dX8_tick_282 : decode cX8_tick 282 = .ok (.putfield 303, 3) := by decide +kernel
theorem dX8_tick_285 : decode cX8_tick 285 = .ok (.aload_n 0, 1) := by decide +kernel
theorem dX8_tick_286 : decode cX8_tick 286 = .ok (.getfield 340, 3) := by decide +kernel
theorem dX8_tick_289 : decode cX8_tick 289 = .ok (.ifCond .le 48, 3) := by decide +kernel
theorem dX8_tick_292 : decode cX8_tick 292 = .ok (.iload_n 2, 1) := by decide +kernel
theorem dX8_tick_293 : decode cX8_tick 293 = .ok (.aload_n 0, 1) := by decide +kernel
theorem dX8_tick_294 : decode cX8_tick 294 = .ok (.getfield 340, 3) := by decide +kernel
theorem dX8_tick_297 : decode cX8_tick 297 = .ok (.if_icmp .ge 40, 3) := by decide +kernel
theorem dX8_tick_300 : decode cX8_tick 300 = .ok (.aload_n 0, 1) := by decide +kernel
theorem dX8_tick_301 : decode cX8_tick 301 = .ok (.getfield 274, 3) := by decide +kernel
theorem dX8_tick_304 : decode cX8_tick 304 = .ok (.aload_n 0, 1) := by decide +kernel
theorem dX8_tick_305 : decode cX8_tick 305 = .ok (.getfield 340, 3) := by decide +kernel
theorem dX8_tick_308 : decode cX8_tick 308 = .ok (.if_icmp .lt 29, 3) := by decide +kernel
theorem dX8_tick_311 : decode cX8_tick 311 = .ok (.aload_n 0, 1) := by decide +kernel
theorem dX8_tick_312 : decode cX8_tick 312 = .ok (.getfield 277, 3) := by decide +kernel
theorem dX8_tick_315 : decode cX8_tick 315 = .ok (.i2l, 1) := by decide +kernel
theorem dX8_tick_316 : decode cX8_tick 316 = .ok (.aload_n 0, 1) := by decide +kernel
theorem dX8_tick_317 : decode cX8_tick 317 = .ok (.getfield 343, 3) := by decide +kernel
theorem dX8_tick_320 : decode cX8_tick 320 = .ok (.i2l, 1) := by decide +kernel
theorem dX8_tick_321 : decode cX8_tick 321 = .ok (.aload_n 0, 1) := by decide +kernel
theorem dX8_tick_322 : decode cX8_tick 322 = .ok (.getfield 346, 3) := by decide +kernel
theorem dX8_tick_325 : decode cX8_tick 325 = .ok (.i2l, 1) := by decide +kernel
theorem dX8_tick_326 : decode cX8_tick 326 = .ok (.invokestatic 67, 3) := by decide +kernel
theorem dX8_tick_329 : decode cX8_tick 329 = .ok (.ifCond .eq 8, 3) := by decide +kernel
theorem dX8_tick_332 : decode cX8_tick 332 = .ok (.aload_n 0, 1) := by decide +kernel
theorem dX8_tick_333 : decode cX8_tick 333 = .ok (.iconst 1, 1) := by decide +kernel
theorem dX8_tick_334 : decode cX8_tick 334 = .ok (.putfield 306, 3) := by decide +kernel
theorem dX8_tick_337 : decode cX8_tick 337 = .ok (.return_, 1) := by decide +kernel
theorem dX8_flies_0 : decode cX8_flies 0 = .ok (.aload_n 0, 1) := by decide +kernel
theorem dX8_flies_1 : decode cX8_flies 1 = .ok (.iload_n 2, 1) := by decide +kernel
theorem dX8_flies_2 : decode cX8_flies 2 = .ok (.iload_n 3, 1) := by decide +kernel
theorem dX8_flies_3 : decode cX8_flies 3 = .ok (.invokevirtual 349, 3) := by decide +kernel
theorem dX8_flies_6 : decode cX8_flies 6 = .ok (.aload_n 0, 1) := by decide +kernel
theorem dX8_flies_7 : decode cX8_flies 7 = .ok (.getfield 291, 3) := by decide +kernel
theorem dX8_flies_10 : decode cX8_flies 10 = .ok (.iload 4, 2) := by decide +kernel
theorem dX8_flies_12 : decode cX8_flies 12 = .ok (.if_icmp .ge 18, 3) := by decide +kernel
theorem dX8_flies_15 : decode cX8_flies 15 = .ok (.aload_n 0, 1) := by decide +kernel
theorem dX8_flies_16 : decode cX8_flies 16 = .ok (.getfield 297, 3) := by decide +kernel
theorem dX8_flies_19 : decode cX8_flies 19 = .ok (.ifCond .ne 11, 3) := by decide +kernel
theorem dX8_flies_22 : decode cX8_flies 22 = .ok (.aload_n 0, 1) := by decide +kernel
theorem dX8_flies_23 : decode cX8_flies 23 = .ok (.iload_n 1, 1) := by decide +kernel
theorem dX8_flies_24 : decode cX8_flies 24 = .ok (.invokevirtual 353, 3) := by decide +kernel
theorem dX8_flies_27 : decode cX8_flies 27 = .ok (.goto (-21), 3) := by decide +kernel
theorem dX8_flies_30 : decode cX8_flies 30 = .ok (.return_, 1) := by decide +kernel
theorem dX8_far_0 : decode cX8_far 0 = .ok (.aload_n 0, 1) := by decide +kernel
theorem dX8_far_1 : decode cX8_far 1 = .ok (.iload_n 1, 1) := by decide +kernel
theorem dX8_far_2 : decode cX8_far 2 = .ok (.iload_n 2, 1) := by decide +kernel
theorem dX8_far_3 : decode cX8_far 3 = .ok (.iload_n 3, 1) := by decide +kernel
theorem dX8_far_4 : decode cX8_far 4 = .ok (.sipush 200, 3) := by decide +kernel
theorem dX8_far_7 : decode cX8_far 7 = .ok (.invokevirtual 356, 3) := by decide +kernel
theorem dX8_far_10 : decode cX8_far 10 = .ok (.iload 4, 2) := by decide +kernel
theorem dX8_far_12 : decode cX8_far 12 = .ok (.ifCond .eq 10, 3) := by decide +kernel
theorem dX8_far_15 : decode cX8_far 15 = .ok (.aload_n 0, 1) := by decide +kernel
theorem dX8_far_16 : decode cX8_far 16 = .ok (.getfield 291, 3) := by decide +kernel
theorem dX8_far_19 : decode cX8_far 19 = .ok (.goto 7, 3) := by decide +kernel
theorem dX8_far_22 : decode cX8_far 22 = .ok (.aload_n 0, 1) := by decide +kernel
theorem dX8_far_23 : decode cX8_far 23 = .ok (.getfield 274, 3) := by decide +kernel
theorem dX8_far_26 : decode cX8_far 26 = .ok (.ireturn, 1) := by decide +kernel
theorem dX8_fly_0 : decode cX8_fly 0 = .ok (.aload_n 0, 1) := by decide +kernel
theorem dX8_fly_1 : decode cX8_fly 1 = .ok (.aload_n 0, 1) := by decide +kernel
theorem dX8_fly_2 : decode cX8_fly 2 = .ok (.iload_n 1, 1) := by decide +kernel
theorem dX8_fly_3 : decode cX8_fly 3 = .ok (.invokevirtual 255, 3) := by decide +kernel
theorem dX8_fly_6 : decode cX8_fly 6 = .ok (.putfield 64, 3) := by decide +kernel
theorem dX8_fly_9 : decode cX8_fly 9 = .ok (.aload_n 0, 1) := by decide +kernel
theorem dX8_fly_10 : decode cX8_fly 10 = .ok (.getfield 64, 3) := by decide +kernel
theorem dX8_fly_13 : decode cX8_fly 13 = .ok (.ifCond .le 5, 3) := by decide +kernel
theorem dX8_fly_16 : decode cX8_fly 16 = .ok (.iconst 0, 1) := by decide +kernel
theorem dX8_fly_17 : decode cX8_fly 17 = .ok (.ireturn, 1) := by decide +kernel
theorem dX8_fly_18 : decode cX8_fly 18 = .ok (.iload_n 2, 1) := by decide +kernel
theorem dX8_fly_19 : decode cX8_fly 19 = .ok (.invokestatic 360, 3) := by decide +kernel
theorem dX8_fly_22 : decode cX8_fly 22 = .ok (.ifCond .eq 31, 3) := by decide +kernel
theorem dX8_fly_25 : decode cX8_fly 25 = .ok (.iload_n 3, 1) := by decide +kernel
theorem dX8_fly_26 : decode cX8_fly 26 = .ok (.invokestatic 363, 3) := by decide +kernel
theorem dX8_fly_29 : decode cX8_fly 29 = .ok (.ifCond .eq 24, 3) := by decide +kernel
theorem dX8_fly_32 : decode cX8_fly 32 = .ok (.iload 4, 2) := by decide +kernel
theorem dX8_fly_34 : decode cX8_fly 34 = .ok (.invokestatic 366, 3) := by decide +kernel
theorem dX8_fly_37 : decode cX8_fly 37 = .ok (.ifCond .eq 16, 3) := by decide +kernel
theorem dX8_fly_40 : decode cX8_fly 40 = .ok (.iload 5, 2) := by decide +kernel
theorem dX8_fly_42 : decode cX8_fly 42 = .ok (.i2l, 1) := by decide +kernel
theorem dX8_fly_43 : decode cX8_fly 43 = .ok (.lconst 0, 1) := by decide +kernel
theorem dX8_fly_44 : decode cX8_fly 44 = .ok (.ldc2_w 369, 3) := by decide +kernel
theorem dX8_fly_47 : decode cX8_fly 47 = .ok (.invokestatic 67, 3) := by decide +kernel
theorem dX8_fly_50 : decode cX8_fly 50 = .ok (.ifCond .ne 9, 3) := by decide +kernel
theorem dX8_fly_53 : decode cX8_fly 53 = .ok (.aload_n 0, 1) := by decide +kernel
theorem dX8_fly_54 : decode cX8_fly 54 = .ok (.iconst 3, 1) := by decide +kernel
theorem dX8_fly_55 : decode cX8_fly 55 = .ok (.invokevirtual 146, 3) := by decide +kernel
theorem dX8_fly_58 : decode cX8_fly 58 = .ok (.ireturn, 1) := by decide +kernel
theorem dX8_fly_59 : decode cX8_fly 59 = .ok (.aload_n 0, 1) := by decide +kernel
theorem dX8_fly_60 : decode cX8_fly 60 = .ok (.iload_n 2, 1) := by decide +kernel
theorem dX8_fly_61 : decode cX8_fly 61 = .ok (.iload_n 3, 1) := by decide +kernel
theorem dX8_fly_62 : decode cX8_fly 62 = .ok (.iload 4, 2) := by decide +kernel
theorem dX8_fly_64 : decode cX8_fly 64 = .ok (.sipush 200, 3) := by decide +kernel
theorem dX8_fly_67 : decode cX8_fly 67 = .ok (.invokevirtual 356, 3) := by decide +kernel
theorem dX8_fly_70 : decode cX8_fly 70 = .ok (.iload 5, 2) := by decide +kernel
theorem dX8_fly_72 : decode cX8_fly 72 = .ok (.tableswitch 68 0 4 #[36, 41, 46, 51, 56], 36) := by decide +kernel
theorem dX8_fly_108 : decode cX8_fly 108 = .ok (.aload_n 0, 1) := by decide +kernel
theorem dX8_fly_109 : decode cX8_fly 109 = .ok (.getfield 274, 3) := by decide +kernel
theorem dX8_fly_112 : decode cX8_fly 112 = .ok (.ireturn, 1) := by decide +kernel
theorem dX8_fly_113 : decode cX8_fly 113 = .ok (.aload_n 0, 1) := by decide +kernel
theorem dX8_fly_114 : decode cX8_fly 114 = .ok (.getfield 291, 3) := by decide +kernel
theorem dX8_fly_117 : decode cX8_fly 117 = .ok (.ireturn, 1) := by decide +kernel
theorem dX8_fly_118 : decode cX8_fly 118 = .ok (.aload_n 0, 1) := by decide +kernel
theorem dX8_fly_119 : decode cX8_fly 119 = .ok (.getfield 294, 3) := by decide +kernel
theorem dX8_fly_122 : decode cX8_fly 122 = .ok (.ireturn, 1) := by decide +kernel
theorem dX8_fly_123 : decode cX8_fly 123 = .ok (.aload_n 0, 1) := by decide +kernel
theorem dX8_fly_124 : decode cX8_fly 124 = .ok (.getfield 297, 3) := by decide +kernel
theorem dX8_fly_127 : decode cX8_fly 127 = .ok (.ireturn, 1) := by decide +kernel
theorem dX8_fly_128 : decode cX8_fly 128 = .ok (.aload_n 0, 1) := by decide +kernel
theorem dX8_fly_129 : decode cX8_fly 129 = .ok (.getfield 300, 3) := by decide +kernel
theorem dX8_fly_132 : decode cX8_fly 132 = .ok (.invokestatic 328, 3) := by decide +kernel
theorem dX8_fly_135 : decode cX8_fly 135 = .ok (.sipush 1024, 3) := by decide +kernel
theorem dX8_fly_138 : decode cX8_fly 138 = .ok (.idiv, 1) := by decide +kernel
theorem dX8_fly_139 : decode cX8_fly 139 = .ok (.ireturn, 1) := by decide +kernel
theorem dX8_fly_140 : decode cX8_fly 140 = .ok (.aload_n 0, 1) := by decide +kernel
theorem dX8_fly_141 : decode cX8_fly 141 = .ok (.getfield 303, 3) := by decide +kernel
theorem dX8_fly_144 : decode cX8_fly 144 = .ok (.bipush 20, 2) := by decide +kernel
theorem dX8_fly_146 : decode cX8_fly 146 = .ok (.if_icmp .lt 17, 3) := by decide +kernel
theorem dX8_fly_149 : decode cX8_fly 149 = .ok (.aload_n 0, 1) := by decide +kernel
theorem dX8_fly_150 : decode cX8_fly 150 = .ok (.getfield 291, 3) := by decide +kernel
theorem dX8_fly_153 : decode cX8_fly 153 = .ok (.aload_n 0, 1) := by decide +kernel
theorem dX8_fly_154 : decode cX8_fly 154 = .ok (.getfield 303, 3) := by decide +kernel
theorem dX8_fly_157 : decode cX8_fly 157 = .ok (.isub, 1) := by decide +kernel
theorem dX8_fly_158 : decode cX8_fly 158 = .ok (.iconst 1, 1) := by decide +kernel
theorem dX8_fly_159 : decode cX8_fly 159 = .ok (.iadd, 1) := by decide +kernel
theorem dX8_fly_160 : decode cX8_fly 160 = .ok (.goto 4, 3) := by decide +kernel
theorem dX8_fly_163 : decode cX8_fly 163 = .ok (.iconst (-1), 1) := by decide +kernel
theorem dX8_fly_164 : decode cX8_fly 164 = .ok (.ireturn, 1) := by decide +kernel
theorem dX8_at_0 : decode cX8_at 0 = .ok (.aload_n 0, 1) := by decide +kernel
theorem dX8_at_1 : decode cX8_at 1 = .ok (.aload_n 0, 1) := by decide +kernel
theorem dX8_at_2 : decode cX8_at 2 = .ok (.iload_n 1, 1) := by decide +kernel
theorem dX8_at_3 : decode cX8_at 3 = .ok (.invokevirtual 255, 3) := by decide +kernel
theorem dX8_at_6 : decode cX8_at 6 = .ok (.putfield 64, 3) := by decide +kernel
theorem dX8_at_9 : decode cX8_at 9 = .ok (.aload_n 0, 1) := by decide +kernel
theorem dX8_at_10 : decode cX8_at 10 = .ok (.getfield 64, 3) := by decide +kernel
theorem dX8_at_13 : decode cX8_at 13 = .ok (.ifCond .le 5, 3) := by decide +kernel
theorem dX8_at_16 : decode cX8_at 16 = .ok (.iconst 0, 1) := by decide +kernel
theorem dX8_at_17 : decode cX8_at 17 = .ok (.ireturn, 1) := by decide +kernel
theorem dX8_at_18 : decode cX8_at 18 = .ok (.iload_n 2, 1) := by decide +kernel
theorem dX8_at_19 : decode cX8_at 19 = .ok (.invokestatic 360, 3) := by decide +kernel
theorem dX8_at_22 : decode cX8_at 22 = .ok (.ifCond .eq 44, 3) := by decide +kernel
theorem dX8_at_25 : decode cX8_at 25 = .ok (.iload_n 3, 1) := by decide +kernel
theorem dX8_at_26 : decode cX8_at 26 = .ok (.invokestatic 363, 3) := by decide +kernel
theorem dX8_at_29 : decode cX8_at 29 = .ok (.ifCond .eq 37, 3) := by decide +kernel
theorem dX8_at_32 : decode cX8_at 32 = .ok (.iload 4, 2) := by decide +kernel
theorem dX8_at_34 : decode cX8_at 34 = .ok (.invokestatic 366, 3) := by decide +kernel
theorem dX8_at_37 : decode cX8_at 37 = .ok (.ifCond .eq 29, 3) := by decide +kernel
theorem dX8_at_40 : decode cX8_at 40 = .ok (.iload 5, 2) := by decide +kernel
theorem dX8_at_42 : decode cX8_at 42 = .ok (.i2l, 1) := by decide +kernel
theorem dX8_at_43 : decode cX8_at 43 = .ok (.lconst 0, 1) := by decide +kernel
theorem dX8_at_44 : decode cX8_at 44 = .ok (.ldc2_w 371, 3) := by decide +kernel
theorem dX8_at_47 : decode cX8_at 47 = .ok (.invokestatic 67, 3) := by decide +kernel
theorem dX8_at_50 : decode cX8_at 50 = .ok (.ifCond .eq 16, 3) := by decide +kernel
theorem dX8_at_53 : decode cX8_at 53 = .ok (.iload 6, 2) := by decide +kernel
theorem dX8_at_55 : decode cX8_at 55 = .ok (.i2l, 1) := by decide +kernel
theorem dX8_at_56 : decode cX8_at 56 = .ok (.lconst 0, 1) := by decide +kernel
theorem dX8_at_57 : decode cX8_at 57 = .ok (.ldc2_w 369, 3) := by decide +kernel
theorem dX8_at_60 : decode cX8_at 60 = .ok (.invokestatic 67, 3) := by decide +kernel
theorem dX8_at_63 : decode cX8_at 63 = .ok (.ifCond .ne 9, 3) := by decide +kernel
theorem dX8_at_66 : decode cX8_at 66 = .ok (.aload_n 0, 1) := by decide +kernel
theorem dX8_at_67 : decode cX8_at 67 = .ok (.iconst 3, 1) := by decide +kernel
theorem dX8_at_68 : decode cX8_at 68 = .ok (.invokevirtual 146, 3) := by decide +kernel
theorem dX8_at_71 : decode cX8_at 71 = .ok (.ireturn, 1) := by decide +kernel
theorem dX8_at_72 : decode cX8_at 72 = .ok (.aload_n 0, 1) := by decide +kernel
theorem dX8_at_73 : decode cX8_at 73 = .ok (.iload_n 2, 1) := by decide +kernel
theorem dX8_at_74 : decode cX8_at 74 = .ok (.iload_n 3, 1) := by decide +kernel
theorem dX8_at_75 : decode cX8_at 75 = .ok (.iload 4, 2) := by decide +kernel
theorem dX8_at_77 : decode cX8_at 77 = .ok (.iload 5, 2) := by decide +kernel
theorem dX8_at_79 : decode cX8_at 79 = .ok (.invokevirtual 356, 3) := by decide +kernel
theorem dX8_at_82 : decode cX8_at 82 = .ok (.iload 6, 2) := by decide +kernel
theorem dX8_at_84 : decode cX8_at 84 = .ok (.ifCond .ne 10, 3) := by decide +kernel
theorem dX8_at_87 : decode cX8_at 87 = .ok (.aload_n 0, 1) := by decide +kernel
theorem dX8_at_88 : decode cX8_at 88 = .ok (.getfield 274, 3) := by decide +kernel
theorem dX8_at_91 : decode cX8_at 91 = .ok (.goto 59, 3) := by decide +kernel
theorem dX8_at_94 : decode cX8_at 94 = .ok (.iload 6, 2) := by decide +kernel
theorem dX8_at_96 : decode cX8_at 96 = .ok (.iconst 1, 1) := by decide +kernel
theorem dX8_at_97 : decode cX8_at 97 = .ok (.if_icmp .ne 10, 3) := by decide +kernel
theorem dX8_at_100 : decode cX8_at 100 = .ok (.aload_n 0, 1) := by decide +kernel
theorem dX8_at_101 : decode cX8_at 101 = .ok (.getfield 277, 3) := by decide +kernel
theorem dX8_at_104 : decode cX8_at 104 = .ok (.goto 46, 3) := by decide +kernel
theorem dX8_at_107 : decode cX8_at 107 = .ok (.iload 6, 2) := by decide +kernel
theorem dX8_at_109 : decode cX8_at 109 = .ok (.iconst 2, 1) := by decide +kernel
theorem dX8_at_110 : decode cX8_at 110 = .ok (.if_icmp .ne 10, 3) := by decide +kernel
theorem dX8_at_113 : decode cX8_at 113 = .ok (.aload_n 0, 1) := by decide +kernel
theorem dX8_at_114 : decode cX8_at 114 = .ok (.getfield 280, 3) := by decide +kernel
theorem dX8_at_117 : decode cX8_at 117 = .ok (.goto 33, 3) := by decide +kernel
theorem dX8_at_120 : decode cX8_at 120 = .ok (.iload 6, 2) := by decide +kernel
theorem dX8_at_122 : decode cX8_at 122 = .ok (.iconst 3, 1) := by decide +kernel
theorem dX8_at_123 : decode cX8_at 123 = .ok (.if_icmp .ne 10, 3) := by decide +kernel
theorem dX8_at_126 : decode cX8_at 126 = .ok (.aload_n 0, 1) := by decide +kernel
theorem dX8_at_127 : decode cX8_at 127 = .ok (.getfield 283, 3) := by decide +kernel
theorem dX8_at_130 : decode cX8_at 130 = .ok (.goto 20, 3) := by decide +kernel
theorem dX8_at_133 : decode cX8_at 133 = .ok (.iload 6, 2) := by decide +kernel
theorem dX8_at_135 : decode cX8_at 135 = .ok (.iconst 4, 1) := by decide +kernel
theorem dX8_at_136 : decode cX8_at 136 = .ok (.if_icmp .ne 10, 3) := by decide +kernel
theorem dX8_at_139 : decode cX8_at 139 = .ok (.aload_n 0, 1) := by decide +kernel
theorem dX8_at_140 : decode cX8_at 140 = .ok (.getfield 286, 3) := by decide +kernel
theorem dX8_at_143 : decode cX8_at 143 = .ok (.goto 7, 3) := by decide +kernel
theorem dX8_at_146 : decode cX8_at 146 = .ok (.aload_n 0, 1) := by decide +kernel
theorem dX8_at_147 : decode cX8_at 147 = .ok (.getfield 288, 3) := by decide +kernel
theorem dX8_at_150 : decode cX8_at 150 = .ok (.ireturn, 1) := by decide +kernel
theorem dX8_draught_0 : decode cX8_draught 0 = .ok (.aload_n 0, 1) := by decide +kernel
theorem dX8_draught_1 : decode cX8_draught 1 = .ok (.iconst 0, 1) := by decide +kernel
theorem dX8_draught_2 : decode cX8_draught 2 = .ok (.putfield 64, 3) := by decide +kernel
theorem dX8_draught_5 : decode cX8_draught 5 = .ok (.iload_n 1, 1) := by decide +kernel
theorem dX8_draught_6 : decode cX8_draught 6 = .ok (.i2l, 1) := by decide +kernel
theorem dX8_draught_7 : decode cX8_draught 7 = .ok (.lconst 1, 1) := by decide +kernel
theorem dX8_draught_8 : decode cX8_draught 8 = .ok (.ldc2_w 371, 3) := by decide +kernel
theorem dX8_draught_11 : decode cX8_draught 11 = .ok (.invokestatic 67, 3) := by decide +kernel
theorem dX8_draught_14 : decode cX8_draught 14 = .ok (.ifCond .eq 30, 3) := by decide +kernel
theorem dX8_draught_17 : decode cX8_draught 17 = .ok (.iload_n 2, 1) := by decide +kernel
theorem dX8_draught_18 : decode cX8_draught 18 = .ok (.i2l, 1) := by decide +kernel
theorem dX8_draught_19 : decode cX8_draught 19 = .ok (.iload_n 1, 1) := by decide +kernel
theorem dX8_draught_20 : decode cX8_draught 20 = .ok (.i2l, 1) := by decide +kernel
theorem dX8_draught_21 : decode cX8_draught 21 = .ok (.ldc2_w 371, 3) := by decide +kernel
theorem dX8_draught_24 : decode cX8_draught 24 = .ok (.invokestatic 67, 3) := by decide +kernel
theorem dX8_draught_27 : decode cX8_draught 27 = .ok (.ifCond .eq 17, 3) := by decide +kernel
theorem dX8_draught_30 : decode cX8_draught 30 = .ok (.iload_n 3, 1) := by decide +kernel
theorem dX8_draught_31 : decode cX8_draught 31 = .ok (.i2l, 1) := by decide +kernel
theorem dX8_draught_32 : decode cX8_draught 32 = .ok (.ldc2_w 373, 3) := by decide +kernel
theorem dX8_draught_35 : decode cX8_draught 35 = .ok (.ldc2_w 375, 3) := by decide +kernel
theorem dX8_draught_38 : decode cX8_draught 38 = .ok (.invokestatic 67, 3) := by decide +kernel
theorem dX8_draught_41 : decode cX8_draught 41 = .ok (.ifCond .ne 9, 3) := by decide +kernel
theorem dX8_draught_44 : decode cX8_draught 44 = .ok (.aload_n 0, 1) := by decide +kernel
theorem dX8_draught_45 : decode cX8_draught 45 = .ok (.iconst 1, 1) := by decide +kernel
theorem dX8_draught_46 : decode cX8_draught 46 = .ok (.invokevirtual 146, 3) := by decide +kernel
theorem dX8_draught_49 : decode cX8_draught 49 = .ok (.ireturn, 1) := by decide +kernel
theorem dX8_draught_50 : decode cX8_draught 50 = .ok (.aload_n 0, 1) := by decide +kernel
theorem dX8_draught_51 : decode cX8_draught 51 = .ok (.getfield 9, 3) := by decide +kernel
theorem dX8_draught_54 : decode cX8_draught 54 = .ok (.iconst 4, 1) := by decide +kernel
theorem dX8_draught_55 : decode cX8_draught 55 = .ok (.iaload, 1) := by decide +kernel
theorem dX8_draught_56 : decode cX8_draught 56 = .ok (.iconst 4, 1) := by decide +kernel
theorem dX8_draught_57 : decode cX8_draught 57 = .ok (.if_icmp .ne 5, 3) := by decide +kernel
theorem dX8_draught_60 : decode cX8_draught 60 = .ok (.iconst (-1), 1) := by decide +kernel
theorem dX8_draught_61 : decode cX8_draught 61 = .ok (.ireturn, 1) := by decide +kernel
theorem dX8_draught_62 : decode cX8_draught 62 = .ok (.sipush 234, 3) := by decide +kernel
theorem dX8_draught_65 : decode cX8_draught 65 = .ok (.iconst 3, 1) := by decide +kernel
theorem dX8_draught_66 : decode cX8_draught 66 = .ok (.aload_n 0, 1) := by decide +kernel
theorem dX8_draught_67 : decode cX8_draught 67 = .ok (.getfield 9, 3) := by decide +kernel
theorem dX8_draught_70 : decode cX8_draught 70 = .ok (.iconst 4, 1) := by decide +kernel
theorem dX8_draught_71 : decode cX8_draught 71 = .ok (.iaload, 1) := by decide +kernel
theorem dX8_draught_72 : decode cX8_draught 72 = .ok (.imul, 1) := by decide +kernel
theorem dX8_draught_73 : decode cX8_draught 73 = .ok (.iadd, 1) := by decide +kernel
theorem dX8_draught_74 : decode cX8_draught 74 = .ok (.istore 4, 2) := by decide +kernel
theorem dX8_draught_76 : decode cX8_draught 76 = .ok (.aload_n 0, 1) := by decide +kernel
theorem dX8_draught_77 : decode cX8_draught 77 = .ok (.getfield 9, 3) := by decide +kernel
theorem dX8_draught_80 : decode cX8_draught 80 = .ok (.iload 4, 2) := by decide +kernel
theorem dX8_draught_82 : decode cX8_draught 82 = .ok (.iload_n 1, 1) := by decide +kernel
theorem dX8_draught_83 : decode cX8_draught 83 = .ok (.iastore, 1) := by decide +kernel
theorem dX8_draught_84 : decode cX8_draught 84 = .ok (.aload_n 0, 1) := by decide +kernel
theorem dX8_draught_85 : decode cX8_draught 85 = .ok (.getfield 9, 3) := by decide +kernel
theorem dX8_draught_88 : decode cX8_draught 88 = .ok (.iload 4, 2) := by decide +kernel
theorem dX8_draught_90 : decode cX8_draught 90 = .ok (.iconst 1, 1) := by decide +kernel
theorem dX8_draught_91 : decode cX8_draught 91 = .ok (.iadd, 1) := by decide +kernel
theorem dX8_draught_92 : decode cX8_draught 92 = .ok (.iload_n 2, 1) := by decide +kernel
theorem dX8_draught_93 : decode cX8_draught 93 = .ok (.iastore, 1) := by decide +kernel
theorem dX8_draught_94 : decode cX8_draught 94 = .ok (.aload_n 0, 1) := by decide +kernel
theorem dX8_draught_95 : decode cX8_draught 95 = .ok (.getfield 9, 3) := by decide +kernel
theorem dX8_draught_98 : decode cX8_draught 98 = .ok (.iload 4, 2) := by decide +kernel
theorem dX8_draught_100 : decode cX8_draught 100 = .ok (.iconst 2, 1) := by decide +kernel
theorem dX8_draught_101 : decode cX8_draught 101 = .ok (.iadd, 1) := by decide +kernel
theorem dX8_draught_102 : decode cX8_draught 102 = .ok (.iload_n 3, 1) := by decide +kernel
theorem dX8_draught_103 : decode cX8_draught 103 = .ok (.iastore, 1) := by decide +kernel
theorem dX8_draught_104 : decode cX8_draught 104 = .ok (.aload_n 0, 1) := by decide +kernel
theorem dX8_draught_105 : decode cX8_draught 105 = .ok (.getfield 9, 3) := by decide +kernel
theorem dX8_draught_108 : decode cX8_draught 108 = .ok (.iconst 4, 1) := by decide +kernel
theorem dX8_draught_109 : decode cX8_draught 109 = .ok (.dup2, 1) := by decide +kernel
theorem dX8_draught_110 : decode cX8_draught 110 = .ok (.iaload, 1) := by decide +kernel
theorem dX8_draught_111 : decode cX8_draught 111 = .ok (.iconst 1, 1) := by decide +kernel
theorem dX8_draught_112 : decode cX8_draught 112 = .ok (.iadd, 1) := by decide +kernel
theorem dX8_draught_113 : decode cX8_draught 113 = .ok (.iastore, 1) := by decide +kernel
theorem dX8_draught_114 : decode cX8_draught 114 = .ok (.aload_n 0, 1) := by decide +kernel
theorem dX8_draught_115 : decode cX8_draught 115 = .ok (.getfield 9, 3) := by decide +kernel
theorem dX8_draught_118 : decode cX8_draught 118 = .ok (.iconst 4, 1) := by decide +kernel
theorem dX8_draught_119 : decode cX8_draught 119 = .ok (.iaload, 1) := by decide +kernel
theorem dX8_draught_120 : decode cX8_draught 120 = .ok (.iconst 1, 1) := by decide +kernel
theorem dX8_draught_121 : decode cX8_draught 121 = .ok (.isub, 1) := by decide +kernel
theorem dX8_draught_122 : decode cX8_draught 122 = .ok (.ireturn, 1) := by decide +kernel
theorem dX8_crate_0 : decode cX8_crate 0 = .ok (.aload_n 0, 1) := by decide +kernel
theorem dX8_crate_1 : decode cX8_crate 1 = .ok (.iconst 0, 1) := by decide +kernel
theorem dX8_crate_2 : decode cX8_crate 2 = .ok (.putfield 64, 3) := by decide +kernel
theorem dX8_crate_5 : decode cX8_crate 5 = .ok (.iload_n 1, 1) := by decide +kernel
theorem dX8_crate_6 : decode cX8_crate 6 = .ok (.i2l, 1) := by decide +kernel
theorem dX8_crate_7 : decode cX8_crate 7 = .ok (.lconst 1, 1) := by decide +kernel
theorem dX8_crate_8 : decode cX8_crate 8 = .ok (.ldc2_w 377, 3) := by decide +kernel
theorem dX8_crate_11 : decode cX8_crate 11 = .ok (.invokestatic 67, 3) := by decide +kernel
theorem dX8_crate_14 : decode cX8_crate 14 = .ok (.ifCond .eq 15, 3) := by decide +kernel
theorem dX8_crate_17 : decode cX8_crate 17 = .ok (.iload_n 2, 1) := by decide +kernel
theorem dX8_crate_18 : decode cX8_crate 18 = .ok (.i2l, 1) := by decide +kernel
theorem dX8_crate_19 : decode cX8_crate 19 = .ok (.lconst 1, 1) := by decide +kernel
theorem dX8_crate_20 : decode cX8_crate 20 = .ok (.ldc2_w 379, 3) := by decide +kernel
theorem dX8_crate_23 : decode cX8_crate 23 = .ok (.invokestatic 67, 3) := by decide +kernel
theorem dX8_crate_26 : decode cX8_crate 26 = .ok (.ifCond .ne 9, 3) := by decide +kernel
theorem dX8_crate_29 : decode cX8_crate 29 = .ok (.aload_n 0, 1) := by decide +kernel
theorem dX8_crate_30 : decode cX8_crate 30 = .ok (.iconst 1, 1) := by decide +kernel
theorem dX8_crate_31 : decode cX8_crate 31 = .ok (.invokevirtual 146, 3) := by decide +kernel
theorem dX8_crate_34 : decode cX8_crate 34 = .ok (.ireturn, 1) := by decide +kernel
theorem dX8_crate_35 : decode cX8_crate 35 = .ok (.aload_n 0, 1) := by decide +kernel
theorem dX8_crate_36 : decode cX8_crate 36 = .ok (.getfield 9, 3) := by decide +kernel
theorem dX8_crate_39 : decode cX8_crate 39 = .ok (.iconst 5, 1) := by decide +kernel
theorem dX8_crate_40 : decode cX8_crate 40 = .ok (.iaload, 1) := by decide +kernel
theorem dX8_crate_41 : decode cX8_crate 41 = .ok (.iconst 3, 1) := by decide +kernel
theorem dX8_crate_42 : decode cX8_crate 42 = .ok (.if_icmp .ne 5, 3) := by decide +kernel
theorem dX8_crate_45 : decode cX8_crate 45 = .ok (.iconst (-1), 1) := by decide +kernel
theorem dX8_crate_46 : decode cX8_crate 46 = .ok (.ireturn, 1) := by decide +kernel
theorem dX8_crate_47 : decode cX8_crate 47 = .ok (.aload_n 0, 1) := by decide +kernel
theorem dX8_crate_48 : decode cX8_crate 48 = .ok (.getfield 9, 3) := by decide +kernel
theorem dX8_crate_51 : decode cX8_crate 51 = .ok (.sipush 246, 3) := by decide +kernel
theorem dX8_crate_54 : decode cX8_crate 54 = .ok (.iconst 2, 1) := by decide +kernel
theorem dX8_crate_55 : decode cX8_crate 55 = .ok (.aload_n 0, 1) := by decide +kernel
theorem dX8_crate_56 : decode cX8_crate 56 = .ok (.getfield 9, 3) := by decide +kernel
theorem dX8_crate_59 : decode cX8_crate 59 = .ok (.iconst 5, 1) := by decide +kernel
theorem dX8_crate_60 : decode cX8_crate 60 = .ok (.iaload, 1) := by decide +kernel
