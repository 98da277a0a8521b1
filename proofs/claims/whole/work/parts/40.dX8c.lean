theorem dX8_crate_61 : decode cX8_crate 61 = .ok (.imul, 1) := by decide +kernel
theorem dX8_crate_62 : decode cX8_crate 62 = .ok (.iadd, 1) := by decide +kernel
theorem dX8_crate_63 : decode cX8_crate 63 = .ok (.iload_n 1, 1) := by decide +kernel
theorem dX8_crate_64 : decode cX8_crate 64 = .ok (.iastore, 1) := by decide +kernel
theorem dX8_crate_65 : decode cX8_crate 65 = .ok (.aload_n 0, 1) := by decide +kernel
theorem dX8_crate_66 : decode cX8_crate 66 = .ok (.getfield 9, 3) := by decide +kernel
theorem dX8_crate_69 : decode cX8_crate 69 = .ok (.sipush 246, 3) := by decide +kernel
theorem dX8_crate_72 : decode cX8_crate 72 = .ok (.iconst 2, 1) := by decide +kernel
theorem dX8_crate_73 : decode cX8_crate 73 = .ok (.aload_n 0, 1) := by decide +kernel
theorem dX8_crate_74 : decode cX8_crate 74 = .ok (.getfield 9, 3) := by decide +kernel
theorem dX8_crate_77 : decode cX8_crate 77 = .ok (.iconst 5, 1) := by decide +kernel
theorem dX8_crate_78 : decode cX8_crate 78 = .ok (.iaload, 1) := by decide +kernel
theorem dX8_crate_79 : decode cX8_crate 79 = .ok (.imul, 1) := by decide +kernel
theorem dX8_crate_80 : decode cX8_crate 80 = .ok (.iadd, 1) := by decide +kernel
theorem dX8_crate_81 : decode cX8_crate 81 = .ok (.iconst 1, 1) := by decide +kernel
theorem dX8_crate_82 : decode cX8_crate 82 = .ok (.iadd, 1) := by decide +kernel
theorem dX8_crate_83 : decode cX8_crate 83 = .ok (.iload_n 2, 1) := by decide +kernel
theorem dX8_crate_84 : decode cX8_crate 84 = .ok (.iastore, 1) := by decide +kernel
theorem dX8_crate_85 : decode cX8_crate 85 = .ok (.aload_n 0, 1) := by decide +kernel
theorem dX8_crate_86 : decode cX8_crate 86 = .ok (.getfield 9, 3) := by decide +kernel
theorem dX8_crate_89 : decode cX8_crate 89 = .ok (.iconst 5, 1) := by decide +kernel
theorem dX8_crate_90 : decode cX8_crate 90 = .ok (.dup2, 1) := by decide +kernel
theorem dX8_crate_91 : decode cX8_crate 91 = .ok (.iaload, 1) := by decide +kernel
theorem dX8_crate_92 : decode cX8_crate 92 = .ok (.iconst 1, 1) := by decide +kernel
theorem dX8_crate_93 : decode cX8_crate 93 = .ok (.iadd, 1) := by decide +kernel
theorem dX8_crate_94 : decode cX8_crate 94 = .ok (.iastore, 1) := by decide +kernel
theorem dX8_crate_95 : decode cX8_crate 95 = .ok (.aload_n 0, 1) := by decide +kernel
theorem dX8_crate_96 : decode cX8_crate 96 = .ok (.getfield 9, 3) := by decide +kernel
theorem dX8_crate_99 : decode cX8_crate 99 = .ok (.iconst 5, 1) := by decide +kernel
theorem dX8_crate_100 : decode cX8_crate 100 = .ok (.iaload, 1) := by decide +kernel
theorem dX8_crate_101 : decode cX8_crate 101 = .ok (.iconst 1, 1) := by decide +kernel
theorem dX8_crate_102 : decode cX8_crate 102 = .ok (.isub, 1) := by decide +kernel
theorem dX8_crate_103 : decode cX8_crate 103 = .ok (.ireturn, 1) := by decide +kernel
theorem dX8_still_0 : decode cX8_still 0 = .ok (.aload_n 0, 1) := by decide +kernel
theorem dX8_still_1 : decode cX8_still 1 = .ok (.iconst 0, 1) := by decide +kernel
theorem dX8_still_2 : decode cX8_still 2 = .ok (.putfield 64, 3) := by decide +kernel
theorem dX8_still_5 : decode cX8_still 5 = .ok (.aload_n 0, 1) := by decide +kernel
theorem dX8_still_6 : decode cX8_still 6 = .ok (.getfield 9, 3) := by decide +kernel
theorem dX8_still_9 : decode cX8_still 9 = .ok (.iconst 4, 1) := by decide +kernel
theorem dX8_still_10 : decode cX8_still 10 = .ok (.iaload, 1) := by decide +kernel
theorem dX8_still_11 : decode cX8_still 11 = .ok (.aload_n 0, 1) := by decide +kernel
theorem dX8_still_12 : decode cX8_still 12 = .ok (.getfield 9, 3) := by decide +kernel
theorem dX8_still_15 : decode cX8_still 15 = .ok (.iconst 5, 1) := by decide +kernel
theorem dX8_still_16 : decode cX8_still 16 = .ok (.iaload, 1) := by decide +kernel
theorem dX8_still_17 : decode cX8_still 17 = .ok (.iadd, 1) := by decide +kernel
theorem dX8_still_18 : decode cX8_still 18 = .ok (.istore_n 1, 1) := by decide +kernel
theorem dX8_still_19 : decode cX8_still 19 = .ok (.aload_n 0, 1) := by decide +kernel
theorem dX8_still_20 : decode cX8_still 20 = .ok (.getfield 9, 3) := by decide +kernel
theorem dX8_still_23 : decode cX8_still 23 = .ok (.iconst 4, 1) := by decide +kernel
theorem dX8_still_24 : decode cX8_still 24 = .ok (.iconst 0, 1) := by decide +kernel
theorem dX8_still_25 : decode cX8_still 25 = .ok (.iastore, 1) := by decide +kernel
theorem dX8_still_26 : decode cX8_still 26 = .ok (.aload_n 0, 1) := by decide +kernel
theorem dX8_still_27 : decode cX8_still 27 = .ok (.getfield 9, 3) := by decide +kernel
theorem dX8_still_30 : decode cX8_still 30 = .ok (.iconst 5, 1) := by decide +kernel
theorem dX8_still_31 : decode cX8_still 31 = .ok (.iconst 0, 1) := by decide +kernel
theorem dX8_still_32 : decode cX8_still 32 = .ok (.iastore, 1) := by decide +kernel
theorem dX8_still_33 : decode cX8_still 33 = .ok (.iload_n 1, 1) := by decide +kernel
theorem dX8_still_34 : decode cX8_still 34 = .ok (.ireturn, 1) := by decide +kernel
theorem dX8_damp_0 : decode cX8_damp 0 = .ok (.aload_n 0, 1) := by decide +kernel
theorem dX8_damp_1 : decode cX8_damp 1 = .ok (.iconst 0, 1) := by decide +kernel
theorem dX8_damp_2 : decode cX8_damp 2 = .ok (.putfield 64, 3) := by decide +kernel
theorem dX8_damp_5 : decode cX8_damp 5 = .ok (.iload_n 1, 1) := by decide +kernel
theorem dX8_damp_6 : decode cX8_damp 6 = .ok (.i2l, 1) := by decide +kernel
theorem dX8_damp_7 : decode cX8_damp 7 = .ok (.lconst 0, 1) := by decide +kernel
theorem dX8_damp_8 : decode cX8_damp 8 = .ok (.ldc2_w 381, 3) := by decide +kernel
theorem dX8_damp_11 : decode cX8_damp 11 = .ok (.invokestatic 67, 3) := by decide +kernel
theorem dX8_damp_14 : decode cX8_damp 14 = .ok (.ifCond .ne 9, 3) := by decide +kernel
theorem dX8_damp_17 : decode cX8_damp 17 = .ok (.aload_n 0, 1) := by decide +kernel
theorem dX8_damp_18 : decode cX8_damp 18 = .ok (.iconst 1, 1) := by decide +kernel
theorem dX8_damp_19 : decode cX8_damp 19 = .ok (.invokevirtual 146, 3) := by decide +kernel
theorem dX8_damp_22 : decode cX8_damp 22 = .ok (.ireturn, 1) := by decide +kernel
theorem dX8_damp_23 : decode cX8_damp 23 = .ok (.aload_n 0, 1) := by decide +kernel
theorem dX8_damp_24 : decode cX8_damp 24 = .ok (.getfield 9, 3) := by decide +kernel
theorem dX8_damp_27 : decode cX8_damp 27 = .ok (.bipush 7, 2) := by decide +kernel
theorem dX8_damp_29 : decode cX8_damp 29 = .ok (.iaload, 1) := by decide +kernel
theorem dX8_damp_30 : decode cX8_damp 30 = .ok (.istore_n 2, 1) := by decide +kernel
theorem dX8_damp_31 : decode cX8_damp 31 = .ok (.aload_n 0, 1) := by decide +kernel
theorem dX8_damp_32 : decode cX8_damp 32 = .ok (.getfield 9, 3) := by decide +kernel
theorem dX8_damp_35 : decode cX8_damp 35 = .ok (.bipush 7, 2) := by decide +kernel
theorem dX8_damp_37 : decode cX8_damp 37 = .ok (.iload_n 1, 1) := by decide +kernel
theorem dX8_damp_38 : decode cX8_damp 38 = .ok (.iastore, 1) := by decide +kernel
theorem dX8_damp_39 : decode cX8_damp 39 = .ok (.iload_n 2, 1) := by decide +kernel
theorem dX8_damp_40 : decode cX8_damp 40 = .ok (.ireturn, 1) := by decide +kernel
theorem dX8_slant_0 : decode cX8_slant 0 = .ok (.aload_n 0, 1) := by decide +kernel
theorem dX8_slant_1 : decode cX8_slant 1 = .ok (.aload_n 0, 1) := by decide +kernel
theorem dX8_slant_2 : decode cX8_slant 2 = .ok (.iload_n 1, 1) := by decide +kernel
theorem dX8_slant_3 : decode cX8_slant 3 = .ok (.invokevirtual 255, 3) := by decide +kernel
theorem dX8_slant_6 : decode cX8_slant 6 = .ok (.putfield 64, 3) := by decide +kernel
theorem dX8_slant_9 : decode cX8_slant 9 = .ok (.aload_n 0, 1) := by decide +kernel
theorem dX8_slant_10 : decode cX8_slant 10 = .ok (.getfield 64, 3) := by decide +kernel
theorem dX8_slant_13 : decode cX8_slant 13 = .ok (.ifCond .le 5, 3) := by decide +kernel
theorem dX8_slant_16 : decode cX8_slant 16 = .ok (.iconst 0, 1) := by decide +kernel
theorem dX8_slant_17 : decode cX8_slant 17 = .ok (.ireturn, 1) := by decide +kernel
theorem dX8_slant_18 : decode cX8_slant 18 = .ok (.iload_n 2, 1) := by decide +kernel
theorem dX8_slant_19 : decode cX8_slant 19 = .ok (.invokestatic 360, 3) := by decide +kernel
theorem dX8_slant_22 : decode cX8_slant 22 = .ok (.ifCond .eq 10, 3) := by decide +kernel
theorem dX8_slant_25 : decode cX8_slant 25 = .ok (.iload_n 3, 1) := by decide +kernel
theorem dX8_slant_26 : decode cX8_slant 26 = .ok (.invokestatic 363, 3) := by decide +kernel
theorem dX8_slant_29 : decode cX8_slant 29 = .ok (.ifCond .ne 9, 3) := by decide +kernel
theorem dX8_slant_32 : decode cX8_slant 32 = .ok (.aload_n 0, 1) := by decide +kernel
theorem dX8_slant_33 : decode cX8_slant 33 = .ok (.iconst 3, 1) := by decide +kernel
theorem dX8_slant_34 : decode cX8_slant 34 = .ok (.invokevirtual 146, 3) := by decide +kernel
theorem dX8_slant_37 : decode cX8_slant 37 = .ok (.ireturn, 1) := by decide +kernel
theorem dX8_slant_38 : decode cX8_slant 38 = .ok (.bipush (-16), 2) := by decide +kernel
theorem dX8_slant_40 : decode cX8_slant 40 = .ok (.istore 5, 2) := by decide +kernel
theorem dX8_slant_42 : decode cX8_slant 42 = .ok (.aload_n 0, 1) := by decide +kernel
theorem dX8_slant_43 : decode cX8_slant 43 = .ok (.iload_n 2, 1) := by decide +kernel
theorem dX8_slant_44 : decode cX8_slant 44 = .ok (.iload_n 3, 1) := by decide +kernel
theorem dX8_slant_45 : decode cX8_slant 45 = .ok (.bipush (-16), 2) := by decide +kernel
theorem dX8_slant_47 : decode cX8_slant 47 = .ok (.iload 4, 2) := by decide +kernel
theorem dX8_slant_49 : decode cX8_slant 49 = .ok (.invokevirtual 383, 3) := by decide +kernel
theorem dX8_slant_52 : decode cX8_slant 52 = .ok (.istore 6, 2) := by decide +kernel
theorem dX8_slant_54 : decode cX8_slant 54 = .ok (.bipush (-15), 2) := by decide +kernel
theorem dX8_slant_56 : decode cX8_slant 56 = .ok (.istore 7, 2) := by decide +kernel
theorem dX8_slant_58 : decode cX8_slant 58 = .ok (.iload 7, 2) := by decide +kernel
theorem dX8_slant_60 : decode cX8_slant 60 = .ok (.bipush 16, 2) := by decide +kernel
theorem dX8_slant_62 : decode cX8_slant 62 = .ok (.if_icmp .gt 39, 3) := by decide +kernel
theorem dX8_slant_65 : decode cX8_slant 65 = .ok (.aload_n 0, 1) := by decide +kernel
theorem dX8_slant_66 : decode cX8_slant 66 = .ok (.iload_n 2, 1) := by decide +kernel
theorem dX8_slant_67 : decode cX8_slant 67 = .ok (.iload_n 3, 1) := by decide +kernel
theorem dX8_slant_68 : decode cX8_slant 68 = .ok (.iload 7, 2) := by decide +kernel
theorem dX8_slant_70 : decode cX8_slant 70 = .ok (.iload 4, 2) := by decide +kernel
theorem dX8_slant_72 : decode cX8_slant 72 = .ok (.invokevirtual 383, 3) := by decide +kernel
theorem dX8_slant_75 : decode cX8_slant 75 = .ok (.istore 8, 2) := by decide +kernel
theorem dX8_slant_77 : decode cX8_slant 77 = .ok (.iload 8, 2) := by decide +kernel
theorem dX8_slant_79 : decode cX8_slant 79 = .ok (.iload 6, 2) := by decide +kernel
theorem dX8_slant_81 : decode cX8_slant 81 = .ok (.if_icmp .gt 6, 3) := by decide +kernel
theorem dX8_slant_84 : decode cX8_slant 84 = .ok (.goto 11, 3) := by decide +kernel
theorem dX8_slant_87 : decode cX8_slant 87 = .ok (.iload 8, 2) := by decide +kernel
theorem dX8_slant_89 : decode cX8_slant 89 = .ok (.istore 6, 2) := by decide +kernel
theorem dX8_slant_91 : decode cX8_slant 91 = .ok (.iload 7, 2) := by decide +kernel
theorem dX8_slant_93 : decode cX8_slant 93 = .ok (.istore 5, 2) := by decide +kernel
theorem dX8_slant_95 : decode cX8_slant 95 = .ok (.iinc 7 1, 3) := by decide +kernel
theorem dX8_slant_98 : decode cX8_slant 98 = .ok (.goto (-40), 3) := by decide +kernel
theorem dX8_slant_101 : decode cX8_slant 101 = .ok (.iload 5, 2) := by decide +kernel
theorem dX8_slant_103 : decode cX8_slant 103 = .ok (.ireturn, 1) := by decide +kernel
theorem dX8_turns_0 : decode cX8_turns 0 = .ok (.aload_n 0, 1) := by decide +kernel
theorem dX8_turns_1 : decode cX8_turns 1 = .ok (.getfield 9, 3) := by decide +kernel
theorem dX8_turns_4 : decode cX8_turns 4 = .ok (.bipush 13, 2) := by decide +kernel
theorem dX8_turns_6 : decode cX8_turns 6 = .ok (.iload_n 2, 1) := by decide +kernel
theorem dX8_turns_7 : decode cX8_turns 7 = .ok (.invokestatic 328, 3) := by decide +kernel
theorem dX8_turns_10 : decode cX8_turns 10 = .ok (.iadd, 1) := by decide +kernel
theorem dX8_turns_11 : decode cX8_turns 11 = .ok (.iaload, 1) := by decide +kernel
theorem dX8_turns_12 : decode cX8_turns 12 = .ok (.i2l, 1) := by decide +kernel
theorem dX8_turns_13 : decode cX8_turns 13 = .ok (.lstore_n 3, 1) := by decide +kernel
theorem dX8_turns_14 : decode cX8_turns 14 = .ok (.iload_n 1, 1) := by decide +kernel
theorem dX8_turns_15 : decode cX8_turns 15 = .ok (.i2l, 1) := by decide +kernel
theorem dX8_turns_16 : decode cX8_turns 16 = .ok (.aload_n 0, 1) := by decide +kernel
theorem dX8_turns_17 : decode cX8_turns 17 = .ok (.invokevirtual 324, 3) := by decide +kernel
theorem dX8_turns_20 : decode cX8_turns 20 = .ok (.lmul, 1) := by decide +kernel
theorem dX8_turns_21 : decode cX8_turns 21 = .ok (.aload_n 0, 1) := by decide +kernel
theorem dX8_turns_22 : decode cX8_turns 22 = .ok (.getfield 9, 3) := by decide +kernel
theorem dX8_turns_25 : decode cX8_turns 25 = .ok (.bipush 9, 2) := by decide +kernel
theorem dX8_turns_27 : decode cX8_turns 27 = .ok (.iaload, 1) := by decide +kernel
theorem dX8_turns_28 : decode cX8_turns 28 = .ok (.i2l, 1) := by decide +kernel
theorem dX8_turns_29 : decode cX8_turns 29 = .ok (.lmul, 1) := by decide +kernel
theorem dX8_turns_30 : decode cX8_turns 30 = .ok (.aload_n 0, 1) := by decide +kernel
theorem dX8_turns_31 : decode cX8_turns 31 = .ok (.getfield 239, 3) := by decide +kernel
theorem dX8_turns_34 : decode cX8_turns 34 = .ok (.i2l, 1) := by decide +kernel
theorem dX8_turns_35 : decode cX8_turns 35 = .ok (.aload_n 0, 1) := by decide +kernel
theorem dX8_turns_36 : decode cX8_turns 36 = .ok (.getfield 227, 3) := by decide +kernel
theorem dX8_turns_39 : decode cX8_turns 39 = .ok (.i2l, 1) := by decide +kernel
theorem dX8_turns_40 : decode cX8_turns 40 = .ok (.lmul, 1) := by decide +kernel
theorem dX8_turns_41 : decode cX8_turns 41 = .ok (.iload_n 2, 1) := by decide +kernel
theorem dX8_turns_42 : decode cX8_turns 42 = .ok (.ifCond .ge 8, 3) := by decide +kernel
theorem dX8_turns_45 : decode cX8_turns 45 = .ok (.lload_n 3, 1) := by decide +kernel
theorem dX8_turns_46 : decode cX8_turns 46 = .ok (.lneg, 1) := by decide +kernel
theorem dX8_turns_47 : decode cX8_turns 47 = .ok (.goto 4, 3) := by decide +kernel
theorem dX8_turns_50 : decode cX8_turns 50 = .ok (.lload_n 3, 1) := by decide +kernel
theorem dX8_turns_51 : decode cX8_turns 51 = .ok (.lmul, 1) := by decide +kernel
theorem dX8_turns_52 : decode cX8_turns 52 = .ok (.lsub, 1) := by decide +kernel
theorem dX8_turns_53 : decode cX8_turns 53 = .ok (.lreturn, 1) := by decide +kernel
theorem dX8_isRest_0 : decode cX8_isRest 0 = .ok (.aload_n 0, 1) := by decide +kernel
theorem dX8_isRest_1 : decode cX8_isRest 1 = .ok (.iload_n 1, 1) := by decide +kernel
theorem dX8_isRest_2 : decode cX8_isRest 2 = .ok (.iload_n 2, 1) := by decide +kernel
theorem dX8_isRest_3 : decode cX8_isRest 3 = .ok (.invokevirtual 387, 3) := by decide +kernel
theorem dX8_isRest_6 : decode cX8_isRest 6 = .ok (.lstore_n 3, 1) := by decide +kernel
theorem dX8_isRest_7 : decode cX8_isRest 7 = .ok (.lload_n 3, 1) := by decide +kernel
theorem dX8_isRest_8 : decode cX8_isRest 8 = .ok (.lconst 0, 1) := by decide +kernel
theorem dX8_isRest_9 : decode cX8_isRest 9 = .ok (.lcmp, 1) := by decide +kernel
theorem dX8_isRest_10 : decode cX8_isRest 10 = .ok (.ifCond .eq 28, 3) := by decide +kernel
theorem dX8_isRest_13 : decode cX8_isRest 13 = .ok (.iload_n 2, 1) := by decide +kernel
theorem dX8_isRest_14 : decode cX8_isRest 14 = .ok (.bipush 8, 2) := by decide +kernel
theorem dX8_isRest_16 : decode cX8_isRest 16 = .ok (.if_icmp .ge 26, 3) := by decide +kernel
theorem dX8_isRest_19 : decode cX8_isRest 19 = .ok (.lload_n 3, 1) := by decide +kernel
theorem dX8_isRest_20 : decode cX8_isRest 20 = .ok (.lconst 0, 1) := by decide +kernel
theorem dX8_isRest_21 : decode cX8_isRest 21 = .ok (.lcmp, 1) := by decide +kernel
theorem dX8_isRest_22 : decode cX8_isRest 22 = .ok (.ifCond .le 20, 3) := by decide +kernel
theorem dX8_isRest_25 : decode cX8_isRest 25 = .ok (.aload_n 0, 1) := by decide +kernel
theorem dX8_isRest_26 : decode cX8_isRest 26 = .ok (.iload_n 1, 1) := by decide +kernel
theorem dX8_isRest_27 : decode cX8_isRest 27 = .ok (.iload_n 2, 1) := by decide +kernel
theorem dX8_isRest_28 : decode cX8_isRest 28 = .ok (.iconst 1, 1) := by decide +kernel
theorem dX8_isRest_29 : decode cX8_isRest 29 = .ok (.iadd, 1) := by decide +kernel
theorem dX8_isRest_30 : decode cX8_isRest 30 = .ok (.invokevirtual 387, 3) := by decide +kernel
theorem dX8_isRest_33 : decode cX8_isRest 33 = .ok (.lconst 0, 1) := by decide +kernel
theorem dX8_isRest_34 : decode cX8_isRest 34 = .ok (.lcmp, 1) := by decide +kernel
theorem dX8_isRest_35 : decode cX8_isRest 35 = .ok (.ifCond .ge 7, 3) := by decide +kernel
theorem dX8_isRest_38 : decode cX8_isRest 38 = .ok (.iconst 1, 1) := by decide +kernel
theorem dX8_isRest_39 : decode cX8_isRest 39 = .ok (.goto 4, 3) := by decide +kernel
theorem dX8_isRest_42 : decode cX8_isRest 42 = .ok (.iconst 0, 1) := by decide +kernel
theorem dX8_isRest_43 : decode cX8_isRest 43 = .ok (.ireturn, 1) := by decide +kernel
theorem dX8_rest_0 : decode cX8_rest 0 = .ok (.aload_n 0, 1) := by decide +kernel
theorem dX8_rest_1 : decode cX8_rest 1 = .ok (.aload_n 0, 1) := by decide +kernel
theorem dX8_rest_2 : decode cX8_rest 2 = .ok (.iload_n 1, 1) := by decide +kernel
theorem dX8_rest_3 : decode cX8_rest 3 = .ok (.invokevirtual 255, 3) := by decide +kernel
theorem dX8_rest_6 : decode cX8_rest 6 = .ok (.putfield 64, 3) := by decide +kernel
theorem dX8_rest_9 : decode cX8_rest 9 = .ok (.aload_n 0, 1) := by decide +kernel
theorem dX8_rest_10 : decode cX8_rest 10 = .ok (.getfield 64, 3) := by decide +kernel
theorem dX8_rest_13 : decode cX8_rest 13 = .ok (.ifCond .le 5, 3) := by decide +kernel
theorem dX8_rest_16 : decode cX8_rest 16 = .ok (.iconst 0, 1) := by decide +kernel
theorem dX8_rest_17 : decode cX8_rest 17 = .ok (.ireturn, 1) := by decide +kernel
theorem dX8_rest_18 : decode cX8_rest 18 = .ok (.iload_n 2, 1) := by decide +kernel
theorem dX8_rest_19 : decode cX8_rest 19 = .ok (.invokestatic 360, 3) := by decide +kernel
theorem dX8_rest_22 : decode cX8_rest 22 = .ok (.ifCond .ne 9, 3) := by decide +kernel
theorem dX8_rest_25 : decode cX8_rest 25 = .ok (.aload_n 0, 1) := by decide +kernel
theorem dX8_rest_26 : decode cX8_rest 26 = .ok (.iconst 3, 1) := by decide +kernel
theorem dX8_rest_27 : decode cX8_rest 27 = .ok (.invokevirtual 146, 3) := by decide +kernel
theorem dX8_rest_30 : decode cX8_rest 30 = .ok (.ireturn, 1) := by decide +kernel
theorem dX8_rest_31 : decode cX8_rest 31 = .ok (.iconst 0, 1) := by decide +kernel
theorem dX8_rest_32 : decode cX8_rest 32 = .ok (.istore 4, 2) := by decide +kernel
theorem dX8_rest_34 : decode cX8_rest 34 = .ok (.bipush (-8), 2) := by decide +kernel
theorem dX8_rest_36 : decode cX8_rest 36 = .ok (.istore 5, 2) := by decide +kernel
theorem dX8_rest_38 : decode cX8_rest 38 = .ok (.iload 5, 2) := by decide +kernel
theorem dX8_rest_40 : decode cX8_rest 40 = .ok (.bipush 8, 2) := by decide +kernel
theorem dX8_rest_42 : decode cX8_rest 42 = .ok (.if_icmp .gt 37, 3) := by decide +kernel
theorem dX8_rest_45 : decode cX8_rest 45 = .ok (.aload_n 0, 1) := by decide +kernel
theorem dX8_rest_46 : decode cX8_rest 46 = .ok (.iload_n 2, 1) := by decide +kernel
theorem dX8_rest_47 : decode cX8_rest 47 = .ok (.iload 5, 2) := by decide +kernel
theorem dX8_rest_49 : decode cX8_rest 49 = .ok (.invokevirtual 391, 3) := by decide +kernel
theorem dX8_rest_52 : decode cX8_rest 52 = .ok (.ifCond .ne 6, 3) := by decide +kernel
theorem dX8_rest_55 : decode cX8_rest 55 = .ok (.goto 18, 3) := by decide +kernel
theorem dX8_rest_58 : decode cX8_rest 58 = .ok (.iload 4, 2) := by decide +kernel
theorem dX8_rest_60 : decode cX8_rest 60 = .ok (.iload_n 3, 1) := by decide +kernel
theorem dX8_rest_61 : decode cX8_rest 61 = .ok (.if_icmp .ne 9, 3) := by decide +kernel
theorem dX8_rest_64 : decode cX8_rest 64 = .ok (.iload 5, 2) := by decide +kernel
theorem dX8_rest_66 : decode cX8_rest 66 = .ok (.bipush 100, 2) := by decide +kernel
theorem dX8_rest_68 : decode cX8_rest 68 = .ok (.iadd, 1) := by decide +kernel
theorem dX8_rest_69 : decode cX8_rest 69 = .ok (.ireturn, 1) := by decide +kernel
theorem dX8_rest_70 : decode cX8_rest 70 = .ok (.iinc 4 1, 3) := by decide +kernel
theorem dX8_rest_73 : decode cX8_rest 73 = .ok (.iinc 5 1, 3) := by decide +kernel
theorem dX8_rest_76 : decode cX8_rest 76 = .ok (.goto (-38), 3) := by decide +kernel
theorem dX8_rest_79 : decode cX8_rest 79 = .ok (.iload_n 3, 1) := by decide +kernel
theorem dX8_rest_80 : decode cX8_rest 80 = .ok (.iconst (-1), 1) := by decide +kernel
theorem dX8_rest_81 : decode cX8_rest 81 = .ok (.if_icmp .ne 8, 3) := by decide +kernel
theorem dX8_rest_84 : decode cX8_rest 84 = .ok (.iload 4, 2) := by decide +kernel
theorem dX8_rest_86 : decode cX8_rest 86 = .ok (.goto 4, 3) := by decide +kernel
theorem dX8_rest_89 : decode cX8_rest 89 = .ok (.iconst (-1), 1) := by decide +kernel
theorem dX8_rest_90 : decode cX8_rest 90 = .ok (.ireturn, 1) := by decide +kernel
theorem dX8_why_0 : decode cX8_why 0 = .ok (.aload_n 0, 1) := by decide +kernel
theorem dX8_why_1 : decode cX8_why 1 = .ok (.aload_n 0, 1) := by decide +kernel
theorem dX8_why_2 : decode cX8_why 2 = .ok (.iload_n 1, 1) := by decide +kernel
theorem dX8_why_3 : decode cX8_why 3 = .ok (.invokevirtual 255, 3) := by decide +kernel
theorem dX8_why_6 : decode cX8_why 6 = .ok (.putfield 64, 3) := by decide +kernel
theorem dX8_why_9 : decode cX8_why 9 = .ok (.aload_n 0, 1) := by decide +kernel
theorem dX8_why_10 : decode cX8_why 10 = .ok (.getfield 64, 3) := by decide +kernel
theorem dX8_why_13 : decode cX8_why 13 = .ok (.ifCond .le 5, 3) := by decide +kernel
theorem dX8_why_16 : decode cX8_why 16 = .ok (.iconst 0, 1) := by decide +kernel
theorem dX8_why_17 : decode cX8_why 17 = .ok (.ireturn, 1) := by decide +kernel
theorem dX8_why_18 : decode cX8_why 18 = .ok (.iload_n 2, 1) := by decide +kernel
theorem dX8_why_19 : decode cX8_why 19 = .ok (.invokestatic 360, 3) := by decide +kernel
theorem dX8_why_22 : decode cX8_why 22 = .ok (.ifCond .ne 9, 3) := by decide +kernel
theorem dX8_why_25 : decode cX8_why 25 = .ok (.aload_n 0, 1) := by decide +kernel
theorem dX8_why_26 : decode cX8_why 26 = .ok (.iconst 3, 1) := by decide +kernel
theorem dX8_why_27 : decode cX8_why 27 = .ok (.invokevirtual 146, 3) := by decide +kernel
theorem dX8_why_30 : decode cX8_why 30 = .ok (.ireturn, 1) := by decide +kernel
theorem dX8_why_31 : decode cX8_why 31 = .ok (.iconst 0, 1) := by decide +kernel
theorem dX8_why_32 : decode cX8_why 32 = .ok (.istore_n 3, 1) := by decide +kernel
theorem dX8_why_33 : decode cX8_why 33 = .ok (.iconst 1, 1) := by decide +kernel
theorem dX8_why_34 : decode cX8_why 34 = .ok (.istore 4, 2) := by decide +kernel
theorem dX8_why_36 : decode cX8_why 36 = .ok (.iconst 1, 1) := by decide +kernel
theorem dX8_why_37 : decode cX8_why 37 = .ok (.istore 5, 2) := by decide +kernel
theorem dX8_why_39 : decode cX8_why 39 = .ok (.bipush (-8), 2) := by decide +kernel
theorem dX8_why_41 : decode cX8_why 41 = .ok (.istore 6, 2) := by decide +kernel
theorem dX8_why_43 : decode cX8_why 43 = .ok (.iload 6, 2) := by decide +kernel
theorem dX8_why_45 : decode cX8_why 45 = .ok (.bipush 8, 2) := by decide +kernel
theorem dX8_why_47 : decode cX8_why 47 = .ok (.if_icmp .gt 77, 3) := by decide +kernel
theorem dX8_why_50 : decode cX8_why 50 = .ok (.iload_n 3, 1) := by decide +kernel
theorem dX8_why_51 : decode cX8_why 51 = .ok (.ifCond .ne 13, 3) := by decide +kernel
theorem dX8_why_54 : decode cX8_why 54 = .ok (.aload_n 0, 1) := by decide +kernel
theorem dX8_why_55 : decode cX8_why 55 = .ok (.iload_n 2, 1) := by decide +kernel
theorem dX8_why_56 : decode cX8_why 56 = .ok (.iload 6, 2) := by decide +kernel
theorem dX8_why_58 : decode cX8_why 58 = .ok (.invokevirtual 391, 3) := by decide +kernel
theorem dX8_why_61 : decode cX8_why 61 = .ok (.ifCond .eq 7, 3) := by decide +kernel
theorem dX8_why_64 : decode cX8_why 64 = .ok (.iconst 1, 1) := by decide +kernel
theorem dX8_why_65 : decode cX8_why 65 = .ok (.goto 4, 3) := by decide +kernel
theorem dX8_why_68 : decode cX8_why 68 = .ok (.iconst 0, 1) := by decide +kernel
theorem dX8_why_69 : decode cX8_why 69 = .ok (.istore_n 3, 1) := by decide +kernel
theorem dX8_why_70 : decode cX8_why 70 = .ok (.iload 4, 2) := by decide +kernel
theorem dX8_why_72 : decode cX8_why 72 = .ok (.ifCond .eq 19, 3) := by decide +kernel
theorem dX8_why_75 : decode cX8_why 75 = .ok (.aload_n 0, 1) := by decide +kernel
theorem dX8_why_76 : decode cX8_why 76 = .ok (.iload_n 2, 1) := by decide +kernel
theorem dX8_why_77 : decode cX8_why 77 = .ok (.iload 6, 2) := by decide +kernel
theorem dX8_why_79 : decode cX8_why 79 = .ok (.invokevirtual 387, 3) := by decide +kernel
theorem dX8_why_82 : decode cX8_why 82 = .ok (.lconst 0, 1) := by decide +kernel
theorem dX8_why_83 : decode cX8_why 83 = .ok (.lcmp, 1) := by decide +kernel
theorem dX8_why_84 : decode cX8_why 84 = .ok (.ifCond .ge 7, 3) := by decide +kernel
theorem dX8_why_87 : decode cX8_why 87 = .ok (.iconst 1, 1) := by decide +kernel
theorem dX8_why_88 : decode cX8_why 88 = .ok (.goto 4, 3) := by decide +kernel
theorem dX8_why_91 : decode cX8_why 91 = .ok (.iconst 0, 1) := by decide +kernel
theorem dX8_why_92 : decode cX8_why 92 = .ok (.istore 4, 2) := by decide +kernel
theorem dX8_why_94 : decode cX8_why 94 = .ok (.iload 5, 2) := by decide +kernel
theorem dX8_why_96 : decode cX8_why 96 = .ok (.ifCond .eq 19, 3) := by decide +kernel
theorem dX8_why_99 : decode cX8_why 99 = .ok (.aload_n 0, 1) := by decide +kernel
theorem dX8_why_100 : decode cX8_why 100 = .ok (.iload_n 2, 1) := by decide +kernel
theorem dX8_why_101 : decode cX8_why 101 = .ok (.iload 6, 2) := by decide +kernel
theorem dX8_why_103 : decode cX8_why 103 = .ok (.invokevirtual 387, 3) := by decide +kernel
theorem dX8_why_106 : decode cX8_why 106 = .ok (.lconst 0, 1) := by decide +kernel
theorem dX8_why_107 : decode cX8_why 107 = .ok (.lcmp, 1) := by decide +kernel
theorem dX8_why_108 : decode cX8_why 108 = .ok (.ifCond .le 7, 3) := by decide +kernel
theorem dX8_why_111 : decode cX8_why 111 = .ok (.iconst 1, 1) := by decide +kernel
theorem dX8_why_112 : decode cX8_why 112 = .ok (.goto 4, 3) := by decide +kernel
theorem dX8_why_115 : decode cX8_why 115 = .ok (.iconst 0, 1) := by decide +kernel
theorem dX8_why_116 : decode cX8_why 116 = .ok (.istore 5, 2) := by decide +kernel
theorem dX8_why_118 : decode cX8_why 118 = .ok (.iinc 6 1, 3) := by decide +kernel
theorem dX8_why_121 : decode cX8_why 121 = .ok (.goto (-78), 3) := by decide +kernel
theorem dX8_why_124 : decode cX8_why 124 = .ok (.iload_n 3, 1) := by decide +kernel
theorem dX8_why_125 : decode cX8_why 125 = .ok (.ifCond .eq 7, 3) := by decide +kernel
theorem dX8_why_128 : decode cX8_why 128 = .ok (.iconst 0, 1) := by decide +kernel
theorem dX8_why_129 : decode cX8_why 129 = .ok (.goto 22, 3) := by decide +kernel
theorem dX8_why_132 : decode cX8_why 132 = .ok (.iload 4, 2) := by decide +kernel
theorem dX8_why_134 : decode cX8_why 134 = .ok (.ifCond .eq 7, 3) := by decide +kernel
theorem dX8_why_137 : decode cX8_why 137 = .ok (.iconst 1, 1) := by decide +kernel
theorem dX8_why_138 : decode cX8_why 138 = .ok (.goto 13, 3) := by decide +kernel
theorem dX8_why_141 : decode cX8_why 141 = .ok (.iload 5, 2) := by decide +kernel
theorem dX8_why_143 : decode cX8_why 143 = .ok (.ifCond .eq 7, 3) := by decide +kernel
theorem dX8_why_146 : decode cX8_why 146 = .ok (.iconst 2, 1) := by decide +kernel
theorem dX8_why_147 : decode cX8_why 147 = .ok (.goto 4, 3) := by decide +kernel
theorem dX8_why_150 : decode cX8_why 150 = .ok (.iconst 3, 1) := by decide +kernel
theorem dX8_why_151 : decode cX8_why 151 = .ok (.ireturn, 1) := by decide +kernel
theorem dX8_throwsOf_0 : decode cX8_throwsOf 0 = .ok (.aload_n 0, 1) := by decide +kernel
theorem dX8_throwsOf_1 : decode cX8_throwsOf 1 = .ok (.getfield 9, 3) := by decide +kernel
theorem dX8_throwsOf_4 : decode cX8_throwsOf 4 = .ok (.sipush 169, 3) := by decide +kernel
theorem dX8_throwsOf_7 : decode cX8_throwsOf 7 = .ok (.bipush 13, 2) := by decide +kernel
theorem dX8_throwsOf_9 : decode cX8_throwsOf 9 = .ok (.iload_n 1, 1) := by decide +kernel
theorem dX8_throwsOf_10 : decode cX8_throwsOf 10 = .ok (.imul, 1) := by decide +kernel
theorem dX8_throwsOf_11 : decode cX8_throwsOf 11 = .ok (.iadd, 1) := by decide +kernel
theorem dX8_throwsOf_12 : decode cX8_throwsOf 12 = .ok (.iaload, 1) := by decide +kernel
theorem dX8_throwsOf_13 : decode cX8_throwsOf 13 = .ok (.ireturn, 1) := by decide +kernel
theorem dX8_throwAt_0 : decode cX8_throwAt 0 = .ok (.sipush 169, 3) := by decide +kernel
theorem dX8_throwAt_3 : decode cX8_throwAt 3 = .ok (.bipush 13, 2) := by decide +kernel
theorem dX8_throwAt_5 : decode cX8_throwAt 5 = .ok (.iload_n 1, 1) := by decide +kernel
theorem dX8_throwAt_6 : decode cX8_throwAt 6 = .ok (.imul, 1) := by decide +kernel
theorem dX8_throwAt_7 : decode cX8_throwAt 7 = .ok (.iadd, 1) := by decide +kernel
theorem dX8_throwAt_8 : decode cX8_throwAt 8 = .ok (.iconst 1, 1) := by decide +kernel
theorem dX8_throwAt_9 : decode cX8_throwAt 9 = .ok (.iadd, 1) := by decide +kernel
theorem dX8_throwAt_10 : decode cX8_throwAt 10 = .ok (.iconst 3, 1) := by decide +kernel
theorem dX8_throwAt_11 : decode cX8_throwAt 11 = .ok (.iload_n 2, 1) := by decide +kernel
theorem dX8_throwAt_12 : decode cX8_throwAt 12 = .ok (.imul, 1) := by decide +kernel
theorem dX8_throwAt_13 : decode cX8_throwAt 13 = .ok (.iadd, 1) := by decide +kernel
theorem dX8_throwAt_14 : decode cX8_throwAt 14 = .ok (.ireturn, 1) := by decide +kernel
theorem dX8_hand_0 : decode cX8_hand 0 = .ok (.aload_n 0, 1) := by decide +kernel
theorem dX8_hand_1 : decode cX8_hand 1 = .ok (.iconst 0, 1) := by decide +kernel
theorem dX8_hand_2 : decode cX8_hand 2 = .ok (.putfield 64, 3) := by decide +kernel
theorem dX8_hand_5 : decode cX8_hand 5 = .ok (.aload_n 0, 1) := by decide +kernel
theorem dX8_hand_6 : decode cX8_hand 6 = .ok (.getfield 9, 3) := by decide +kernel
theorem dX8_hand_9 : decode cX8_hand 9 = .ok (.iconst 3, 1) := by decide +kernel
theorem dX8_hand_10 : decode cX8_hand 10 = .ok (.iaload, 1) := by decide +kernel
theorem dX8_hand_11 : decode cX8_hand 11 = .ok (.iconst 5, 1) := by decide +kernel
theorem dX8_hand_12 : decode cX8_hand 12 = .ok (.if_icmp .ne 5, 3) := by decide +kernel
theorem dX8_hand_15 : decode cX8_hand 15 = .ok (.iconst (-1), 1) := by decide +kernel
theorem dX8_hand_16 : decode cX8_hand 16 = .ok (.ireturn, 1) := by decide +kernel
theorem dX8_hand_17 : decode cX8_hand 17 = .ok (.aload_n 0, 1) := by decide +kernel
theorem dX8_hand_18 : decode cX8_hand 18 = .ok (.getfield 9, 3) := by decide +kernel
theorem dX8_hand_21 : decode cX8_hand 21 = .ok (.sipush 169, 3) := by decide +kernel
theorem dX8_hand_24 : decode cX8_hand 24 = .ok (.bipush 13, 2) := by decide +kernel
theorem dX8_hand_26 : decode cX8_hand 26 = .ok (.aload_n 0, 1) := by decide +kernel
theorem dX8_hand_27 : decode cX8_hand 27 = .ok (.getfield 9, 3) := by decide +kernel
theorem dX8_hand_30 : decode cX8_hand 30 = .ok (.iconst 3, 1) := by decide +kernel
theorem dX8_hand_31 : decode cX8_hand 31 = .ok (.iaload, 1) := by decide +kernel
theorem dX8_hand_32 : decode cX8_hand 32 = .ok (.imul, 1) := by decide +kernel
theorem dX8_hand_33 : decode cX8_hand 33 = .ok (.iadd, 1) := by decide +kernel
theorem dX8_hand_34 : decode cX8_hand 34 = .ok (.iconst 0, 1) := by decide +kernel
theorem dX8_hand_35 : decode cX8_hand 35 = .ok (.iastore, 1) := by decide +kernel
theorem dX8_hand_36 : decode cX8_hand 36 = .ok (.aload_n 0, 1) := by decide +kernel
theorem dX8_hand_37 : decode cX8_hand 37 = .ok (.getfield 9, 3) := by decide +kernel
theorem dX8_hand_40 : decode cX8_hand 40 = .ok (.iconst 3, 1) := by decide +kernel
theorem dX8_hand_41 : decode cX8_hand 41 = .ok (.dup2, 1) := by decide +kernel
theorem dX8_hand_42 : decode cX8_hand 42 = .ok (.iaload, 1) := by decide +kernel
theorem dX8_hand_43 : decode cX8_hand 43 = .ok (.iconst 1, 1) := by decide +kernel
theorem dX8_hand_44 : decode cX8_hand 44 = .ok (.iadd, 1) := by decide +kernel
theorem dX8_hand_45 : decode cX8_hand 45 = .ok (.iastore, 1) := by decide +kernel
theorem dX8_hand_46 : decode cX8_hand 46 = .ok (.aload_n 0, 1) := by decide +kernel
theorem dX8_hand_47 : decode cX8_hand 47 = .ok (.getfield 9, 3) := by decide +kernel
theorem dX8_hand_50 : decode cX8_hand 50 = .ok (.iconst 3, 1) := by decide +kernel
theorem dX8_hand_51 : decode cX8_hand 51 = .ok (.iaload, 1) := by decide +kernel
theorem dX8_hand_52 : decode cX8_hand 52 = .ok (.iconst 1, 1) := by decide +kernel
theorem dX8_hand_53 : decode cX8_hand 53 = .ok (.isub, 1) := by decide +kernel
theorem dX8_hand_54 : decode cX8_hand 54 = .ok (.ireturn, 1) := by decide +kernel
theorem dX8_isThrow_0 : decode cX8_isThrow 0 = .ok (.lload_n 0, 1) := by decide +kernel
theorem dX8_isThrow_1 : decode cX8_isThrow 1 = .ok (.ldc2_w 75, 3) := by decide +kernel
theorem dX8_isThrow_4 : decode cX8_isThrow 4 = .ok (.ldc2_w 77, 3) := by decide +kernel
theorem dX8_isThrow_7 : decode cX8_isThrow 7 = .ok (.invokestatic 67, 3) := by decide +kernel
theorem dX8_isThrow_10 : decode cX8_isThrow 10 = .ok (.ifCond .eq 32, 3) := by decide +kernel
theorem dX8_isThrow_13 : decode cX8_isThrow 13 = .ok (.lload_n 2, 1) := by decide +kernel
theorem dX8_isThrow_14 : decode cX8_isThrow 14 = .ok (.ldc2_w 79, 3) := by decide +kernel
theorem dX8_isThrow_17 : decode cX8_isThrow 17 = .ok (.ldc2_w 81, 3) := by decide +kernel
theorem dX8_isThrow_20 : decode cX8_isThrow 20 = .ok (.invokestatic 67, 3) := by decide +kernel
theorem dX8_isThrow_23 : decode cX8_isThrow 23 = .ok (.ifCond .eq 19, 3) := by decide +kernel
theorem dX8_isThrow_26 : decode cX8_isThrow 26 = .ok (.lload 4, 2) := by decide +kernel
theorem dX8_isThrow_28 : decode cX8_isThrow 28 = .ok (.lconst 1, 1) := by decide +kernel
theorem dX8_isThrow_29 : decode cX8_isThrow 29 = .ok (.ldc2_w 73, 3) := by decide +kernel
theorem dX8_isThrow_32 : decode cX8_isThrow 32 = .ok (.invokestatic 67, 3) := by decide +kernel
theorem dX8_isThrow_35 : decode cX8_isThrow 35 = .ok (.ifCond .eq 7, 3) := by decide +kernel
theorem dX8_isThrow_38 : decode cX8_isThrow 38 = .ok (.iconst 1, 1) := by decide +kernel
theorem dX8_isThrow_39 : decode cX8_isThrow 39 = .ok (.goto 4, 3) := by decide +kernel
theorem dX8_isThrow_42 : decode cX8_isThrow 42 = .ok (.iconst 0, 1) := by decide +kernel
theorem dX8_isThrow_43 : decode cX8_isThrow 43 = .ok (.ireturn, 1) := by decide +kernel
theorem dX8_puts_0 : decode cX8_puts 0 = .ok (.aload_n 0, 1) := by decide +kernel
theorem dX8_puts_1 : decode cX8_puts 1 = .ok (.getfield 9, 3) := by decide +kernel
theorem dX8_puts_4 : decode cX8_puts 4 = .ok (.aload_n 0, 1) := by decide +kernel
theorem dX8_puts_5 : decode cX8_puts 5 = .ok (.iload_n 1, 1) := by decide +kernel
theorem dX8_puts_6 : decode cX8_puts 6 = .ok (.iload_n 2, 1) := by decide +kernel
theorem dX8_puts_7 : decode cX8_puts 7 = .ok (.invokevirtual 394, 3) := by decide +kernel
theorem dX8_puts_10 : decode cX8_puts 10 = .ok (.iload_n 3, 1) := by decide +kernel
theorem dX8_puts_11 : decode cX8_puts 11 = .ok (.iastore, 1) := by decide +kernel
theorem dX8_puts_12 : decode cX8_puts 12 = .ok (.aload_n 0, 1) := by decide +kernel
theorem dX8_puts_13 : decode cX8_puts 13 = .ok (.getfield 9, 3) := by decide +kernel
theorem dX8_puts_16 : decode cX8_puts 16 = .ok (.aload_n 0, 1) := by decide +kernel
theorem dX8_puts_17 : decode cX8_puts 17 = .ok (.iload_n 1, 1) := by decide +kernel
theorem dX8_puts_18 : decode cX8_puts 18 = .ok (.iload_n 2, 1) := by decide +kernel
theorem dX8_puts_19 : decode cX8_puts 19 = .ok (.invokevirtual 394, 3) := by decide +kernel
theorem dX8_puts_22 : decode cX8_puts 22 = .ok (.iconst 1, 1) := by decide +kernel
theorem dX8_puts_23 : decode cX8_puts 23 = .ok (.iadd, 1) := by decide +kernel
theorem dX8_puts_24 : decode cX8_puts 24 = .ok (.iload 4, 2) := by decide +kernel
theorem dX8_puts_26 : decode cX8_puts 26 = .ok (.iastore, 1) := by decide +kernel
theorem dX8_puts_27 : decode cX8_puts 27 = .ok (.aload_n 0, 1) := by decide +kernel
theorem dX8_puts_28 : decode cX8_puts 28 = .ok (.getfield 9, 3) := by decide +kernel
theorem dX8_puts_31 : decode cX8_puts 31 = .ok (.aload_n 0, 1) := by decide +kernel
theorem dX8_puts_32 : decode cX8_puts 32 = .ok (.iload_n 1, 1) := by decide +kernel
theorem dX8_puts_33 : decode cX8_puts 33 = .ok (.iload_n 2, 1) := by decide +kernel
theorem dX8_puts_34 : decode cX8_puts 34 = .ok (.invokevirtual 394, 3) := by decide +kernel
theorem dX8_puts_37 : decode cX8_puts 37 = .ok (.iconst 2, 1) := by decide +kernel
theorem dX8_puts_38 : decode cX8_puts 38 = .ok (.iadd, 1) := by decide +kernel
theorem dX8_puts_39 : decode cX8_puts 39 = .ok (.iload 5, 2) := by decide +kernel
theorem dX8_puts_41 : decode cX8_puts 41 = .ok (.iastore, 1) := by decide +kernel
theorem dX8_puts_42 : decode cX8_puts 42 = .ok (.return_, 1) := by decide +kernel
theorem dX8_toss_0 : decode cX8_toss 0 = .ok (.aload_n 0, 1) := by decide +kernel
theorem dX8_toss_1 : decode cX8_toss 1 = .ok (.iconst 0, 1) := by decide +kernel
theorem dX8_toss_2 : decode cX8_toss 2 = .ok (.putfield 64, 3) := by decide +kernel
theorem dX8_toss_5 : decode cX8_toss 5 = .ok (.aload_n 0, 1) := by decide +kernel
theorem dX8_toss_6 : decode cX8_toss 6 = .ok (.iload_n 1, 1) := by decide +kernel
theorem dX8_toss_7 : decode cX8_toss 7 = .ok (.invokevirtual 397, 3) := by decide +kernel
theorem dX8_toss_10 : decode cX8_toss 10 = .ok (.ifCond .ne 9, 3) := by decide +kernel
theorem dX8_toss_13 : decode cX8_toss 13 = .ok (.aload_n 0, 1) := by decide +kernel
theorem dX8_toss_14 : decode cX8_toss 14 = .ok (.iconst 1, 1) := by decide +kernel
theorem dX8_toss_15 : decode cX8_toss 15 = .ok (.invokevirtual 146, 3) := by decide +kernel
theorem dX8_toss_18 : decode cX8_toss 18 = .ok (.ireturn, 1) := by decide +kernel
theorem dX8_toss_19 : decode cX8_toss 19 = .ok (.iload_n 2, 1) := by decide +kernel
theorem dX8_toss_20 : decode cX8_toss 20 = .ok (.i2l, 1) := by decide +kernel
theorem dX8_toss_21 : decode cX8_toss 21 = .ok (.iload_n 3, 1) := by decide +kernel
theorem dX8_toss_22 : decode cX8_toss 22 = .ok (.i2l, 1) := by decide +kernel
theorem dX8_toss_23 : decode cX8_toss 23 = .ok (.iload 4, 2) := by decide +kernel
theorem dX8_toss_25 : decode cX8_toss 25 = .ok (.i2l, 1) := by decide +kernel
theorem dX8_toss_26 : decode cX8_toss 26 = .ok (.invokestatic 400, 3) := by decide +kernel
theorem dX8_toss_29 : decode cX8_toss 29 = .ok (.ifCond .ne 9, 3) := by decide +kernel
theorem dX8_toss_32 : decode cX8_toss 32 = .ok (.aload_n 0, 1) := by decide +kernel
theorem dX8_toss_33 : decode cX8_toss 33 = .ok (.iconst 2, 1) := by decide +kernel
theorem dX8_toss_34 : decode cX8_toss 34 = .ok (.invokevirtual 146, 3) := by decide +kernel
theorem dX8_toss_37 : decode cX8_toss 37 = .ok (.ireturn, 1) := by decide +kernel
theorem dX8_toss_38 : decode cX8_toss 38 = .ok (.aload_n 0, 1) := by decide +kernel
theorem dX8_toss_39 : decode cX8_toss 39 = .ok (.iload_n 1, 1) := by decide +kernel
theorem dX8_toss_40 : decode cX8_toss 40 = .ok (.invokevirtual 403, 3) := by decide +kernel
theorem dX8_toss_43 : decode cX8_toss 43 = .ok (.iconst 4, 1) := by decide +kernel
theorem dX8_toss_44 : decode cX8_toss 44 = .ok (.if_icmp .ne 5, 3) := by decide +kernel
theorem dX8_toss_47 : decode cX8_toss 47 = .ok (.iconst (-1), 1) := by decide +kernel
theorem dX8_toss_48 : decode cX8_toss 48 = .ok (.ireturn, 1) := by decide +kernel
theorem dX8_toss_49 : decode cX8_toss 49 = .ok (.aload_n 0, 1) := by decide +kernel
theorem dX8_toss_50 : decode cX8_toss 50 = .ok (.iload_n 1, 1) := by decide +kernel
theorem dX8_toss_51 : decode cX8_toss 51 = .ok (.aload_n 0, 1) := by decide +kernel
theorem dX8_toss_52 : decode cX8_toss 52 = .ok (.iload_n 1, 1) := by decide +kernel
theorem dX8_toss_53 : decode cX8_toss 53 = .ok (.invokevirtual 403, 3) := by decide +kernel
theorem dX8_toss_56 : decode cX8_toss 56 = .ok (.iload_n 2, 1) := by decide +kernel
theorem dX8_toss_57 : decode cX8_toss 57 = .ok (.iload_n 3, 1) := by decide +kernel
theorem dX8_toss_58 : decode cX8_toss 58 = .ok (.iload 4, 2) := by decide +kernel
theorem dX8_toss_60 : decode cX8_toss 60 = .ok (.invokevirtual 406, 3) := by decide +kernel
theorem dX8_toss_63 : decode cX8_toss 63 = .ok (.aload_n 0, 1) := by decide +kernel
theorem dX8_toss_64 : decode cX8_toss 64 = .ok (.getfield 9, 3) := by decide +kernel
theorem dX8_toss_67 : decode cX8_toss 67 = .ok (.sipush 169, 3) := by decide +kernel
theorem dX8_toss_70 : decode cX8_toss 70 = .ok (.bipush 13, 2) := by decide +kernel
theorem dX8_toss_72 : decode cX8_toss 72 = .ok (.iload_n 1, 1) := by decide +kernel
theorem dX8_toss_73 : decode cX8_toss 73 = .ok (.imul, 1) := by decide +kernel
theorem dX8_toss_74 : decode cX8_toss 74 = .ok (.iadd, 1) := by decide +kernel
theorem dX8_toss_75 : decode cX8_toss 75 = .ok (.dup2, 1) := by decide +kernel
theorem dX8_toss_76 : decode cX8_toss 76 = .ok (.iaload, 1) := by decide +kernel
theorem dX8_toss_77 : decode cX8_toss 77 = .ok (.iconst 1, 1) := by decide +kernel
theorem dX8_toss_78 : decode cX8_toss 78 = .ok (.iadd, 1) := by decide +kernel
theorem dX8_toss_79 : decode cX8_toss 79 = .ok (.iastore, 1) := by decide +kernel
theorem dX8_toss_80 : decode cX8_toss 80 = .ok (.aload_n 0, 1) := by decide +kernel
theorem dX8_toss_81 : decode cX8_toss 81 = .ok (.iload_n 1, 1) := by decide +kernel
theorem dX8_toss_82 : decode cX8_toss 82 = .ok (.invokevirtual 403, 3) := by decide +kernel
theorem dX8_toss_85 : decode cX8_toss 85 = .ok (.ireturn, 1) := by decide +kernel
theorem dX8_reachOf_0 : decode cX8_reachOf 0 = .ok (.lconst 0, 1) := by decide +kernel
theorem dX8_reachOf_1 : decode cX8_reachOf 1 = .ok (.lstore 4, 2) := by decide +kernel
theorem dX8_reachOf_3 : decode cX8_reachOf 3 = .ok (.iconst 0, 1) := by decide +kernel
theorem dX8_reachOf_4 : decode cX8_reachOf 4 = .ok (.istore 6, 2) := by decide +kernel
theorem dX8_reachOf_6 : decode cX8_reachOf 6 = .ok (.iload 6, 2) := by decide +kernel
theorem dX8_reachOf_8 : decode cX8_reachOf 8 = .ok (.aload_n 0, 1) := by decide +kernel
theorem dX8_reachOf_9 : decode cX8_reachOf 9 = .ok (.iload_n 2, 1) := by decide +kernel
theorem dX8_reachOf_10 : decode cX8_reachOf 10 = .ok (.invokevirtual 403, 3) := by decide +kernel
theorem dX8_reachOf_13 : decode cX8_reachOf 13 = .ok (.if_icmp .ge 63, 3) := by decide +kernel
theorem dX8_reachOf_16 : decode cX8_reachOf 16 = .ok (.lload 4, 2) := by decide +kernel
theorem dX8_reachOf_18 : decode cX8_reachOf 18 = .ok (.aload_n 0, 1) := by decide +kernel
theorem dX8_reachOf_19 : decode cX8_reachOf 19 = .ok (.getfield 9, 3) := by decide +kernel
theorem dX8_reachOf_22 : decode cX8_reachOf 22 = .ok (.aload_n 0, 1) := by decide +kernel
theorem dX8_reachOf_23 : decode cX8_reachOf 23 = .ok (.iload_n 2, 1) := by decide +kernel
theorem dX8_reachOf_24 : decode cX8_reachOf 24 = .ok (.iload 6, 2) := by decide +kernel
theorem dX8_reachOf_26 : decode cX8_reachOf 26 = .ok (.invokevirtual 394, 3) := by decide +kernel
theorem dX8_reachOf_29 : decode cX8_reachOf 29 = .ok (.iconst 2, 1) := by decide +kernel
theorem dX8_reachOf_30 : decode cX8_reachOf 30 = .ok (.iadd, 1) := by decide +kernel
theorem dX8_reachOf_31 : decode cX8_reachOf 31 = .ok (.iaload, 1) := by decide +kernel
theorem dX8_reachOf_32 : decode cX8_reachOf 32 = .ok (.i2l, 1) := by decide +kernel
theorem dX8_reachOf_33 : decode cX8_reachOf 33 = .ok (.aload_n 0, 1) := by decide +kernel
theorem dX8_reachOf_34 : decode cX8_reachOf 34 = .ok (.iload_n 1, 1) := by decide +kernel
theorem dX8_reachOf_35 : decode cX8_reachOf 35 = .ok (.aload_n 0, 1) := by decide +kernel
theorem dX8_reachOf_36 : decode cX8_reachOf 36 = .ok (.getfield 9, 3) := by decide +kernel
theorem dX8_reachOf_39 : decode cX8_reachOf 39 = .ok (.aload_n 0, 1) := by decide +kernel
theorem dX8_reachOf_40 : decode cX8_reachOf 40 = .ok (.iload_n 2, 1) := by decide +kernel
theorem dX8_reachOf_41 : decode cX8_reachOf 41 = .ok (.iload 6, 2) := by decide +kernel
theorem dX8_reachOf_43 : decode cX8_reachOf 43 = .ok (.invokevirtual 394, 3) := by decide +kernel
theorem dX8_reachOf_46 : decode cX8_reachOf 46 = .ok (.iaload, 1) := by decide +kernel
theorem dX8_reachOf_47 : decode cX8_reachOf 47 = .ok (.aload_n 0, 1) := by decide +kernel
theorem dX8_reachOf_48 : decode cX8_reachOf 48 = .ok (.getfield 9, 3) := by decide +kernel
theorem dX8_reachOf_51 : decode cX8_reachOf 51 = .ok (.aload_n 0, 1) := by decide +kernel
theorem dX8_reachOf_52 : decode cX8_reachOf 52 = .ok (.iload_n 2, 1) := by decide +kernel
theorem dX8_reachOf_53 : decode cX8_reachOf 53 = .ok (.iload 6, 2) := by decide +kernel
theorem dX8_reachOf_55 : decode cX8_reachOf 55 = .ok (.invokevirtual 394, 3) := by decide +kernel
theorem dX8_reachOf_58 : decode cX8_reachOf 58 = .ok (.iconst 1, 1) := by decide +kernel
theorem dX8_reachOf_59 : decode cX8_reachOf 59 = .ok (.iadd, 1) := by decide +kernel
theorem dX8_reachOf_60 : decode cX8_reachOf 60 = .ok (.iaload, 1) := by decide +kernel
theorem dX8_reachOf_61 : decode cX8_reachOf 61 = .ok (.iload_n 3, 1) := by decide +kernel
theorem dX8_reachOf_62 : decode cX8_reachOf 62 = .ok (.invokevirtual 383, 3) := by decide +kernel
theorem dX8_reachOf_65 : decode cX8_reachOf 65 = .ok (.i2l, 1) := by decide +kernel
theorem dX8_reachOf_66 : decode cX8_reachOf 66 = .ok (.lmul, 1) := by decide +kernel
theorem dX8_reachOf_67 : decode cX8_reachOf 67 = .ok (.ladd, 1) := by decide +kernel
theorem dX8_reachOf_68 : decode cX8_reachOf 68 = .ok (.lstore 4, 2) := by decide +kernel
theorem dX8_reachOf_70 : decode cX8_reachOf 70 = .ok (.iinc 6 1, 3) := by decide +kernel
theorem dX8_reachOf_73 : decode cX8_reachOf 73 = .ok (.goto (-67), 3) := by decide +kernel
theorem dX8_reachOf_76 : decode cX8_reachOf 76 = .ok (.lload 4, 2) := by decide +kernel
theorem dX8_reachOf_78 : decode cX8_reachOf 78 = .ok (.lreturn, 1) := by decide +kernel
theorem dX8_handFault_0 : decode cX8_handFault 0 = .ok (.aload_n 0, 1) := by decide +kernel
theorem dX8_handFault_1 : decode cX8_handFault 1 = .ok (.iload_n 1, 1) := by decide +kernel
theorem dX8_handFault_2 : decode cX8_handFault 2 = .ok (.invokevirtual 193, 3) := by decide +kernel
theorem dX8_handFault_5 : decode cX8_handFault 5 = .ok (.ifCond .eq 11, 3) := by decide +kernel
theorem dX8_handFault_8 : decode cX8_handFault 8 = .ok (.aload_n 0, 1) := by decide +kernel
theorem dX8_handFault_9 : decode cX8_handFault 9 = .ok (.iload_n 2, 1) := by decide +kernel
theorem dX8_handFault_10 : decode cX8_handFault 10 = .ok (.invokevirtual 397, 3) := by decide +kernel
theorem dX8_handFault_13 : decode cX8_handFault 13 = .ok (.ifCond .ne 7, 3) := by decide +kernel
theorem dX8_handFault_16 : decode cX8_handFault 16 = .ok (.iconst 1, 1) := by decide +kernel
theorem dX8_handFault_17 : decode cX8_handFault 17 = .ok (.goto 8, 3) := by decide +kernel
theorem dX8_handFault_20 : decode cX8_handFault 20 = .ok (.aload_n 0, 1) := by decide +kernel
theorem dX8_handFault_21 : decode cX8_handFault 21 = .ok (.iload_n 1, 1) := by decide +kernel
theorem dX8_handFault_22 : decode cX8_handFault 22 = .ok (.invokevirtual 255, 3) := by decide +kernel
theorem dX8_handFault_25 : decode cX8_handFault 25 = .ok (.ireturn, 1) := by decide +kernel
theorem dX8_reach_0 : decode cX8_reach 0 = .ok (.aload_n 0, 1) := by decide +kernel
theorem dX8_reach_1 : decode cX8_reach 1 = .ok (.aload_n 0, 1) := by decide +kernel
theorem dX8_reach_2 : decode cX8_reach 2 = .ok (.iload_n 1, 1) := by decide +kernel
theorem dX8_reach_3 : decode cX8_reach 3 = .ok (.iload_n 3, 1) := by decide +kernel
theorem dX8_reach_4 : decode cX8_reach 4 = .ok (.invokevirtual 410, 3) := by decide +kernel
theorem dX8_reach_7 : decode cX8_reach 7 = .ok (.putfield 64, 3) := by decide +kernel
theorem dX8_reach_10 : decode cX8_reach 10 = .ok (.aload_n 0, 1) := by decide +kernel
theorem dX8_reach_11 : decode cX8_reach 11 = .ok (.getfield 64, 3) := by decide +kernel
theorem dX8_reach_14 : decode cX8_reach 14 = .ok (.ifCond .le 5, 3) := by decide +kernel
theorem dX8_reach_17 : decode cX8_reach 17 = .ok (.lconst 0, 1) := by decide +kernel
theorem dX8_reach_18 : decode cX8_reach 18 = .ok (.lreturn, 1) := by decide +kernel
theorem dX8_reach_19 : decode cX8_reach 19 = .ok (.iload_n 2, 1) := by decide +kernel
theorem dX8_reach_20 : decode cX8_reach 20 = .ok (.invokestatic 360, 3) := by decide +kernel
theorem dX8_reach_23 : decode cX8_reach 23 = .ok (.ifCond .eq 14, 3) := by decide +kernel
theorem dX8_reach_26 : decode cX8_reach 26 = .ok (.aload_n 0, 1) := by decide +kernel
theorem dX8_reach_27 : decode cX8_reach 27 = .ok (.iload_n 2, 1) := by decide +kernel
theorem dX8_reach_28 : decode cX8_reach 28 = .ok (.iload_n 3, 1) := by decide +kernel
theorem dX8_reach_29 : decode cX8_reach 29 = .ok (.iload 4, 2) := by decide +kernel
theorem dX8_reach_31 : decode cX8_reach 31 = .ok (.invokevirtual 413, 3) := by decide +kernel
theorem dX8_reach_34 : decode cX8_reach 34 = .ok (.goto 9, 3) := by decide +kernel
theorem dX8_reach_37 : decode cX8_reach 37 = .ok (.aload_n 0, 1) := by decide +kernel
theorem dX8_reach_38 : decode cX8_reach 38 = .ok (.iconst 3, 1) := by decide +kernel
theorem dX8_reach_39 : decode cX8_reach 39 = .ok (.invokevirtual 146, 3) := by decide +kernel
theorem dX8_reach_42 : decode cX8_reach 42 = .ok (.i2l, 1) := by decide +kernel
theorem dX8_reach_43 : decode cX8_reach 43 = .ok (.lreturn, 1) := by decide +kernel
theorem dX8_bestEars_0 : decode cX8_bestEars 0 = .ok (.iconst 0, 1) := by decide +kernel
theorem dX8_bestEars_1 : decode cX8_bestEars 1 = .ok (.istore_n 3, 1) := by decide +kernel
theorem dX8_bestEars_2 : decode cX8_bestEars 2 = .ok (.aload_n 0, 1) := by decide +kernel
theorem dX8_bestEars_3 : decode cX8_bestEars 3 = .ok (.aload_n 0, 1) := by decide +kernel
theorem dX8_bestEars_4 : decode cX8_bestEars 4 = .ok (.iconst 0, 1) := by decide +kernel
theorem dX8_bestEars_5 : decode cX8_bestEars 5 = .ok (.iload_n 1, 1) := by decide +kernel
theorem dX8_bestEars_6 : decode cX8_bestEars 6 = .ok (.iload_n 2, 1) := by decide +kernel
theorem dX8_bestEars_7 : decode cX8_bestEars 7 = .ok (.invokevirtual 413, 3) := by decide +kernel
theorem dX8_bestEars_10 : decode cX8_bestEars 10 = .ok (.putfield 417, 3) := by decide +kernel
theorem dX8_bestEars_13 : decode cX8_bestEars 13 = .ok (.iconst 1, 1) := by decide +kernel
theorem dX8_bestEars_14 : decode cX8_bestEars 14 = .ok (.istore 4, 2) := by decide +kernel
theorem dX8_bestEars_16 : decode cX8_bestEars 16 = .ok (.iload 4, 2) := by decide +kernel
theorem dX8_bestEars_18 : decode cX8_bestEars 18 = .ok (.bipush 18, 2) := by decide +kernel
theorem dX8_bestEars_20 : decode cX8_bestEars 20 = .ok (.if_icmp .gt 65, 3) := by decide +kernel
theorem dX8_bestEars_23 : decode cX8_bestEars 23 = .ok (.iload 4, 2) := by decide +kernel
theorem dX8_bestEars_25 : decode cX8_bestEars 25 = .ok (.iconst 2, 1) := by decide +kernel
theorem dX8_bestEars_26 : decode cX8_bestEars 26 = .ok (.irem, 1) := by decide +kernel
theorem dX8_bestEars_27 : decode cX8_bestEars 27 = .ok (.iconst 1, 1) := by decide +kernel
theorem dX8_bestEars_28 : decode cX8_bestEars 28 = .ok (.if_icmp .ne 13, 3) := by decide +kernel
theorem dX8_bestEars_31 : decode cX8_bestEars 31 = .ok (.iload 4, 2) := by decide +kernel
theorem dX8_bestEars_33 : decode cX8_bestEars 33 = .ok (.iconst 1, 1) := by decide +kernel
theorem dX8_bestEars_34 : decode cX8_bestEars 34 = .ok (.iadd, 1) := by decide +kernel
theorem dX8_bestEars_35 : decode cX8_bestEars 35 = .ok (.ineg, 1) := by decide +kernel
theorem dX8_bestEars_36 : decode cX8_bestEars 36 = .ok (.iconst 2, 1) := by decide +kernel
theorem dX8_bestEars_37 : decode cX8_bestEars 37 = .ok (.idiv, 1) := by decide +kernel
theorem dX8_bestEars_38 : decode cX8_bestEars 38 = .ok (.goto 7, 3) := by decide +kernel
theorem dX8_bestEars_41 : decode cX8_bestEars 41 = .ok (.iload 4, 2) := by decide +kernel
theorem dX8_bestEars_43 : decode cX8_bestEars 43 = .ok (.iconst 2, 1) := by decide +kernel
theorem dX8_bestEars_44 : decode cX8_bestEars 44 = .ok (.idiv, 1) := by decide +kernel
theorem dX8_bestEars_45 : decode cX8_bestEars 45 = .ok (.istore 5, 2) := by decide +kernel
theorem dX8_bestEars_47 : decode cX8_bestEars 47 = .ok (.aload_n 0, 1) := by decide +kernel
theorem dX8_bestEars_48 : decode cX8_bestEars 48 = .ok (.iload 5, 2) := by decide +kernel
theorem dX8_bestEars_50 : decode cX8_bestEars 50 = .ok (.iload_n 1, 1) := by decide +kernel
theorem dX8_bestEars_51 : decode cX8_bestEars 51 = .ok (.iload_n 2, 1) := by decide +kernel
theorem dX8_bestEars_52 : decode cX8_bestEars 52 = .ok (.invokevirtual 413, 3) := by decide +kernel
theorem dX8_bestEars_55 : decode cX8_bestEars 55 = .ok (.lstore 6, 2) := by decide +kernel
theorem dX8_bestEars_57 : decode cX8_bestEars 57 = .ok (.lload 6, 2) := by decide +kernel
theorem dX8_bestEars_59 : decode cX8_bestEars 59 = .ok (.aload_n 0, 1) := by decide +kernel
theorem dX8_bestEars_60 : decode cX8_bestEars 60 = .ok (.getfield 417, 3) := by decide +kernel
theorem dX8_bestEars_63 : decode cX8_bestEars 63 = .ok (.lcmp, 1) := by decide +kernel
theorem dX8_bestEars_64 : decode cX8_bestEars 64 = .ok (.ifCond .gt 6, 3) := by decide +kernel
theorem dX8_bestEars_67 : decode cX8_bestEars 67 = .ok (.goto 12, 3) := by decide +kernel
theorem dX8_bestEars_70 : decode cX8_bestEars 70 = .ok (.aload_n 0, 1) := by decide +kernel
theorem dX8_bestEars_71 : decode cX8_bestEars 71 = .ok (.lload 6, 2) := by decide +kernel
theorem dX8_bestEars_73 : decode cX8_bestEars 73 = .ok (.putfield 417, 3) := by decide +kernel
theorem dX8_bestEars_76 : decode cX8_bestEars 76 = .ok (.iload 5, 2) := by decide +kernel
theorem dX8_bestEars_78 : decode cX8_bestEars 78 = .ok (.istore_n 3, 1) := by decide +kernel
theorem dX8_bestEars_79 : decode cX8_bestEars 79 = .ok (.iinc 4 1, 3) := by decide +kernel
theorem dX8_bestEars_82 : decode cX8_bestEars 82 = .ok (.goto (-66), 3) := by decide +kernel
theorem dX8_bestEars_85 : decode cX8_bestEars 85 = .ok (.iload_n 3, 1) := by decide +kernel
theorem dX8_bestEars_86 : decode cX8_bestEars 86 = .ok (.ireturn, 1) := by decide +kernel
theorem dX8_ears_0 : decode cX8_ears 0 = .ok (.aload_n 0, 1) := by decide +kernel
theorem dX8_ears_1 : decode cX8_ears 1 = .ok (.aload_n 0, 1) := by decide +kernel
theorem dX8_ears_2 : decode cX8_ears 2 = .ok (.iload_n 1, 1) := by decide +kernel
theorem dX8_ears_3 : decode cX8_ears 3 = .ok (.iload_n 2, 1) := by decide +kernel
theorem dX8_ears_4 : decode cX8_ears 4 = .ok (.invokevirtual 410, 3) := by decide +kernel
theorem dX8_ears_7 : decode cX8_ears 7 = .ok (.putfield 64, 3) := by decide +kernel
theorem dX8_ears_10 : decode cX8_ears 10 = .ok (.aload_n 0, 1) := by decide +kernel
theorem dX8_ears_11 : decode cX8_ears 11 = .ok (.getfield 64, 3) := by decide +kernel
theorem dX8_ears_14 : decode cX8_ears 14 = .ok (.ifCond .le 7, 3) := by decide +kernel
theorem dX8_ears_17 : decode cX8_ears 17 = .ok (.iconst 0, 1) := by decide +kernel
theorem dX8_ears_18 : decode cX8_ears 18 = .ok (.goto 9, 3) := by decide +kernel
theorem dX8_ears_21 : decode cX8_ears 21 = .ok (.aload_n 0, 1) := by decide +kernel
theorem dX8_ears_22 : decode cX8_ears 22 = .ok (.iload_n 2, 1) := by decide +kernel
theorem dX8_ears_23 : decode cX8_ears 23 = .ok (.iload_n 3, 1) := by decide +kernel
theorem dX8_ears_24 : decode cX8_ears 24 = .ok (.invokevirtual 421, 3) := by decide +kernel
theorem dX8_ears_27 : decode cX8_ears 27 = .ok (.ireturn, 1) := by decide +kernel
theorem dX8_best_0 : decode cX8_best 0 = .ok (.aload_n 0, 1) := by decide +kernel
theorem dX8_best_1 : decode cX8_best 1 = .ok (.iconst 0, 1) := by decide +kernel
theorem dX8_best_2 : decode cX8_best 2 = .ok (.putfield 64, 3) := by decide +kernel
theorem dX8_best_5 : decode cX8_best 5 = .ok (.aload_n 0, 1) := by decide +kernel
theorem dX8_best_6 : decode cX8_best 6 = .ok (.iload_n 1, 1) := by decide +kernel
theorem dX8_best_7 : decode cX8_best 7 = .ok (.invokevirtual 397, 3) := by decide +kernel
theorem dX8_best_10 : decode cX8_best 10 = .ok (.ifCond .ne 9, 3) := by decide +kernel
theorem dX8_best_13 : decode cX8_best 13 = .ok (.aload_n 0, 1) := by decide +kernel
theorem dX8_best_14 : decode cX8_best 14 = .ok (.iconst 1, 1) := by decide +kernel
theorem dX8_best_15 : decode cX8_best 15 = .ok (.invokevirtual 146, 3) := by decide +kernel
theorem dX8_best_18 : decode cX8_best 18 = .ok (.ireturn, 1) := by decide +kernel
theorem dX8_best_19 : decode cX8_best 19 = .ok (.iconst (-1), 1) := by decide +kernel
theorem dX8_best_20 : decode cX8_best 20 = .ok (.istore_n 3, 1) := by decide +kernel
theorem dX8_best_21 : decode cX8_best 21 = .ok (.lconst 0, 1) := by decide +kernel
theorem dX8_best_22 : decode cX8_best 22 = .ok (.lstore 4, 2) := by decide +kernel
theorem dX8_best_24 : decode cX8_best 24 = .ok (.iconst 0, 1) := by decide +kernel
theorem dX8_best_25 : decode cX8_best 25 = .ok (.istore 6, 2) := by decide +kernel
theorem dX8_best_27 : decode cX8_best 27 = .ok (.iload 6, 2) := by decide +kernel
theorem dX8_best_29 : decode cX8_best 29 = .ok (.aload_n 0, 1) := by decide +kernel
theorem dX8_best_30 : decode cX8_best 30 = .ok (.getfield 9, 3) := by decide +kernel
theorem dX8_best_33 : decode cX8_best 33 = .ok (.iconst 2, 1) := by decide +kernel
theorem dX8_best_34 : decode cX8_best 34 = .ok (.iaload, 1) := by decide +kernel
theorem dX8_best_35 : decode cX8_best 35 = .ok (.if_icmp .ge 57, 3) := by decide +kernel
theorem dX8_best_38 : decode cX8_best 38 = .ok (.aload_n 0, 1) := by decide +kernel
theorem dX8_best_39 : decode cX8_best 39 = .ok (.iload 6, 2) := by decide +kernel
theorem dX8_best_41 : decode cX8_best 41 = .ok (.invokevirtual 252, 3) := by decide +kernel
theorem dX8_best_44 : decode cX8_best 44 = .ok (.iconst (-1), 1) := by decide +kernel
theorem dX8_best_45 : decode cX8_best 45 = .ok (.if_icmp .eq 6, 3) := by decide +kernel
theorem dX8_best_48 : decode cX8_best 48 = .ok (.goto 38, 3) := by decide +kernel
theorem dX8_best_51 : decode cX8_best 51 = .ok (.aload_n 0, 1) := by decide +kernel
theorem dX8_best_52 : decode cX8_best 52 = .ok (.iload_n 1, 1) := by decide +kernel
theorem dX8_best_53 : decode cX8_best 53 = .ok (.iload_n 2, 1) := by decide +kernel
theorem dX8_best_54 : decode cX8_best 54 = .ok (.invokevirtual 421, 3) := by decide +kernel
theorem dX8_best_57 : decode cX8_best 57 = .ok (.istore 7, 2) := by decide +kernel
theorem dX8_best_59 : decode cX8_best 59 = .ok (.iload_n 3, 1) := by decide +kernel
theorem dX8_best_60 : decode cX8_best 60 = .ok (.iconst (-1), 1) := by decide +kernel
theorem dX8_best_61 : decode cX8_best 61 = .ok (.if_icmp .eq 16, 3) := by decide +kernel
theorem dX8_best_64 : decode cX8_best 64 = .ok (.aload_n 0, 1) := by decide +kernel
theorem dX8_best_65 : decode cX8_best 65 = .ok (.getfield 417, 3) := by decide +kernel
theorem dX8_best_68 : decode cX8_best 68 = .ok (.lload 4, 2) := by decide +kernel
theorem dX8_best_70 : decode cX8_best 70 = .ok (.lcmp, 1) := by decide +kernel
theorem dX8_best_71 : decode cX8_best 71 = .ok (.ifCond .gt 6, 3) := by decide +kernel
theorem dX8_best_74 : decode cX8_best 74 = .ok (.goto 12, 3) := by decide +kernel
theorem dX8_best_77 : decode cX8_best 77 = .ok (.iload 6, 2) := by decide +kernel
theorem dX8_best_79 : decode cX8_best 79 = .ok (.istore_n 3, 1) := by decide +kernel
theorem dX8_best_80 : decode cX8_best 80 = .ok (.aload_n 0, 1) := by decide +kernel
theorem dX8_best_81 : decode cX8_best 81 = .ok (.getfield 417, 3) := by decide +kernel
theorem dX8_best_84 : decode cX8_best 84 = .ok (.lstore 4, 2) := by decide +kernel
theorem dX8_best_86 : decode cX8_best 86 = .ok (.iinc 6 1, 3) := by decide +kernel
theorem dX8_best_89 : decode cX8_best 89 = .ok (.goto (-62), 3) := by decide +kernel
theorem dX8_best_92 : decode cX8_best 92 = .ok (.iload_n 3, 1) := by decide +kernel
theorem dX8_best_93 : decode cX8_best 93 = .ok (.ireturn, 1) := by decide +kernel
theorem dX8_findChange_0 : decode cX8_findChange 0 = .ok (.aload_n 0, 1) := by decide +kernel
theorem dX8_findChange_1 : decode cX8_findChange 1 = .ok (.iconst (-1), 1) := by decide +kernel
theorem dX8_findChange_2 : decode cX8_findChange 2 = .ok (.putfield 425, 3) := by decide +kernel
theorem dX8_findChange_5 : decode cX8_findChange 5 = .ok (.aload_n 0, 1) := by decide +kernel
theorem dX8_findChange_6 : decode cX8_findChange 6 = .ok (.lconst 0, 1) := by decide +kernel
theorem dX8_findChange_7 : decode cX8_findChange 7 = .ok (.putfield 428, 3) := by decide +kernel
theorem dX8_findChange_10 : decode cX8_findChange 10 = .ok (.iconst 0, 1) := by decide +kernel
theorem dX8_findChange_11 : decode cX8_findChange 11 = .ok (.istore 5, 2) := by decide +kernel
theorem dX8_findChange_13 : decode cX8_findChange 13 = .ok (.iload 5, 2) := by decide +kernel
theorem dX8_findChange_15 : decode cX8_findChange 15 = .ok (.aload_n 0, 1) := by decide +kernel
theorem dX8_findChange_16 : decode cX8_findChange 16 = .ok (.iload_n 1, 1) := by decide +kernel
theorem dX8_findChange_17 : decode cX8_findChange 17 = .ok (.invokevirtual 196, 3) := by decide +kernel
theorem dX8_findChange_20 : decode cX8_findChange 20 = .ok (.if_icmp .ge 207, 3) := by decide +kernel
theorem dX8_findChange_23 : decode cX8_findChange 23 = .ok (.aload_n 0, 1) := by decide +kernel
theorem dX8_findChange_24 : decode cX8_findChange 24 = .ok (.iload_n 1, 1) := by decide +kernel
theorem dX8_findChange_25 : decode cX8_findChange 25 = .ok (.iload 5, 2) := by decide +kernel
theorem dX8_findChange_27 : decode cX8_findChange 27 = .ok (.invokevirtual 199, 3) := by decide +kernel
theorem dX8_findChange_30 : decode cX8_findChange 30 = .ok (.istore 6, 2) := by decide +kernel
theorem dX8_findChange_32 : decode cX8_findChange 32 = .ok (.aload_n 0, 1) := by decide +kernel
theorem dX8_findChange_33 : decode cX8_findChange 33 = .ok (.getfield 9, 3) := by decide +kernel
theorem dX8_findChange_36 : decode cX8_findChange 36 = .ok (.iload 6, 2) := by decide +kernel
theorem dX8_findChange_38 : decode cX8_findChange 38 = .ok (.iaload, 1) := by decide +kernel
theorem dX8_findChange_39 : decode cX8_findChange 39 = .ok (.istore 7, 2) := by decide +kernel
theorem dX8_findChange_41 : decode cX8_findChange 41 = .ok (.aload_n 0, 1) := by decide +kernel
theorem dX8_findChange_42 : decode cX8_findChange 42 = .ok (.getfield 9, 3) := by decide +kernel
theorem dX8_findChange_45 : decode cX8_findChange 45 = .ok (.iload 6, 2) := by decide +kernel
theorem dX8_findChange_47 : decode cX8_findChange 47 = .ok (.iconst 1, 1) := by decide +kernel
theorem dX8_findChange_48 : decode cX8_findChange 48 = .ok (.iadd, 1) := by decide +kernel
theorem dX8_findChange_49 : decode cX8_findChange 49 = .ok (.iaload, 1) := by decide +kernel
theorem dX8_findChange_50 : decode cX8_findChange 50 = .ok (.istore 8, 2) := by decide +kernel
theorem dX8_findChange_52 : decode cX8_findChange 52 = .ok (.iconst 0, 1) := by decide +kernel
theorem dX8_findChange_53 : decode cX8_findChange 53 = .ok (.istore 9, 2) := by decide +kernel
theorem dX8_findChange_55 : decode cX8_findChange 55 = .ok (.iload 9, 2) := by decide +kernel
theorem dX8_findChange_57 : decode cX8_findChange 57 = .ok (.bipush 18, 2) := by decide +kernel
theorem dX8_findChange_59 : decode cX8_findChange 59 = .ok (.if_icmp .ge 142, 3) := by decide +kernel
theorem dX8_findChange_62 : decode cX8_findChange 62 = .ok (.aload_n 0, 1) := by decide +kernel
theorem dX8_findChange_63 : decode cX8_findChange 63 = .ok (.getfield 9, 3) := by decide +kernel
theorem dX8_findChange_66 : decode cX8_findChange 66 = .ok (.iload 6, 2) := by decide +kernel
theorem dX8_findChange_68 : decode cX8_findChange 68 = .ok (.iload 9, 2) := by decide +kernel
theorem dX8_findChange_70 : decode cX8_findChange 70 = .ok (.bipush 6, 2) := by decide +kernel
theorem dX8_findChange_72 : decode cX8_findChange 72 = .ok (.idiv, 1) := by decide +kernel
theorem dX8_findChange_73 : decode cX8_findChange 73 = .ok (.iastore, 1) := by decide +kernel
theorem dX8_findChange_74 : decode cX8_findChange 74 = .ok (.aload_n 0, 1) := by decide +kernel
theorem dX8_findChange_75 : decode cX8_findChange 75 = .ok (.getfield 9, 3) := by decide +kernel
theorem dX8_findChange_78 : decode cX8_findChange 78 = .ok (.iload 6, 2) := by decide +kernel
theorem dX8_findChange_80 : decode cX8_findChange 80 = .ok (.iconst 1, 1) := by decide +kernel
theorem dX8_findChange_81 : decode cX8_findChange 81 = .ok (.iadd, 1) := by decide +kernel
theorem dX8_findChange_82 : decode cX8_findChange 82 = .ok (.iload 9, 2) := by decide +kernel
theorem dX8_findChange_84 : decode cX8_findChange 84 = .ok (.bipush 6, 2) := by decide +kernel
theorem dX8_findChange_86 : decode cX8_findChange 86 = .ok (.irem, 1) := by decide +kernel
theorem dX8_findChange_87 : decode cX8_findChange 87 = .ok (.iconst 1, 1) := by decide +kernel
theorem dX8_findChange_88 : decode cX8_findChange 88 = .ok (.iadd, 1) := by decide +kernel
theorem dX8_findChange_89 : decode cX8_findChange 89 = .ok (.iastore, 1) := by decide +kernel
theorem dX8_findChange_90 : decode cX8_findChange 90 = .ok (.aload_n 0, 1) := by decide +kernel
theorem dX8_findChange_91 : decode cX8_findChange 91 = .ok (.getfield 9, 3) := by decide +kernel
theorem dX8_findChange_94 : decode cX8_findChange 94 = .ok (.iload 6, 2) := by decide +kernel
theorem dX8_findChange_96 : decode cX8_findChange 96 = .ok (.iaload, 1) := by decide +kernel
theorem dX8_findChange_97 : decode cX8_findChange 97 = .ok (.iload 7, 2) := by decide +kernel
theorem dX8_findChange_99 : decode cX8_findChange 99 = .ok (.if_icmp .ne 17, 3) := by decide +kernel
theorem dX8_findChange_102 : decode cX8_findChange 102 = .ok (.aload_n 0, 1) := by decide +kernel
theorem dX8_findChange_103 : decode cX8_findChange 103 = .ok (.getfield 9, 3) := by decide +kernel
theorem dX8_findChange_106 : decode cX8_findChange 106 = .ok (.iload 6, 2) := by decide +kernel
theorem dX8_findChange_108 : decode cX8_findChange 108 = .ok (.iconst 1, 1) := by decide +kernel
theorem dX8_findChange_109 : decode cX8_findChange 109 = .ok (.iadd, 1) := by decide +kernel
theorem dX8_findChange_110 : decode cX8_findChange 110 = .ok (.iaload, 1) := by decide +kernel
theorem dX8_findChange_111 : decode cX8_findChange 111 = .ok (.iload 8, 2) := by decide +kernel
theorem dX8_findChange_113 : decode cX8_findChange 113 = .ok (.if_icmp .eq 82, 3) := by decide +kernel
theorem dX8_findChange_116 : decode cX8_findChange 116 = .ok (.aload_n 0, 1) := by decide +kernel
theorem dX8_findChange_117 : decode cX8_findChange 117 = .ok (.iload_n 1, 1) := by decide +kernel
theorem dX8_findChange_118 : decode cX8_findChange 118 = .ok (.invokevirtual 252, 3) := by decide +kernel
theorem dX8_findChange_121 : decode cX8_findChange 121 = .ok (.iconst (-1), 1) := by decide +kernel
theorem dX8_findChange_122 : decode cX8_findChange 122 = .ok (.if_icmp .eq 6, 3) := by decide +kernel
theorem dX8_findChange_125 : decode cX8_findChange 125 = .ok (.goto 70, 3) := by decide +kernel
theorem dX8_findChange_128 : decode cX8_findChange 128 = .ok (.aload_n 0, 1) := by decide +kernel
theorem dX8_findChange_129 : decode cX8_findChange 129 = .ok (.iload_n 2, 1) := by decide +kernel
theorem dX8_findChange_130 : decode cX8_findChange 130 = .ok (.iload_n 3, 1) := by decide +kernel
theorem dX8_findChange_131 : decode cX8_findChange 131 = .ok (.iload 4, 2) := by decide +kernel
theorem dX8_findChange_133 : decode cX8_findChange 133 = .ok (.invokevirtual 413, 3) := by decide +kernel
theorem dX8_findChange_136 : decode cX8_findChange 136 = .ok (.lstore 10, 2) := by decide +kernel
theorem dX8_findChange_138 : decode cX8_findChange 138 = .ok (.aload_n 0, 1) := by decide +kernel
theorem dX8_findChange_139 : decode cX8_findChange 139 = .ok (.getfield 425, 3) := by decide +kernel
theorem dX8_findChange_142 : decode cX8_findChange 142 = .ok (.iconst (-1), 1) := by decide +kernel
theorem dX8_findChange_143 : decode cX8_findChange 143 = .ok (.if_icmp .eq 16, 3) := by decide +kernel
theorem dX8_findChange_146 : decode cX8_findChange 146 = .ok (.lload 10, 2) := by decide +kernel
theorem dX8_findChange_148 : decode cX8_findChange 148 = .ok (.aload_n 0, 1) := by decide +kernel
theorem dX8_findChange_149 : decode cX8_findChange 149 = .ok (.getfield 428, 3) := by decide +kernel
theorem dX8_findChange_152 : decode cX8_findChange 152 = .ok (.lcmp, 1) := by decide +kernel
theorem dX8_findChange_153 : decode cX8_findChange 153 = .ok (.ifCond .gt 6, 3) := by decide +kernel
theorem dX8_findChange_156 : decode cX8_findChange 156 = .ok (.goto 39, 3) := by decide +kernel
theorem dX8_findChange_159 : decode cX8_findChange 159 = .ok (.aload_n 0, 1) := by decide +kernel
theorem dX8_findChange_160 : decode cX8_findChange 160 = .ok (.iload 5, 2) := by decide +kernel
theorem dX8_findChange_162 : decode cX8_findChange 162 = .ok (.putfield 425, 3) := by decide +kernel
theorem dX8_findChange_165 : decode cX8_findChange 165 = .ok (.aload_n 0, 1) := by decide +kernel
theorem dX8_findChange_166 : decode cX8_findChange 166 = .ok (.bipush 100, 2) := by decide +kernel
theorem dX8_findChange_168 : decode cX8_findChange 168 = .ok (.aload_n 0, 1) := by decide +kernel
theorem dX8_findChange_169 : decode cX8_findChange 169 = .ok (.getfield 9, 3) := by decide +kernel
theorem dX8_findChange_172 : decode cX8_findChange 172 = .ok (.iload 6, 2) := by decide +kernel
theorem dX8_findChange_174 : decode cX8_findChange 174 = .ok (.iaload, 1) := by decide +kernel
theorem dX8_findChange_175 : decode cX8_findChange 175 = .ok (.imul, 1) := by decide +kernel
theorem dX8_findChange_176 : decode cX8_findChange 176 = .ok (.aload_n 0, 1) := by decide +kernel
theorem dX8_findChange_177 : decode cX8_findChange 177 = .ok (.getfield 9, 3) := by decide +kernel
theorem dX8_findChange_180 : decode cX8_findChange 180 = .ok (.iload 6, 2) := by decide +kernel
theorem dX8_findChange_182 : decode cX8_findChange 182 = .ok (.iconst 1, 1) := by decide +kernel
theorem dX8_findChange_183 : decode cX8_findChange 183 = .ok (.iadd, 1) := by decide +kernel
theorem dX8_findChange_184 : decode cX8_findChange 184 = .ok (.iaload, 1) := by decide +kernel
theorem dX8_findChange_185 : decode cX8_findChange 185 = .ok (.iadd, 1) := by decide +kernel
theorem dX8_findChange_186 : decode cX8_findChange 186 = .ok (.putfield 431, 3) := by decide +kernel
theorem dX8_findChange_189 : decode cX8_findChange 189 = .ok (.aload_n 0, 1) := by decide +kernel
theorem dX8_findChange_190 : decode cX8_findChange 190 = .ok (.lload 10, 2) := by decide +kernel
theorem dX8_findChange_192 : decode cX8_findChange 192 = .ok (.putfield 428, 3) := by decide +kernel
theorem dX8_findChange_195 : decode cX8_findChange 195 = .ok (.iinc 9 1, 3) := by decide +kernel
theorem dX8_findChange_198 : decode cX8_findChange 198 = .ok (.goto (-143), 3) := by decide +kernel
theorem dX8_findChange_201 : decode cX8_findChange 201 = .ok (.aload_n 0, 1) := by decide +kernel
theorem dX8_findChange_202 : decode cX8_findChange 202 = .ok (.getfield 9, 3) := by decide +kernel
theorem dX8_findChange_205 : decode cX8_findChange 205 = .ok (.iload 6, 2) := by decide +kernel
theorem dX8_findChange_207 : decode cX8_findChange 207 = .ok (.iload 7, 2) := by decide +kernel
theorem dX8_findChange_209 : decode cX8_findChange 209 = .ok (.iastore, 1) := by decide +kernel
theorem dX8_findChange_210 : decode cX8_findChange 210 = .ok (.aload_n 0, 1) := by decide +kernel
theorem dX8_findChange_211 : decode cX8_findChange 211 = .ok (.getfield 9, 3) := by decide +kernel
theorem dX8_findChange_214 : decode cX8_findChange 214 = .ok (.iload 6, 2) := by decide +kernel
theorem dX8_findChange_216 : decode cX8_findChange 216 = .ok (.iconst 1, 1) := by decide +kernel
theorem dX8_findChange_217 : decode cX8_findChange 217 = .ok (.iadd, 1) := by decide +kernel
theorem dX8_findChange_218 : decode cX8_findChange 218 = .ok (.iload 8, 2) := by decide +kernel
theorem dX8_findChange_220 : decode cX8_findChange 220 = .ok (.iastore, 1) := by decide +kernel
theorem dX8_findChange_221 : decode cX8_findChange 221 = .ok (.iinc 5 1, 3) := by decide +kernel
theorem dX8_findChange_224 : decode cX8_findChange 224 = .ok (.goto (-211), 3) := by decide +kernel
theorem dX8_findChange_227 : decode cX8_findChange 227 = .ok (.return_, 1) := by decide +kernel
theorem dX8_change_0 : decode cX8_change 0 = .ok (.aload_n 0, 1) := by decide +kernel
theorem dX8_change_1 : decode cX8_change 1 = .ok (.aload_n 0, 1) := by decide +kernel
theorem dX8_change_2 : decode cX8_change 2 = .ok (.iload_n 1, 1) := by decide +kernel
theorem dX8_change_3 : decode cX8_change 3 = .ok (.iload_n 3, 1) := by decide +kernel
theorem dX8_change_4 : decode cX8_change 4 = .ok (.invokevirtual 410, 3) := by decide +kernel
theorem dX8_change_7 : decode cX8_change 7 = .ok (.putfield 64, 3) := by decide +kernel
theorem dX8_change_10 : decode cX8_change 10 = .ok (.aload_n 0, 1) := by decide +kernel
theorem dX8_change_11 : decode cX8_change 11 = .ok (.getfield 64, 3) := by decide +kernel
theorem dX8_change_14 : decode cX8_change 14 = .ok (.ifCond .le 5, 3) := by decide +kernel
theorem dX8_change_17 : decode cX8_change 17 = .ok (.lconst 0, 1) := by decide +kernel
theorem dX8_change_18 : decode cX8_change 18 = .ok (.lreturn, 1) := by decide +kernel
theorem dX8_change_19 : decode cX8_change 19 = .ok (.iload_n 2, 1) := by decide +kernel
theorem dX8_change_20 : decode cX8_change 20 = .ok (.invokestatic 360, 3) := by decide +kernel
theorem dX8_change_23 : decode cX8_change 23 = .ok (.ifCond .eq 16, 3) := by decide +kernel
theorem dX8_change_26 : decode cX8_change 26 = .ok (.iload 5, 2) := by decide +kernel
theorem dX8_change_28 : decode cX8_change 28 = .ok (.i2l, 1) := by decide +kernel
theorem dX8_change_29 : decode cX8_change 29 = .ok (.lconst 0, 1) := by decide +kernel
theorem dX8_change_30 : decode cX8_change 30 = .ok (.ldc2_w 216, 3) := by decide +kernel
theorem dX8_change_33 : decode cX8_change 33 = .ok (.invokestatic 67, 3) := by decide +kernel
theorem dX8_change_36 : decode cX8_change 36 = .ok (.ifCond .ne 10, 3) := by decide +kernel
theorem dX8_change_39 : decode cX8_change 39 = .ok (.aload_n 0, 1) := by decide +kernel
theorem dX8_change_40 : decode cX8_change 40 = .ok (.iconst 3, 1) := by decide +kernel
theorem dX8_change_41 : decode cX8_change 41 = .ok (.invokevirtual 146, 3) := by decide +kernel
theorem dX8_change_44 : decode cX8_change 44 = .ok (.i2l, 1) := by decide +kernel
theorem dX8_change_45 : decode cX8_change 45 = .ok (.lreturn, 1) := by decide +kernel
theorem dX8_change_46 : decode cX8_change 46 = .ok (.aload_n 0, 1) := by decide +kernel
theorem dX8_change_47 : decode cX8_change 47 = .ok (.iload_n 1, 1) := by decide +kernel
theorem dX8_change_48 : decode cX8_change 48 = .ok (.iload_n 2, 1) := by decide +kernel
theorem dX8_change_49 : decode cX8_change 49 = .ok (.iload_n 3, 1) := by decide +kernel
theorem dX8_change_50 : decode cX8_change 50 = .ok (.iload 4, 2) := by decide +kernel
theorem dX8_change_52 : decode cX8_change 52 = .ok (.invokevirtual 434, 3) := by decide +kernel
theorem dX8_change_55 : decode cX8_change 55 = .ok (.aload_n 0, 1) := by decide +kernel
theorem dX8_change_56 : decode cX8_change 56 = .ok (.getfield 425, 3) := by decide +kernel
theorem dX8_change_59 : decode cX8_change 59 = .ok (.iconst (-1), 1) := by decide +kernel
theorem dX8_change_60 : decode cX8_change 60 = .ok (.if_icmp .ne 9, 3) := by decide +kernel
theorem dX8_change_63 : decode cX8_change 63 = .ok (.ldc2_w 438, 3) := by decide +kernel
theorem dX8_change_66 : decode cX8_change 66 = .ok (.goto 34, 3) := by decide +kernel
theorem dX8_change_69 : decode cX8_change 69 = .ok (.iload 5, 2) := by decide +kernel
theorem dX8_change_71 : decode cX8_change 71 = .ok (.ifCond .ne 11, 3) := by decide +kernel
theorem dX8_change_74 : decode cX8_change 74 = .ok (.aload_n 0, 1) := by decide +kernel
theorem dX8_change_75 : decode cX8_change 75 = .ok (.getfield 425, 3) := by decide +kernel
theorem dX8_change_78 : decode cX8_change 78 = .ok (.i2l, 1) := by decide +kernel
theorem dX8_change_79 : decode cX8_change 79 = .ok (.goto 21, 3) := by decide +kernel
theorem dX8_change_82 : decode cX8_change 82 = .ok (.iload 5, 2) := by decide +kernel
theorem dX8_change_84 : decode cX8_change 84 = .ok (.iconst 1, 1) := by decide +kernel
theorem dX8_change_85 : decode cX8_change 85 = .ok (.if_icmp .ne 11, 3) := by decide +kernel
theorem dX8_change_88 : decode cX8_change 88 = .ok (.aload_n 0, 1) := by decide +kernel
theorem dX8_change_89 : decode cX8_change 89 = .ok (.getfield 431, 3) := by decide +kernel
theorem dX8_change_92 : decode cX8_change 92 = .ok (.i2l, 1) := by decide +kernel
theorem dX8_change_93 : decode cX8_change 93 = .ok (.goto 7, 3) := by decide +kernel
theorem dX8_change_96 : decode cX8_change 96 = .ok (.aload_n 0, 1) := by decide +kernel
theorem dX8_change_97 : decode cX8_change 97 = .ok (.getfield 428, 3) := by decide +kernel
theorem dX8_change_100 : decode cX8_change 100 = .ok (.lreturn, 1) := by decide +kernel
theorem dX8_mend_0 : decode cX8_mend 0 = .ok (.aload_n 0, 1) := by decide +kernel
theorem dX8_mend_1 : decode cX8_mend 1 = .ok (.aload_n 0, 1) := by decide +kernel
theorem dX8_mend_2 : decode cX8_mend 2 = .ok (.iload_n 1, 1) := by decide +kernel
theorem dX8_mend_3 : decode cX8_mend 3 = .ok (.iload_n 3, 1) := by decide +kernel
theorem dX8_mend_4 : decode cX8_mend 4 = .ok (.invokevirtual 410, 3) := by decide +kernel
theorem dX8_mend_7 : decode cX8_mend 7 = .ok (.putfield 64, 3) := by decide +kernel
theorem dX8_mend_10 : decode cX8_mend 10 = .ok (.aload_n 0, 1) := by decide +kernel
theorem dX8_mend_11 : decode cX8_mend 11 = .ok (.getfield 64, 3) := by decide +kernel
theorem dX8_mend_14 : decode cX8_mend 14 = .ok (.ifCond .le 5, 3) := by decide +kernel
theorem dX8_mend_17 : decode cX8_mend 17 = .ok (.iconst 0, 1) := by decide +kernel
theorem dX8_mend_18 : decode cX8_mend 18 = .ok (.ireturn, 1) := by decide +kernel
theorem dX8_mend_19 : decode cX8_mend 19 = .ok (.iload_n 2, 1) := by decide +kernel
theorem dX8_mend_20 : decode cX8_mend 20 = .ok (.invokestatic 360, 3) := by decide +kernel
theorem dX8_mend_23 : decode cX8_mend 23 = .ok (.ifCond .ne 9, 3) := by decide +kernel
theorem dX8_mend_26 : decode cX8_mend 26 = .ok (.aload_n 0, 1) := by decide +kernel
theorem dX8_mend_27 : decode cX8_mend 27 = .ok (.iconst 3, 1) := by decide +kernel
theorem dX8_mend_28 : decode cX8_mend 28 = .ok (.invokevirtual 146, 3) := by decide +kernel
theorem dX8_mend_31 : decode cX8_mend 31 = .ok (.ireturn, 1) := by decide +kernel
theorem dX8_mend_32 : decode cX8_mend 32 = .ok (.aload_n 0, 1) := by decide +kernel
theorem dX8_mend_33 : decode cX8_mend 33 = .ok (.iload_n 2, 1) := by decide +kernel
theorem dX8_mend_34 : decode cX8_mend 34 = .ok (.iload_n 3, 1) := by decide +kernel
theorem dX8_mend_35 : decode cX8_mend 35 = .ok (.iload 4, 2) := by decide +kernel
theorem dX8_mend_37 : decode cX8_mend 37 = .ok (.invokevirtual 413, 3) := by decide +kernel
theorem dX8_mend_40 : decode cX8_mend 40 = .ok (.lstore 5, 2) := by decide +kernel
theorem dX8_mend_42 : decode cX8_mend 42 = .ok (.iconst 0, 1) := by decide +kernel
theorem dX8_mend_43 : decode cX8_mend 43 = .ok (.istore 7, 2) := by decide +kernel
theorem dX8_mend_45 : decode cX8_mend 45 = .ok (.iconst 1, 1) := by decide +kernel
theorem dX8_mend_46 : decode cX8_mend 46 = .ok (.istore 8, 2) := by decide +kernel
theorem dX8_mend_48 : decode cX8_mend 48 = .ok (.iload 8, 2) := by decide +kernel
theorem dX8_mend_50 : decode cX8_mend 50 = .ok (.ifCond .eq 107, 3) := by decide +kernel
theorem dX8_mend_53 : decode cX8_mend 53 = .ok (.iload 7, 2) := by decide +kernel
theorem dX8_mend_55 : decode cX8_mend 55 = .ok (.iconst 4, 1) := by decide +kernel
theorem dX8_mend_56 : decode cX8_mend 56 = .ok (.if_icmp .ge 101, 3) := by decide +kernel
theorem dX8_mend_59 : decode cX8_mend 59 = .ok (.aload_n 0, 1) := by decide +kernel
theorem dX8_mend_60 : decode cX8_mend 60 = .ok (.iload_n 1, 1) := by decide +kernel
theorem dX8_mend_61 : decode cX8_mend 61 = .ok (.iload_n 2, 1) := by decide +kernel
theorem dX8_mend_62 : decode cX8_mend 62 = .ok (.iload_n 3, 1) := by decide +kernel
theorem dX8_mend_63 : decode cX8_mend 63 = .ok (.iload 4, 2) := by decide +kernel
theorem dX8_mend_65 : decode cX8_mend 65 = .ok (.invokevirtual 434, 3) := by decide +kernel
theorem dX8_mend_68 : decode cX8_mend 68 = .ok (.aload_n 0, 1) := by decide +kernel
theorem dX8_mend_69 : decode cX8_mend 69 = .ok (.getfield 425, 3) := by decide +kernel
theorem dX8_mend_72 : decode cX8_mend 72 = .ok (.iconst (-1), 1) := by decide +kernel
theorem dX8_mend_73 : decode cX8_mend 73 = .ok (.if_icmp .eq 17, 3) := by decide +kernel
theorem dX8_mend_76 : decode cX8_mend 76 = .ok (.aload_n 0, 1) := by decide +kernel
theorem dX8_mend_77 : decode cX8_mend 77 = .ok (.getfield 428, 3) := by decide +kernel
theorem dX8_mend_80 : decode cX8_mend 80 = .ok (.lload 5, 2) := by decide +kernel
theorem dX8_mend_82 : decode cX8_mend 82 = .ok (.lcmp, 1) := by decide +kernel
theorem dX8_mend_83 : decode cX8_mend 83 = .ok (.ifCond .le 7, 3) := by decide +kernel
theorem dX8_mend_86 : decode cX8_mend 86 = .ok (.iconst 1, 1) := by decide +kernel
theorem dX8_mend_87 : decode cX8_mend 87 = .ok (.goto 4, 3) := by decide +kernel
theorem dX8_mend_90 : decode cX8_mend 90 = .ok (.iconst 0, 1) := by decide +kernel
theorem dX8_mend_91 : decode cX8_mend 91 = .ok (.istore 8, 2) := by decide +kernel
theorem dX8_mend_93 : decode cX8_mend 93 = .ok (.iload 8, 2) := by decide +kernel
theorem dX8_mend_95 : decode cX8_mend 95 = .ok (.ifCond .ne 6, 3) := by decide +kernel
theorem dX8_mend_98 : decode cX8_mend 98 = .ok (.goto (-50), 3) := by decide +kernel
theorem dX8_mend_101 : decode cX8_mend 101 = .ok (.aload_n 0, 1) := by decide +kernel
theorem dX8_mend_102 : decode cX8_mend 102 = .ok (.getfield 9, 3) := by decide +kernel
theorem dX8_mend_105 : decode cX8_mend 105 = .ok (.aload_n 0, 1) := by decide +kernel
theorem dX8_mend_106 : decode cX8_mend 106 = .ok (.iload_n 1, 1) := by decide +kernel
theorem dX8_mend_107 : decode cX8_mend 107 = .ok (.aload_n 0, 1) := by decide +kernel
theorem dX8_mend_108 : decode cX8_mend 108 = .ok (.getfield 425, 3) := by decide +kernel
theorem dX8_mend_111 : decode cX8_mend 111 = .ok (.invokevirtual 199, 3) := by decide +kernel
theorem dX8_mend_114 : decode cX8_mend 114 = .ok (.aload_n 0, 1) := by decide +kernel
theorem dX8_mend_115 : decode cX8_mend 115 = .ok (.getfield 431, 3) := by decide +kernel
theorem dX8_mend_118 : decode cX8_mend 118 = .ok (.bipush 100, 2) := by decide +kernel
theorem dX8_mend_120 : decode cX8_mend 120 = .ok (.idiv, 1) := by decide +kernel
theorem dX8_mend_121 : decode cX8_mend 121 = .ok (.iastore, 1) := by decide +kernel
theorem dX8_mend_122 : decode cX8_mend 122 = .ok (.aload_n 0, 1) := by decide +kernel
theorem dX8_mend_123 : decode cX8_mend 123 = .ok (.getfield 9, 3) := by decide +kernel
theorem dX8_mend_126 : decode cX8_mend 126 = .ok (.aload_n 0, 1) := by decide +kernel
theorem dX8_mend_127 : decode cX8_mend 127 = .ok (.iload_n 1, 1) := by decide +kernel
theorem dX8_mend_128 : decode cX8_mend 128 = .ok (.aload_n 0, 1) := by decide +kernel
theorem dX8_mend_129 : decode cX8_mend 129 = .ok (.getfield 425, 3) := by decide +kernel
theorem dX8_mend_132 : decode cX8_mend 132 = .ok (.invokevirtual 199, 3) := by decide +kernel
theorem dX8_mend_135 : decode cX8_mend 135 = .ok (.iconst 1, 1) := by decide +kernel
theorem dX8_mend_136 : decode cX8_mend 136 = .ok (.iadd, 1) := by decide +kernel
theorem dX8_mend_137 : decode cX8_mend 137 = .ok (.aload_n 0, 1) := by decide +kernel
theorem dX8_mend_138 : decode cX8_mend 138 = .ok (.getfield 431, 3) := by decide +kernel
theorem dX8_mend_141 : decode cX8_mend 141 = .ok (.bipush 100, 2) := by decide +kernel
theorem dX8_mend_143 : decode cX8_mend 143 = .ok (.irem, 1) := by decide +kernel
theorem dX8_mend_144 : decode cX8_mend 144 = .ok (.iastore, 1) := by decide +kernel
theorem dX8_mend_145 : decode cX8_mend 145 = .ok (.aload_n 0, 1) := by decide +kernel
theorem dX8_mend_146 : decode cX8_mend 146 = .ok (.getfield 428, 3) := by decide +kernel
theorem dX8_mend_149 : decode cX8_mend 149 = .ok (.lstore 5, 2) := by decide +kernel
theorem dX8_mend_151 : decode cX8_mend 151 = .ok (.iinc 7 1, 3) := by decide +kernel
theorem dX8_mend_154 : decode cX8_mend 154 = .ok (.goto (-106), 3) := by decide +kernel
theorem dX8_mend_157 : decode cX8_mend 157 = .ok (.iload 7, 2) := by decide +kernel
theorem dX8_mend_159 : decode cX8_mend 159 = .ok (.ireturn, 1) := by decide +kernel
theorem dX8_isHoop_0 : decode cX8_isHoop 0 = .ok (.iload_n 0, 1) := by decide +kernel
theorem dX8_isHoop_1 : decode cX8_isHoop 1 = .ok (.i2l, 1) := by decide +kernel
theorem dX8_isHoop_2 : decode cX8_isHoop 2 = .ok (.lconst 1, 1) := by decide +kernel
theorem dX8_isHoop_3 : decode cX8_isHoop 3 = .ok (.ldc2_w 377, 3) := by decide +kernel
theorem dX8_isHoop_6 : decode cX8_isHoop 6 = .ok (.invokestatic 67, 3) := by decide +kernel
theorem dX8_isHoop_9 : decode cX8_isHoop 9 = .ok (.ifCond .eq 32, 3) := by decide +kernel
theorem dX8_isHoop_12 : decode cX8_isHoop 12 = .ok (.iload_n 1, 1) := by decide +kernel
theorem dX8_isHoop_13 : decode cX8_isHoop 13 = .ok (.i2l, 1) := by decide +kernel
theorem dX8_isHoop_14 : decode cX8_isHoop 14 = .ok (.lconst 0, 1) := by decide +kernel
theorem dX8_isHoop_15 : decode cX8_isHoop 15 = .ok (.ldc2_w 379, 3) := by decide +kernel
theorem dX8_isHoop_18 : decode cX8_isHoop 18 = .ok (.invokestatic 67, 3) := by decide +kernel
theorem dX8_isHoop_21 : decode cX8_isHoop 21 = .ok (.ifCond .eq 20, 3) := by decide +kernel
theorem dX8_isHoop_24 : decode cX8_isHoop 24 = .ok (.iload_n 2, 1) := by decide +kernel
theorem dX8_isHoop_25 : decode cX8_isHoop 25 = .ok (.i2l, 1) := by decide +kernel
theorem dX8_isHoop_26 : decode cX8_isHoop 26 = .ok (.iload_n 1, 1) := by decide +kernel
theorem dX8_isHoop_27 : decode cX8_isHoop 27 = .ok (.i2l, 1) := by decide +kernel
theorem dX8_isHoop_28 : decode cX8_isHoop 28 = .ok (.ldc2_w 379, 3) := by decide +kernel
theorem dX8_isHoop_31 : decode cX8_isHoop 31 = .ok (.invokestatic 67, 3) := by decide +kernel
theorem dX8_isHoop_34 : decode cX8_isHoop 34 = .ok (.ifCond .eq 7, 3) := by decide +kernel
theorem dX8_isHoop_37 : decode cX8_isHoop 37 = .ok (.iconst 1, 1) := by decide +kernel
theorem dX8_isHoop_38 : decode cX8_isHoop 38 = .ok (.goto 4, 3) := by decide +kernel
theorem dX8_isHoop_41 : decode cX8_isHoop 41 = .ok (.iconst 0, 1) := by decide +kernel
theorem dX8_isHoop_42 : decode cX8_isHoop 42 = .ok (.ireturn, 1) := by decide +kernel
theorem dX8_goesThrough_0 : decode cX8_goesThrough 0 = .ok (.aload_n 0, 1) := by decide +kernel
theorem dX8_goesThrough_1 : decode cX8_goesThrough 1 = .ok (.iload 4, 2) := by decide +kernel
theorem dX8_goesThrough_3 : decode cX8_goesThrough 3 = .ok (.putfield 340, 3) := by decide +kernel
theorem dX8_goesThrough_6 : decode cX8_goesThrough 6 = .ok (.aload_n 0, 1) := by decide +kernel
theorem dX8_goesThrough_7 : decode cX8_goesThrough 7 = .ok (.iload 5, 2) := by decide +kernel
theorem dX8_goesThrough_9 : decode cX8_goesThrough 9 = .ok (.putfield 343, 3) := by decide +kernel
theorem dX8_goesThrough_12 : decode cX8_goesThrough 12 = .ok (.aload_n 0, 1) := by decide +kernel
theorem dX8_goesThrough_13 : decode cX8_goesThrough 13 = .ok (.iload 6, 2) := by decide +kernel
theorem dX8_goesThrough_15 : decode cX8_goesThrough 15 = .ok (.putfield 346, 3) := by decide +kernel
theorem dX8_goesThrough_18 : decode cX8_goesThrough 18 = .ok (.aload_n 0, 1) := by decide +kernel
theorem dX8_goesThrough_19 : decode cX8_goesThrough 19 = .ok (.iload_n 1, 1) := by decide +kernel
theorem dX8_goesThrough_20 : decode cX8_goesThrough 20 = .ok (.iload_n 2, 1) := by decide +kernel
theorem dX8_goesThrough_21 : decode cX8_goesThrough 21 = .ok (.iload_n 3, 1) := by decide +kernel
theorem dX8_goesThrough_22 : decode cX8_goesThrough 22 = .ok (.sipush 200, 3) := by decide +kernel
theorem dX8_goesThrough_25 : decode cX8_goesThrough 25 = .ok (.invokevirtual 356, 3) := by decide +kernel
theorem dX8_goesThrough_28 : decode cX8_goesThrough 28 = .ok (.aload_n 0, 1) := by decide +kernel
theorem dX8_goesThrough_29 : decode cX8_goesThrough 29 = .ok (.iconst 0, 1) := by decide +kernel
theorem dX8_goesThrough_30 : decode cX8_goesThrough 30 = .ok (.putfield 340, 3) := by decide +kernel
theorem dX8_goesThrough_33 : decode cX8_goesThrough 33 = .ok (.aload_n 0, 1) := by decide +kernel
theorem dX8_goesThrough_34 : decode cX8_goesThrough 34 = .ok (.getfield 306, 3) := by decide +kernel
theorem dX8_goesThrough_37 : decode cX8_goesThrough 37 = .ok (.ireturn, 1) := by decide +kernel
theorem dX8_hoop_0 : decode cX8_hoop 0 = .ok (.aload_n 0, 1) := by decide +kernel
theorem dX8_hoop_1 : decode cX8_hoop 1 = .ok (.aload_n 0, 1) := by decide +kernel
theorem dX8_hoop_2 : decode cX8_hoop 2 = .ok (.iload_n 1, 1) := by decide +kernel
theorem dX8_hoop_3 : decode cX8_hoop 3 = .ok (.invokevirtual 255, 3) := by decide +kernel
theorem dX8_hoop_6 : decode cX8_hoop 6 = .ok (.putfield 64, 3) := by decide +kernel
theorem dX8_hoop_9 : decode cX8_hoop 9 = .ok (.aload_n 0, 1) := by decide +kernel
theorem dX8_hoop_10 : decode cX8_hoop 10 = .ok (.getfield 64, 3) := by decide +kernel
theorem dX8_hoop_13 : decode cX8_hoop 13 = .ok (.ifCond .ne 42, 3) := by decide +kernel
theorem dX8_hoop_16 : decode cX8_hoop 16 = .ok (.iload_n 2, 1) := by decide +kernel
theorem dX8_hoop_17 : decode cX8_hoop 17 = .ok (.invokestatic 360, 3) := by decide +kernel
theorem dX8_hoop_20 : decode cX8_hoop 20 = .ok (.ifCond .eq 30, 3) := by decide +kernel
theorem dX8_hoop_23 : decode cX8_hoop 23 = .ok (.iload_n 3, 1) := by decide +kernel
theorem dX8_hoop_24 : decode cX8_hoop 24 = .ok (.invokestatic 363, 3) := by decide +kernel
theorem dX8_hoop_27 : decode cX8_hoop 27 = .ok (.ifCond .eq 23, 3) := by decide +kernel
theorem dX8_hoop_30 : decode cX8_hoop 30 = .ok (.iload 4, 2) := by decide +kernel
theorem dX8_hoop_32 : decode cX8_hoop 32 = .ok (.invokestatic 366, 3) := by decide +kernel
theorem dX8_hoop_35 : decode cX8_hoop 35 = .ok (.ifCond .eq 15, 3) := by decide +kernel
theorem dX8_hoop_38 : decode cX8_hoop 38 = .ok (.iload 5, 2) := by decide +kernel
theorem dX8_hoop_40 : decode cX8_hoop 40 = .ok (.iload 6, 2) := by decide +kernel
theorem dX8_hoop_42 : decode cX8_hoop 42 = .ok (.iload 7, 2) := by decide +kernel
theorem dX8_hoop_44 : decode cX8_hoop 44 = .ok (.invokestatic 440, 3) := by decide +kernel
theorem dX8_hoop_47 : decode cX8_hoop 47 = .ok (.ifCond .ne 8, 3) := by decide +kernel
theorem dX8_hoop_50 : decode cX8_hoop 50 = .ok (.aload_n 0, 1) := by decide +kernel
theorem dX8_hoop_51 : decode cX8_hoop 51 = .ok (.iconst 3, 1) := by decide +kernel
theorem dX8_hoop_52 : decode cX8_hoop 52 = .ok (.putfield 64, 3) := by decide +kernel
theorem dX8_hoop_55 : decode cX8_hoop 55 = .ok (.aload_n 0, 1) := by decide +kernel
theorem dX8_hoop_56 : decode cX8_hoop 56 = .ok (.getfield 64, 3) := by decide +kernel
theorem dX8_hoop_59 : decode cX8_hoop 59 = .ok (.ifCond .ne 24, 3) := by decide +kernel
theorem dX8_hoop_62 : decode cX8_hoop 62 = .ok (.aload_n 0, 1) := by decide +kernel
theorem dX8_hoop_63 : decode cX8_hoop 63 = .ok (.iload_n 2, 1) := by decide +kernel
theorem dX8_hoop_64 : decode cX8_hoop 64 = .ok (.iload_n 3, 1) := by decide +kernel
theorem dX8_hoop_65 : decode cX8_hoop 65 = .ok (.iload 4, 2) := by decide +kernel
theorem dX8_hoop_67 : decode cX8_hoop 67 = .ok (.iload 5, 2) := by decide +kernel
theorem dX8_hoop_69 : decode cX8_hoop 69 = .ok (.iload 6, 2) := by decide +kernel
theorem dX8_hoop_71 : decode cX8_hoop 71 = .ok (.iload 7, 2) := by decide +kernel
theorem dX8_hoop_73 : decode cX8_hoop 73 = .ok (.invokevirtual 444, 3) := by decide +kernel
theorem dX8_hoop_76 : decode cX8_hoop 76 = .ok (.ifCond .eq 7, 3) := by decide +kernel
theorem dX8_hoop_79 : decode cX8_hoop 79 = .ok (.iconst 1, 1) := by decide +kernel
theorem dX8_hoop_80 : decode cX8_hoop 80 = .ok (.goto 4, 3) := by decide +kernel
theorem dX8_hoop_83 : decode cX8_hoop 83 = .ok (.iconst 0, 1) := by decide +kernel
theorem dX8_hoop_84 : decode cX8_hoop 84 = .ok (.ireturn, 1) := by decide +kernel
theorem dX8_odds_0 : decode cX8_odds 0 = .ok (.aload_n 0, 1) := by decide +kernel
theorem dX8_odds_1 : decode cX8_odds 1 = .ok (.aload_n 0, 1) := by decide +kernel
theorem dX8_odds_2 : decode cX8_odds 2 = .ok (.iload_n 1, 1) := by decide +kernel
theorem dX8_odds_3 : decode cX8_odds 3 = .ok (.iload_n 3, 1) := by decide +kernel
theorem dX8_odds_4 : decode cX8_odds 4 = .ok (.invokevirtual 410, 3) := by decide +kernel
theorem dX8_odds_7 : decode cX8_odds 7 = .ok (.putfield 64, 3) := by decide +kernel
theorem dX8_odds_10 : decode cX8_odds 10 = .ok (.aload_n 0, 1) := by decide +kernel
theorem dX8_odds_11 : decode cX8_odds 11 = .ok (.getfield 64, 3) := by decide +kernel
theorem dX8_odds_14 : decode cX8_odds 14 = .ok (.ifCond .le 5, 3) := by decide +kernel
theorem dX8_odds_17 : decode cX8_odds 17 = .ok (.lconst 0, 1) := by decide +kernel
theorem dX8_odds_18 : decode cX8_odds 18 = .ok (.lreturn, 1) := by decide +kernel
theorem dX8_odds_19 : decode cX8_odds 19 = .ok (.iload_n 2, 1) := by decide +kernel
theorem dX8_odds_20 : decode cX8_odds 20 = .ok (.invokestatic 360, 3) := by decide +kernel
theorem dX8_odds_23 : decode cX8_odds 23 = .ok (.ifCond .eq 28, 3) := by decide +kernel
theorem dX8_odds_26 : decode cX8_odds 26 = .ok (.iload 4, 2) := by decide +kernel
theorem dX8_odds_28 : decode cX8_odds 28 = .ok (.i2l, 1) := by decide +kernel
theorem dX8_odds_29 : decode cX8_odds 29 = .ok (.lconst 1, 1) := by decide +kernel
theorem dX8_odds_30 : decode cX8_odds 30 = .ok (.ldc2_w 83, 3) := by decide +kernel
theorem dX8_odds_33 : decode cX8_odds 33 = .ok (.invokestatic 67, 3) := by decide +kernel
theorem dX8_odds_36 : decode cX8_odds 36 = .ok (.ifCond .eq 15, 3) := by decide +kernel
theorem dX8_odds_39 : decode cX8_odds 39 = .ok (.iload 5, 2) := by decide +kernel
theorem dX8_odds_41 : decode cX8_odds 41 = .ok (.iload 6, 2) := by decide +kernel
theorem dX8_odds_43 : decode cX8_odds 43 = .ok (.iload 7, 2) := by decide +kernel
theorem dX8_odds_45 : decode cX8_odds 45 = .ok (.invokestatic 440, 3) := by decide +kernel
theorem dX8_odds_48 : decode cX8_odds 48 = .ok (.ifCond .ne 10, 3) := by decide +kernel
theorem dX8_odds_51 : decode cX8_odds 51 = .ok (.aload_n 0, 1) := by decide +kernel
theorem dX8_odds_52 : decode cX8_odds 52 = .ok (.iconst 3, 1) := by decide +kernel
theorem dX8_odds_53 : decode cX8_odds 53 = .ok (.invokevirtual 146, 3) := by decide +kernel
theorem dX8_odds_56 : decode cX8_odds 56 = .ok (.i2l, 1) := by decide +kernel
theorem dX8_odds_57 : decode cX8_odds 57 = .ok (.lreturn, 1) := by decide +kernel
theorem dX8_odds_58 : decode cX8_odds 58 = .ok (.lconst 0, 1) := by decide +kernel
theorem dX8_odds_59 : decode cX8_odds 59 = .ok (.lstore 8, 2) := by decide +kernel
theorem dX8_odds_61 : decode cX8_odds 61 = .ok (.lconst 0, 1) := by decide +kernel
theorem dX8_odds_62 : decode cX8_odds 62 = .ok (.lstore 10, 2) := by decide +kernel
theorem dX8_odds_64 : decode cX8_odds 64 = .ok (.iconst 0, 1) := by decide +kernel
theorem dX8_odds_65 : decode cX8_odds 65 = .ok (.istore 12, 2) := by decide +kernel
theorem dX8_odds_67 : decode cX8_odds 67 = .ok (.iload 12, 2) := by decide +kernel
theorem dX8_odds_69 : decode cX8_odds 69 = .ok (.aload_n 0, 1) := by decide +kernel
theorem dX8_odds_70 : decode cX8_odds 70 = .ok (.iload_n 3, 1) := by decide +kernel
theorem dX8_odds_71 : decode cX8_odds 71 = .ok (.invokevirtual 403, 3) := by decide +kernel
theorem dX8_odds_74 : decode cX8_odds 74 = .ok (.if_icmp .ge 82, 3) := by decide +kernel
theorem dX8_odds_77 : decode cX8_odds 77 = .ok (.aload_n 0, 1) := by decide +kernel
theorem dX8_odds_78 : decode cX8_odds 78 = .ok (.iload_n 3, 1) := by decide +kernel
theorem dX8_odds_79 : decode cX8_odds 79 = .ok (.iload 12, 2) := by decide +kernel
theorem dX8_odds_81 : decode cX8_odds 81 = .ok (.invokevirtual 394, 3) := by decide +kernel
theorem dX8_odds_84 : decode cX8_odds 84 = .ok (.istore 13, 2) := by decide +kernel
theorem dX8_odds_86 : decode cX8_odds 86 = .ok (.lload 8, 2) := by decide +kernel
theorem dX8_odds_88 : decode cX8_odds 88 = .ok (.aload_n 0, 1) := by decide +kernel
theorem dX8_odds_89 : decode cX8_odds 89 = .ok (.getfield 9, 3) := by decide +kernel
theorem dX8_odds_92 : decode cX8_odds 92 = .ok (.iload 13, 2) := by decide +kernel
theorem dX8_odds_94 : decode cX8_odds 94 = .ok (.iconst 2, 1) := by decide +kernel
theorem dX8_odds_95 : decode cX8_odds 95 = .ok (.iadd, 1) := by decide +kernel
theorem dX8_odds_96 : decode cX8_odds 96 = .ok (.iaload, 1) := by decide +kernel
theorem dX8_odds_97 : decode cX8_odds 97 = .ok (.i2l, 1) := by decide +kernel
theorem dX8_odds_98 : decode cX8_odds 98 = .ok (.ladd, 1) := by decide +kernel
theorem dX8_odds_99 : decode cX8_odds 99 = .ok (.lstore 8, 2) := by decide +kernel
theorem dX8_odds_101 : decode cX8_odds 101 = .ok (.lload 10, 2) := by decide +kernel
theorem dX8_odds_103 : decode cX8_odds 103 = .ok (.aload_n 0, 1) := by decide +kernel
theorem dX8_odds_104 : decode cX8_odds 104 = .ok (.iload_n 2, 1) := by decide +kernel
theorem dX8_odds_105 : decode cX8_odds 105 = .ok (.aload_n 0, 1) := by decide +kernel
theorem dX8_odds_106 : decode cX8_odds 106 = .ok (.getfield 9, 3) := by decide +kernel
theorem dX8_odds_109 : decode cX8_odds 109 = .ok (.iload 13, 2) := by decide +kernel
theorem dX8_odds_111 : decode cX8_odds 111 = .ok (.iaload, 1) := by decide +kernel
theorem dX8_odds_112 : decode cX8_odds 112 = .ok (.aload_n 0, 1) := by decide +kernel
theorem dX8_odds_113 : decode cX8_odds 113 = .ok (.getfield 9, 3) := by decide +kernel
theorem dX8_odds_116 : decode cX8_odds 116 = .ok (.iload 13, 2) := by decide +kernel
theorem dX8_odds_118 : decode cX8_odds 118 = .ok (.iconst 1, 1) := by decide +kernel
theorem dX8_odds_119 : decode cX8_odds 119 = .ok (.iadd, 1) := by decide +kernel
theorem dX8_odds_120 : decode cX8_odds 120 = .ok (.iaload, 1) := by decide +kernel
theorem dX8_odds_121 : decode cX8_odds 121 = .ok (.iload 5, 2) := by decide +kernel
theorem dX8_odds_123 : decode cX8_odds 123 = .ok (.iload 6, 2) := by decide +kernel
theorem dX8_odds_125 : decode cX8_odds 125 = .ok (.iload 7, 2) := by decide +kernel
theorem dX8_odds_127 : decode cX8_odds 127 = .ok (.invokevirtual 444, 3) := by decide +kernel
theorem dX8_odds_130 : decode cX8_odds 130 = .ok (.ifCond .eq 7, 3) := by decide +kernel
theorem dX8_odds_133 : decode cX8_odds 133 = .ok (.lconst 0, 1) := by decide +kernel
theorem dX8_odds_134 : decode cX8_odds 134 = .ok (.goto 13, 3) := by decide +kernel
theorem dX8_odds_137 : decode cX8_odds 137 = .ok (.aload_n 0, 1) := by decide +kernel
theorem dX8_odds_138 : decode cX8_odds 138 = .ok (.getfield 9, 3) := by decide +kernel
theorem dX8_odds_141 : decode cX8_odds 141 = .ok (.iload 13, 2) := by decide +kernel
theorem dX8_odds_143 : decode cX8_odds 143 = .ok (.iconst 2, 1) := by decide +kernel
theorem dX8_odds_144 : decode cX8_odds 144 = .ok (.iadd, 1) := by decide +kernel
theorem dX8_odds_145 : decode cX8_odds 145 = .ok (.iaload, 1) := by decide +kernel
theorem dX8_odds_146 : decode cX8_odds 146 = .ok (.i2l, 1) := by decide +kernel
theorem dX8_odds_147 : decode cX8_odds 147 = .ok (.ladd, 1) := by decide +kernel
theorem dX8_odds_148 : decode cX8_odds 148 = .ok (.lstore 10, 2) := by decide +kernel
theorem dX8_odds_150 : decode cX8_odds 150 = .ok (.iinc 12 1, 3) := by decide +kernel
theorem dX8_odds_153 : decode cX8_odds 153 = .ok (.goto (-86), 3) := by decide +kernel
theorem dX8_odds_156 : decode cX8_odds 156 = .ok (.lconst 1, 1) := by decide +kernel
theorem dX8_odds_157 : decode cX8_odds 157 = .ok (.lstore 12, 2) := by decide +kernel
theorem dX8_odds_159 : decode cX8_odds 159 = .ok (.lconst 1, 1) := by decide +kernel
theorem dX8_odds_160 : decode cX8_odds 160 = .ok (.lstore 14, 2) := by decide +kernel
theorem dX8_odds_162 : decode cX8_odds 162 = .ok (.iconst 0, 1) := by decide +kernel
theorem dX8_odds_163 : decode cX8_odds 163 = .ok (.istore 16, 2) := by decide +kernel
theorem dX8_odds_165 : decode cX8_odds 165 = .ok (.iload 16, 2) := by decide +kernel
theorem dX8_odds_167 : decode cX8_odds 167 = .ok (.iload 4, 2) := by decide +kernel
theorem dX8_odds_169 : decode cX8_odds 169 = .ok (.if_icmp .ge 23, 3) := by decide +kernel
theorem dX8_odds_172 : decode cX8_odds 172 = .ok (.lload 12, 2) := by decide +kernel
theorem dX8_odds_174 : decode cX8_odds 174 = .ok (.lload 8, 2) := by decide +kernel
theorem dX8_odds_176 : decode cX8_odds 176 = .ok (.lmul, 1) := by decide +kernel
theorem dX8_odds_177 : decode cX8_odds 177 = .ok (.lstore 12, 2) := by decide +kernel
theorem dX8_odds_179 : decode cX8_odds 179 = .ok (.lload 14, 2) := by decide +kernel
theorem dX8_odds_181 : decode cX8_odds 181 = .ok (.lload 10, 2) := by decide +kernel
theorem dX8_odds_183 : decode cX8_odds 183 = .ok (.lmul, 1) := by decide +kernel
theorem dX8_odds_184 : decode cX8_odds 184 = .ok (.lstore 14, 2) := by decide +kernel
theorem dX8_odds_186 : decode cX8_odds 186 = .ok (.iinc 16 1, 3) := by decide +kernel
theorem dX8_odds_189 : decode cX8_odds 189 = .ok (.goto (-24), 3) := by decide +kernel
theorem dX8_odds_192 : decode cX8_odds 192 = .ok (.lload 12, 2) := by decide +kernel
theorem dX8_odds_194 : decode cX8_odds 194 = .ok (.lload 14, 2) := by decide +kernel
theorem dX8_odds_196 : decode cX8_odds 196 = .ok (.lsub, 1) := by decide +kernel
theorem dX8_odds_197 : decode cX8_odds 197 = .ok (.lreturn, 1) := by decide +kernel
theorem dX8_enter_0 : decode cX8_enter 0 = .ok (.aload_n 0, 1) := by decide +kernel
theorem dX8_enter_1 : decode cX8_enter 1 = .ok (.iconst 0, 1) := by decide +kernel
theorem dX8_enter_2 : decode cX8_enter 2 = .ok (.putfield 64, 3) := by decide +kernel
theorem dX8_enter_5 : decode cX8_enter 5 = .ok (.aload_n 0, 1) := by decide +kernel
theorem dX8_enter_6 : decode cX8_enter 6 = .ok (.iload_n 1, 1) := by decide +kernel
theorem dX8_enter_7 : decode cX8_enter 7 = .ok (.invokevirtual 193, 3) := by decide +kernel
theorem dX8_enter_10 : decode cX8_enter 10 = .ok (.ifCond .eq 11, 3) := by decide +kernel
theorem dX8_enter_13 : decode cX8_enter 13 = .ok (.aload_n 0, 1) := by decide +kernel
theorem dX8_enter_14 : decode cX8_enter 14 = .ok (.iload_n 3, 1) := by decide +kernel
theorem dX8_enter_15 : decode cX8_enter 15 = .ok (.invokevirtual 397, 3) := by decide +kernel
theorem dX8_enter_18 : decode cX8_enter 18 = .ok (.ifCond .ne 9, 3) := by decide +kernel
theorem dX8_enter_21 : decode cX8_enter 21 = .ok (.aload_n 0, 1) := by decide +kernel
theorem dX8_enter_22 : decode cX8_enter 22 = .ok (.iconst 1, 1) := by decide +kernel
theorem dX8_enter_23 : decode cX8_enter 23 = .ok (.invokevirtual 146, 3) := by decide +kernel
theorem dX8_enter_26 : decode cX8_enter 26 = .ok (.ireturn, 1) := by decide +kernel
theorem dX8_enter_27 : decode cX8_enter 27 = .ok (.iload_n 2, 1) := by decide +kernel
theorem dX8_enter_28 : decode cX8_enter 28 = .ok (.invokestatic 360, 3) := by decide +kernel
theorem dX8_enter_31 : decode cX8_enter 31 = .ok (.ifCond .ne 9, 3) := by decide +kernel
theorem dX8_enter_34 : decode cX8_enter 34 = .ok (.aload_n 0, 1) := by decide +kernel
theorem dX8_enter_35 : decode cX8_enter 35 = .ok (.iconst 2, 1) := by decide +kernel
theorem dX8_enter_36 : decode cX8_enter 36 = .ok (.invokevirtual 146, 3) := by decide +kernel
theorem dX8_enter_39 : decode cX8_enter 39 = .ok (.ireturn, 1) := by decide +kernel
theorem dX8_enter_40 : decode cX8_enter 40 = .ok (.aload_n 0, 1) := by decide +kernel
theorem dX8_enter_41 : decode cX8_enter 41 = .ok (.getfield 9, 3) := by decide +kernel
theorem dX8_enter_44 : decode cX8_enter 44 = .ok (.bipush 6, 2) := by decide +kernel
theorem dX8_enter_46 : decode cX8_enter 46 = .ok (.iaload, 1) := by decide +kernel
theorem dX8_enter_47 : decode cX8_enter 47 = .ok (.iconst 4, 1) := by decide +kernel
theorem dX8_enter_48 : decode cX8_enter 48 = .ok (.if_icmp .ne 5, 3) := by decide +kernel
theorem dX8_enter_51 : decode cX8_enter 51 = .ok (.iconst (-1), 1) := by decide +kernel
theorem dX8_enter_52 : decode cX8_enter 52 = .ok (.ireturn, 1) := by decide +kernel
theorem dX8_enter_53 : decode cX8_enter 53 = .ok (.sipush 252, 3) := by decide +kernel
theorem dX8_enter_56 : decode cX8_enter 56 = .ok (.iconst 3, 1) := by decide +kernel
theorem dX8_enter_57 : decode cX8_enter 57 = .ok (.aload_n 0, 1) := by decide +kernel
theorem dX8_enter_58 : decode cX8_enter 58 = .ok (.getfield 9, 3) := by decide +kernel
theorem dX8_enter_61 : decode cX8_enter 61 = .ok (.bipush 6, 2) := by decide +kernel
theorem dX8_enter_63 : decode cX8_enter 63 = .ok (.iaload, 1) := by decide +kernel
theorem dX8_enter_64 : decode cX8_enter 64 = .ok (.imul, 1) := by decide +kernel
theorem dX8_enter_65 : decode cX8_enter 65 = .ok (.iadd, 1) := by decide +kernel
theorem dX8_enter_66 : decode cX8_enter 66 = .ok (.istore 4, 2) := by decide +kernel
theorem dX8_enter_68 : decode cX8_enter 68 = .ok (.aload_n 0, 1) := by decide +kernel
theorem dX8_enter_69 : decode cX8_enter 69 = .ok (.getfield 9, 3) := by decide +kernel
theorem dX8_enter_72 : decode cX8_enter 72 = .ok (.iload 4, 2) := by decide +kernel
theorem dX8_enter_74 : decode cX8_enter 74 = .ok (.iload_n 1, 1) := by decide +kernel
theorem dX8_enter_75 : decode cX8_enter 75 = .ok (.iastore, 1) := by decide +kernel
theorem dX8_enter_76 : decode cX8_enter 76 = .ok (.aload_n 0, 1) := by decide +kernel
theorem dX8_enter_77 : decode cX8_enter 77 = .ok (.getfield 9, 3) := by decide +kernel
theorem dX8_enter_80 : decode cX8_enter 80 = .ok (.iload 4, 2) := by decide +kernel
theorem dX8_enter_82 : decode cX8_enter 82 = .ok (.iconst 1, 1) := by decide +kernel
theorem dX8_enter_83 : decode cX8_enter 83 = .ok (.iadd, 1) := by decide +kernel
theorem dX8_enter_84 : decode cX8_enter 84 = .ok (.iload_n 2, 1) := by decide +kernel
theorem dX8_enter_85 : decode cX8_enter 85 = .ok (.iastore, 1) := by decide +kernel
theorem dX8_enter_86 : decode cX8_enter 86 = .ok (.aload_n 0, 1) := by decide +kernel
theorem dX8_enter_87 : decode cX8_enter 87 = .ok (.getfield 9, 3) := by decide +kernel
theorem dX8_enter_90 : decode cX8_enter 90 = .ok (.iload 4, 2) := by decide +kernel
theorem dX8_enter_92 : decode cX8_enter 92 = .ok (.iconst 2, 1) := by decide +kernel
theorem dX8_enter_93 : decode cX8_enter 93 = .ok (.iadd, 1) := by decide +kernel
theorem dX8_enter_94 : decode cX8_enter 94 = .ok (.iload_n 3, 1) := by decide +kernel
theorem dX8_enter_95 : decode cX8_enter 95 = .ok (.iastore, 1) := by decide +kernel
theorem dX8_enter_96 : decode cX8_enter 96 = .ok (.aload_n 0, 1) := by decide +kernel
theorem dX8_enter_97 : decode cX8_enter 97 = .ok (.getfield 9, 3) := by decide +kernel
theorem dX8_enter_100 : decode cX8_enter 100 = .ok (.bipush 6, 2) := by decide +kernel
theorem dX8_enter_102 : decode cX8_enter 102 = .ok (.dup2, 1) := by decide +kernel
theorem dX8_enter_103 : decode cX8_enter 103 = .ok (.iaload, 1) := by decide +kernel
theorem dX8_enter_104 : decode cX8_enter 104 = .ok (.iconst 1, 1) := by decide +kernel
theorem dX8_enter_105 : decode cX8_enter 105 = .ok (.iadd, 1) := by decide +kernel
theorem dX8_enter_106 : decode cX8_enter 106 = .ok (.iastore, 1) := by decide +kernel
theorem dX8_enter_107 : decode cX8_enter 107 = .ok (.aload_n 0, 1) := by decide +kernel
theorem dX8_enter_108 : decode cX8_enter 108 = .ok (.getfield 9, 3) := by decide +kernel
theorem dX8_enter_111 : decode cX8_enter 111 = .ok (.bipush 6, 2) := by decide +kernel
theorem dX8_enter_113 : decode cX8_enter 113 = .ok (.iaload, 1) := by decide +kernel
theorem dX8_enter_114 : decode cX8_enter 114 = .ok (.iconst 1, 1) := by decide +kernel
theorem dX8_enter_115 : decode cX8_enter 115 = .ok (.isub, 1) := by decide +kernel
theorem dX8_enter_116 : decode cX8_enter 116 = .ok (.ireturn, 1) := by decide +kernel
theorem dX8_wins_0 : decode cX8_wins 0 = .ok (.aload_n 0, 1) := by decide +kernel
theorem dX8_wins_1 : decode cX8_wins 1 = .ok (.iconst 0, 1) := by decide +kernel
theorem dX8_wins_2 : decode cX8_wins 2 = .ok (.putfield 64, 3) := by decide +kernel
theorem dX8_wins_5 : decode cX8_wins 5 = .ok (.iload_n 1, 1) := by decide +kernel
theorem dX8_wins_6 : decode cX8_wins 6 = .ok (.i2l, 1) := by decide +kernel
theorem dX8_wins_7 : decode cX8_wins 7 = .ok (.lconst 0, 1) := by decide +kernel
theorem dX8_wins_8 : decode cX8_wins 8 = .ok (.aload_n 0, 1) := by decide +kernel
theorem dX8_wins_9 : decode cX8_wins 9 = .ok (.getfield 9, 3) := by decide +kernel
theorem dX8_wins_12 : decode cX8_wins 12 = .ok (.bipush 6, 2) := by decide +kernel
theorem dX8_wins_14 : decode cX8_wins 14 = .ok (.iaload, 1) := by decide +kernel
theorem dX8_wins_15 : decode cX8_wins 15 = .ok (.iconst 1, 1) := by decide +kernel
theorem dX8_wins_16 : decode cX8_wins 16 = .ok (.isub, 1) := by decide +kernel
theorem dX8_wins_17 : decode cX8_wins 17 = .ok (.i2l, 1) := by decide +kernel
theorem dX8_wins_18 : decode cX8_wins 18 = .ok (.invokestatic 67, 3) := by decide +kernel
theorem dX8_wins_21 : decode cX8_wins 21 = .ok (.ifCond .ne 10, 3) := by decide +kernel
theorem dX8_wins_24 : decode cX8_wins 24 = .ok (.aload_n 0, 1) := by decide +kernel
theorem dX8_wins_25 : decode cX8_wins 25 = .ok (.iconst 1, 1) := by decide +kernel
theorem dX8_wins_26 : decode cX8_wins 26 = .ok (.invokevirtual 146, 3) := by decide +kernel
theorem dX8_wins_29 : decode cX8_wins 29 = .ok (.i2l, 1) := by decide +kernel
theorem dX8_wins_30 : decode cX8_wins 30 = .ok (.lreturn, 1) := by decide +kernel
theorem dX8_wins_31 : decode cX8_wins 31 = .ok (.iconst 0, 1) := by decide +kernel
theorem dX8_wins_32 : decode cX8_wins 32 = .ok (.istore_n 2, 1) := by decide +kernel
theorem dX8_wins_33 : decode cX8_wins 33 = .ok (.iload_n 2, 1) := by decide +kernel
theorem dX8_wins_34 : decode cX8_wins 34 = .ok (.aload_n 0, 1) := by decide +kernel
theorem dX8_wins_35 : decode cX8_wins 35 = .ok (.getfield 9, 3) := by decide +kernel
theorem dX8_wins_38 : decode cX8_wins 38 = .ok (.bipush 6, 2) := by decide +kernel
theorem dX8_wins_40 : decode cX8_wins 40 = .ok (.iaload, 1) := by decide +kernel
theorem dX8_wins_41 : decode cX8_wins 41 = .ok (.if_icmp .ge 138, 3) := by decide +kernel
theorem dX8_wins_44 : decode cX8_wins 44 = .ok (.sipush 252, 3) := by decide +kernel
theorem dX8_wins_47 : decode cX8_wins 47 = .ok (.iconst 3, 1) := by decide +kernel
theorem dX8_wins_48 : decode cX8_wins 48 = .ok (.iload_n 2, 1) := by decide +kernel
theorem dX8_wins_49 : decode cX8_wins 49 = .ok (.imul, 1) := by decide +kernel
theorem dX8_wins_50 : decode cX8_wins 50 = .ok (.iadd, 1) := by decide +kernel
theorem dX8_wins_51 : decode cX8_wins 51 = .ok (.istore_n 3, 1) := by decide +kernel
theorem dX8_wins_52 : decode cX8_wins 52 = .ok (.aload_n 0, 1) := by decide +kernel
theorem dX8_wins_53 : decode cX8_wins 53 = .ok (.aload_n 0, 1) := by decide +kernel
theorem dX8_wins_54 : decode cX8_wins 54 = .ok (.getfield 9, 3) := by decide +kernel
theorem dX8_wins_57 : decode cX8_wins 57 = .ok (.iload_n 3, 1) := by decide +kernel
theorem dX8_wins_58 : decode cX8_wins 58 = .ok (.iaload, 1) := by decide +kernel
theorem dX8_wins_59 : decode cX8_wins 59 = .ok (.invokevirtual 252, 3) := by decide +kernel
theorem dX8_wins_62 : decode cX8_wins 62 = .ok (.iconst (-1), 1) := by decide +kernel
theorem dX8_wins_63 : decode cX8_wins 63 = .ok (.if_icmp .ne 18, 3) := by decide +kernel
theorem dX8_wins_66 : decode cX8_wins 66 = .ok (.aload_n 0, 1) := by decide +kernel
theorem dX8_wins_67 : decode cX8_wins 67 = .ok (.aload_n 0, 1) := by decide +kernel
theorem dX8_wins_68 : decode cX8_wins 68 = .ok (.getfield 9, 3) := by decide +kernel
theorem dX8_wins_71 : decode cX8_wins 71 = .ok (.iload_n 3, 1) := by decide +kernel
theorem dX8_wins_72 : decode cX8_wins 72 = .ok (.iconst 2, 1) := by decide +kernel
theorem dX8_wins_73 : decode cX8_wins 73 = .ok (.iadd, 1) := by decide +kernel
theorem dX8_wins_74 : decode cX8_wins 74 = .ok (.iaload, 1) := by decide +kernel
theorem dX8_wins_75 : decode cX8_wins 75 = .ok (.invokevirtual 403, 3) := by decide +kernel
theorem dX8_wins_78 : decode cX8_wins 78 = .ok (.ifCond .ne 5, 3) := by decide +kernel
theorem dX8_wins_81 : decode cX8_wins 81 = .ok (.lconst 0, 1) := by decide +kernel
theorem dX8_wins_82 : decode cX8_wins 82 = .ok (.lreturn, 1) := by decide +kernel
theorem dX8_wins_83 : decode cX8_wins 83 = .ok (.iconst 0, 1) := by decide +kernel
theorem dX8_wins_84 : decode cX8_wins 84 = .ok (.istore 4, 2) := by decide +kernel
theorem dX8_wins_86 : decode cX8_wins 86 = .ok (.iload 4, 2) := by decide +kernel
theorem dX8_wins_88 : decode cX8_wins 88 = .ok (.aload_n 0, 1) := by decide +kernel
theorem dX8_wins_89 : decode cX8_wins 89 = .ok (.aload_n 0, 1) := by decide +kernel
theorem dX8_wins_90 : decode cX8_wins 90 = .ok (.getfield 9, 3) := by decide +kernel
theorem dX8_wins_93 : decode cX8_wins 93 = .ok (.iload_n 3, 1) := by decide +kernel
theorem dX8_wins_94 : decode cX8_wins 94 = .ok (.iconst 2, 1) := by decide +kernel
theorem dX8_wins_95 : decode cX8_wins 95 = .ok (.iadd, 1) := by decide +kernel
theorem dX8_wins_96 : decode cX8_wins 96 = .ok (.iaload, 1) := by decide +kernel
theorem dX8_wins_97 : decode cX8_wins 97 = .ok (.invokevirtual 403, 3) := by decide +kernel
theorem dX8_wins_100 : decode cX8_wins 100 = .ok (.if_icmp .ge 73, 3) := by decide +kernel
theorem dX8_wins_103 : decode cX8_wins 103 = .ok (.aload_n 0, 1) := by decide +kernel
theorem dX8_wins_104 : decode cX8_wins 104 = .ok (.getfield 48, 3) := by decide +kernel
