theorem dX2_init_0 : decode cX2_init 0 = .ok (.aload_n 0, 1) := by decide +kernel
theorem dX2_init_1 : decode cX2_init 1 = .ok (.invokespecial 3, 3) := by decide +kernel
theorem dX2_init_4 : decode cX2_init 4 = .ok (.aload_n 0, 1) := by decide +kernel
theorem dX2_init_5 : decode cX2_init 5 = .ok (.sipush 288, 3) := by decide +kernel
theorem dX2_init_8 : decode cX2_init 8 = .ok (.newarray .int, 2) := by decide +kernel
theorem dX2_init_10 : decode cX2_init 10 = .ok (.putfield 9, 3) := by decide +kernel
theorem dX2_init_13 : decode cX2_init 13 = .ok (.return_, 1) := by decide +kernel
theorem dX2_foldAll_0 : decode cX2_foldAll 0 = .ok (.aload_n 0, 1) := by decide +kernel
theorem dX2_foldAll_1 : decode cX2_foldAll 1 = .ok (.iload_n 2, 1) := by decide +kernel
theorem dX2_foldAll_2 : decode cX2_foldAll 2 = .ok (.iload_n 3, 1) := by decide +kernel
theorem dX2_foldAll_3 : decode cX2_foldAll 3 = .ok (.invokevirtual 15, 3) := by decide +kernel
theorem dX2_foldAll_6 : decode cX2_foldAll 6 = .ok (.iconst 0, 1) := by decide +kernel
theorem dX2_foldAll_7 : decode cX2_foldAll 7 = .ok (.istore 4, 2) := by decide +kernel
theorem dX2_foldAll_9 : decode cX2_foldAll 9 = .ok (.iload 4, 2) := by decide +kernel
theorem dX2_foldAll_11 : decode cX2_foldAll 11 = .ok (.aload_n 1, 1) := by decide +kernel
theorem dX2_foldAll_12 : decode cX2_foldAll 12 = .ok (.getfield 19, 3) := by decide +kernel
theorem dX2_foldAll_15 : decode cX2_foldAll 15 = .ok (.if_icmp .ge 33, 3) := by decide +kernel
theorem dX2_foldAll_18 : decode cX2_foldAll 18 = .ok (.aload_n 0, 1) := by decide +kernel
theorem dX2_foldAll_19 : decode cX2_foldAll 19 = .ok (.aload_n 1, 1) := by decide +kernel
theorem dX2_foldAll_20 : decode cX2_foldAll 20 = .ok (.iload 4, 2) := by decide +kernel
theorem dX2_foldAll_22 : decode cX2_foldAll 22 = .ok (.iconst 0, 1) := by decide +kernel
theorem dX2_foldAll_23 : decode cX2_foldAll 23 = .ok (.invokevirtual 25, 3) := by decide +kernel
theorem dX2_foldAll_26 : decode cX2_foldAll 26 = .ok (.aload_n 1, 1) := by decide +kernel
theorem dX2_foldAll_27 : decode cX2_foldAll 27 = .ok (.iload 4, 2) := by decide +kernel
theorem dX2_foldAll_29 : decode cX2_foldAll 29 = .ok (.iconst 1, 1) := by decide +kernel
theorem dX2_foldAll_30 : decode cX2_foldAll 30 = .ok (.invokevirtual 25, 3) := by decide +kernel
theorem dX2_foldAll_33 : decode cX2_foldAll 33 = .ok (.invokevirtual 29, 3) := by decide +kernel
theorem dX2_foldAll_36 : decode cX2_foldAll 36 = .ok (.ifCond .ne 6, 3) := by decide +kernel
theorem dX2_foldAll_39 : decode cX2_foldAll 39 = .ok (.iload 4, 2) := by decide +kernel
theorem dX2_foldAll_41 : decode cX2_foldAll 41 = .ok (.ireturn, 1) := by decide +kernel
theorem dX2_foldAll_42 : decode cX2_foldAll 42 = .ok (.iinc 4 1, 3) := by decide +kernel
theorem dX2_foldAll_45 : decode cX2_foldAll 45 = .ok (.goto (-36), 3) := by decide +kernel
theorem dX2_foldAll_48 : decode cX2_foldAll 48 = .ok (.aload_n 0, 1) := by decide +kernel
theorem dX2_foldAll_49 : decode cX2_foldAll 49 = .ok (.invokevirtual 33, 3) := by decide +kernel
theorem dX2_foldAll_52 : decode cX2_foldAll 52 = .ok (.iconst (-1), 1) := by decide +kernel
theorem dX2_foldAll_53 : decode cX2_foldAll 53 = .ok (.ireturn, 1) := by decide +kernel
theorem dX2_spread_0 : decode cX2_spread 0 = .ok (.aload_n 0, 1) := by decide +kernel
theorem dX2_spread_1 : decode cX2_spread 1 = .ok (.iconst 0, 1) := by decide +kernel
theorem dX2_spread_2 : decode cX2_spread 2 = .ok (.putfield 36, 3) := by decide +kernel
theorem dX2_spread_5 : decode cX2_spread 5 = .ok (.aload_n 0, 1) := by decide +kernel
theorem dX2_spread_6 : decode cX2_spread 6 = .ok (.iload_n 1, 1) := by decide +kernel
theorem dX2_spread_7 : decode cX2_spread 7 = .ok (.putfield 39, 3) := by decide +kernel
theorem dX2_spread_10 : decode cX2_spread 10 = .ok (.aload_n 0, 1) := by decide +kernel
theorem dX2_spread_11 : decode cX2_spread 11 = .ok (.iload_n 2, 1) := by decide +kernel
theorem dX2_spread_12 : decode cX2_spread 12 = .ok (.putfield 42, 3) := by decide +kernel
theorem dX2_spread_15 : decode cX2_spread 15 = .ok (.iconst 0, 1) := by decide +kernel
theorem dX2_spread_16 : decode cX2_spread 16 = .ok (.istore_n 3, 1) := by decide +kernel
theorem dX2_spread_17 : decode cX2_spread 17 = .ok (.iload_n 3, 1) := by decide +kernel
theorem dX2_spread_18 : decode cX2_spread 18 = .ok (.aload_n 0, 1) := by decide +kernel
theorem dX2_spread_19 : decode cX2_spread 19 = .ok (.getfield 9, 3) := by decide +kernel
theorem dX2_spread_22 : decode cX2_spread 22 = .ok (.arraylength, 1) := by decide +kernel
theorem dX2_spread_23 : decode cX2_spread 23 = .ok (.if_icmp .ge 16, 3) := by decide +kernel
theorem dX2_spread_26 : decode cX2_spread 26 = .ok (.aload_n 0, 1) := by decide +kernel
theorem dX2_spread_27 : decode cX2_spread 27 = .ok (.getfield 9, 3) := by decide +kernel
theorem dX2_spread_30 : decode cX2_spread 30 = .ok (.iload_n 3, 1) := by decide +kernel
theorem dX2_spread_31 : decode cX2_spread 31 = .ok (.iconst 1, 1) := by decide +kernel
theorem dX2_spread_32 : decode cX2_spread 32 = .ok (.iastore, 1) := by decide +kernel
theorem dX2_spread_33 : decode cX2_spread 33 = .ok (.iinc 3 1, 3) := by decide +kernel
theorem dX2_spread_36 : decode cX2_spread 36 = .ok (.goto (-19), 3) := by decide +kernel
theorem dX2_spread_39 : decode cX2_spread 39 = .ok (.return_, 1) := by decide +kernel
theorem dX2_foldOnce_0 : decode cX2_foldOnce 0 = .ok (.iload_n 1, 1) := by decide +kernel
theorem dX2_foldOnce_1 : decode cX2_foldOnce 1 = .ok (.tableswitch 45 0 2 #[27, 33, 39], 27) := by decide +kernel
theorem dX2_foldOnce_28 : decode cX2_foldOnce 28 = .ok (.aload_n 0, 1) := by decide +kernel
theorem dX2_foldOnce_29 : decode cX2_foldOnce 29 = .ok (.iload_n 2, 1) := by decide +kernel
theorem dX2_foldOnce_30 : decode cX2_foldOnce 30 = .ok (.invokevirtual 45, 3) := by decide +kernel
theorem dX2_foldOnce_33 : decode cX2_foldOnce 33 = .ok (.ireturn, 1) := by decide +kernel
theorem dX2_foldOnce_34 : decode cX2_foldOnce 34 = .ok (.aload_n 0, 1) := by decide +kernel
theorem dX2_foldOnce_35 : decode cX2_foldOnce 35 = .ok (.iload_n 2, 1) := by decide +kernel
theorem dX2_foldOnce_36 : decode cX2_foldOnce 36 = .ok (.invokevirtual 49, 3) := by decide +kernel
theorem dX2_foldOnce_39 : decode cX2_foldOnce 39 = .ok (.ireturn, 1) := by decide +kernel
theorem dX2_foldOnce_40 : decode cX2_foldOnce 40 = .ok (.aload_n 0, 1) := by decide +kernel
theorem dX2_foldOnce_41 : decode cX2_foldOnce 41 = .ok (.iload_n 2, 1) := by decide +kernel
theorem dX2_foldOnce_42 : decode cX2_foldOnce 42 = .ok (.invokevirtual 52, 3) := by decide +kernel
theorem dX2_foldOnce_45 : decode cX2_foldOnce 45 = .ok (.ireturn, 1) := by decide +kernel
theorem dX2_foldOnce_46 : decode cX2_foldOnce 46 = .ok (.iconst 0, 1) := by decide +kernel
theorem dX2_foldOnce_47 : decode cX2_foldOnce 47 = .ok (.ireturn, 1) := by decide +kernel
theorem dX2_foldNose_0 : decode cX2_foldNose 0 = .ok (.iload_n 1, 1) := by decide +kernel
theorem dX2_foldNose_1 : decode cX2_foldNose 1 = .ok (.iconst 1, 1) := by decide +kernel
theorem dX2_foldNose_2 : decode cX2_foldNose 2 = .ok (.if_icmp .lt 13, 3) := by decide +kernel
theorem dX2_foldNose_5 : decode cX2_foldNose 5 = .ok (.iload_n 1, 1) := by decide +kernel
theorem dX2_foldNose_6 : decode cX2_foldNose 6 = .ok (.aload_n 0, 1) := by decide +kernel
theorem dX2_foldNose_7 : decode cX2_foldNose 7 = .ok (.getfield 39, 3) := by decide +kernel
theorem dX2_foldNose_10 : decode cX2_foldNose 10 = .ok (.iconst 2, 1) := by decide +kernel
theorem dX2_foldNose_11 : decode cX2_foldNose 11 = .ok (.idiv, 1) := by decide +kernel
theorem dX2_foldNose_12 : decode cX2_foldNose 12 = .ok (.if_icmp .le 5, 3) := by decide +kernel
theorem dX2_foldNose_15 : decode cX2_foldNose 15 = .ok (.iconst 0, 1) := by decide +kernel
theorem dX2_foldNose_16 : decode cX2_foldNose 16 = .ok (.ireturn, 1) := by decide +kernel
theorem dX2_foldNose_17 : decode cX2_foldNose 17 = .ok (.iconst 0, 1) := by decide +kernel
theorem dX2_foldNose_18 : decode cX2_foldNose 18 = .ok (.istore_n 2, 1) := by decide +kernel
theorem dX2_foldNose_19 : decode cX2_foldNose 19 = .ok (.iload_n 2, 1) := by decide +kernel
theorem dX2_foldNose_20 : decode cX2_foldNose 20 = .ok (.iload_n 1, 1) := by decide +kernel
theorem dX2_foldNose_21 : decode cX2_foldNose 21 = .ok (.if_icmp .ge 52, 3) := by decide +kernel
theorem dX2_foldNose_24 : decode cX2_foldNose 24 = .ok (.iconst 0, 1) := by decide +kernel
theorem dX2_foldNose_25 : decode cX2_foldNose 25 = .ok (.istore_n 3, 1) := by decide +kernel
theorem dX2_foldNose_26 : decode cX2_foldNose 26 = .ok (.iload_n 3, 1) := by decide +kernel
theorem dX2_foldNose_27 : decode cX2_foldNose 27 = .ok (.aload_n 0, 1) := by decide +kernel
theorem dX2_foldNose_28 : decode cX2_foldNose 28 = .ok (.getfield 42, 3) := by decide +kernel
theorem dX2_foldNose_31 : decode cX2_foldNose 31 = .ok (.if_icmp .ge 36, 3) := by decide +kernel
theorem dX2_foldNose_34 : decode cX2_foldNose 34 = .ok (.aload_n 0, 1) := by decide +kernel
theorem dX2_foldNose_35 : decode cX2_foldNose 35 = .ok (.aload_n 0, 1) := by decide +kernel
theorem dX2_foldNose_36 : decode cX2_foldNose 36 = .ok (.iload_n 2, 1) := by decide +kernel
theorem dX2_foldNose_37 : decode cX2_foldNose 37 = .ok (.iload_n 3, 1) := by decide +kernel
theorem dX2_foldNose_38 : decode cX2_foldNose 38 = .ok (.invokevirtual 55, 3) := by decide +kernel
theorem dX2_foldNose_41 : decode cX2_foldNose 41 = .ok (.aload_n 0, 1) := by decide +kernel
theorem dX2_foldNose_42 : decode cX2_foldNose 42 = .ok (.iconst 2, 1) := by decide +kernel
theorem dX2_foldNose_43 : decode cX2_foldNose 43 = .ok (.iload_n 1, 1) := by decide +kernel
theorem dX2_foldNose_44 : decode cX2_foldNose 44 = .ok (.imul, 1) := by decide +kernel
theorem dX2_foldNose_45 : decode cX2_foldNose 45 = .ok (.iconst 1, 1) := by decide +kernel
theorem dX2_foldNose_46 : decode cX2_foldNose 46 = .ok (.isub, 1) := by decide +kernel
theorem dX2_foldNose_47 : decode cX2_foldNose 47 = .ok (.iload_n 2, 1) := by decide +kernel
theorem dX2_foldNose_48 : decode cX2_foldNose 48 = .ok (.isub, 1) := by decide +kernel
theorem dX2_foldNose_49 : decode cX2_foldNose 49 = .ok (.iload_n 3, 1) := by decide +kernel
theorem dX2_foldNose_50 : decode cX2_foldNose 50 = .ok (.invokevirtual 55, 3) := by decide +kernel
theorem dX2_foldNose_53 : decode cX2_foldNose 53 = .ok (.invokevirtual 58, 3) := by decide +kernel
theorem dX2_foldNose_56 : decode cX2_foldNose 56 = .ok (.ifCond .ne 5, 3) := by decide +kernel
theorem dX2_foldNose_59 : decode cX2_foldNose 59 = .ok (.iconst 0, 1) := by decide +kernel
theorem dX2_foldNose_60 : decode cX2_foldNose 60 = .ok (.ireturn, 1) := by decide +kernel
theorem dX2_foldNose_61 : decode cX2_foldNose 61 = .ok (.iinc 3 1, 3) := by decide +kernel
theorem dX2_foldNose_64 : decode cX2_foldNose 64 = .ok (.goto (-38), 3) := by decide +kernel
theorem dX2_foldNose_67 : decode cX2_foldNose 67 = .ok (.iinc 2 1, 3) := by decide +kernel
theorem dX2_foldNose_70 : decode cX2_foldNose 70 = .ok (.goto (-51), 3) := by decide +kernel
theorem dX2_foldNose_73 : decode cX2_foldNose 73 = .ok (.aload_n 0, 1) := by decide +kernel
theorem dX2_foldNose_74 : decode cX2_foldNose 74 = .ok (.dup, 1) := by decide +kernel
theorem dX2_foldNose_75 : decode cX2_foldNose 75 = .ok (.getfield 36, 3) := by decide +kernel
theorem dX2_foldNose_78 : decode cX2_foldNose 78 = .ok (.iload_n 1, 1) := by decide +kernel
theorem dX2_foldNose_79 : decode cX2_foldNose 79 = .ok (.iadd, 1) := by decide +kernel
theorem dX2_foldNose_80 : decode cX2_foldNose 80 = .ok (.putfield 36, 3) := by decide +kernel
theorem dX2_foldNose_83 : decode cX2_foldNose 83 = .ok (.aload_n 0, 1) := by decide +kernel
theorem dX2_foldNose_84 : decode cX2_foldNose 84 = .ok (.dup, 1) := by decide +kernel
theorem dX2_foldNose_85 : decode cX2_foldNose 85 = .ok (.getfield 39, 3) := by decide +kernel
theorem dX2_foldNose_88 : decode cX2_foldNose 88 = .ok (.iload_n 1, 1) := by decide +kernel
theorem dX2_foldNose_89 : decode cX2_foldNose 89 = .ok (.isub, 1) := by decide +kernel
theorem dX2_foldNose_90 : decode cX2_foldNose 90 = .ok (.putfield 39, 3) := by decide +kernel
theorem dX2_foldNose_93 : decode cX2_foldNose 93 = .ok (.iconst 1, 1) := by decide +kernel
theorem dX2_foldNose_94 : decode cX2_foldNose 94 = .ok (.ireturn, 1) := by decide +kernel
theorem dX2_foldSide_0 : decode cX2_foldSide 0 = .ok (.iload_n 1, 1) := by decide +kernel
theorem dX2_foldSide_1 : decode cX2_foldSide 1 = .ok (.iconst 1, 1) := by decide +kernel
theorem dX2_foldSide_2 : decode cX2_foldSide 2 = .ok (.if_icmp .lt 13, 3) := by decide +kernel
theorem dX2_foldSide_5 : decode cX2_foldSide 5 = .ok (.iload_n 1, 1) := by decide +kernel
theorem dX2_foldSide_6 : decode cX2_foldSide 6 = .ok (.aload_n 0, 1) := by decide +kernel
theorem dX2_foldSide_7 : decode cX2_foldSide 7 = .ok (.getfield 42, 3) := by decide +kernel
theorem dX2_foldSide_10 : decode cX2_foldSide 10 = .ok (.iconst 2, 1) := by decide +kernel
theorem dX2_foldSide_11 : decode cX2_foldSide 11 = .ok (.idiv, 1) := by decide +kernel
theorem dX2_foldSide_12 : decode cX2_foldSide 12 = .ok (.if_icmp .le 5, 3) := by decide +kernel
theorem dX2_foldSide_15 : decode cX2_foldSide 15 = .ok (.iconst 0, 1) := by decide +kernel
theorem dX2_foldSide_16 : decode cX2_foldSide 16 = .ok (.ireturn, 1) := by decide +kernel
theorem dX2_foldSide_17 : decode cX2_foldSide 17 = .ok (.iconst 0, 1) := by decide +kernel
theorem dX2_foldSide_18 : decode cX2_foldSide 18 = .ok (.istore_n 2, 1) := by decide +kernel
theorem dX2_foldSide_19 : decode cX2_foldSide 19 = .ok (.iload_n 2, 1) := by decide +kernel
theorem dX2_foldSide_20 : decode cX2_foldSide 20 = .ok (.iload_n 1, 1) := by decide +kernel
theorem dX2_foldSide_21 : decode cX2_foldSide 21 = .ok (.if_icmp .ge 62, 3) := by decide +kernel
theorem dX2_foldSide_24 : decode cX2_foldSide 24 = .ok (.iconst 0, 1) := by decide +kernel
theorem dX2_foldSide_25 : decode cX2_foldSide 25 = .ok (.istore_n 3, 1) := by decide +kernel
theorem dX2_foldSide_26 : decode cX2_foldSide 26 = .ok (.iload_n 3, 1) := by decide +kernel
theorem dX2_foldSide_27 : decode cX2_foldSide 27 = .ok (.aload_n 0, 1) := by decide +kernel
theorem dX2_foldSide_28 : decode cX2_foldSide 28 = .ok (.getfield 39, 3) := by decide +kernel
theorem dX2_foldSide_31 : decode cX2_foldSide 31 = .ok (.if_icmp .ge 46, 3) := by decide +kernel
theorem dX2_foldSide_34 : decode cX2_foldSide 34 = .ok (.aload_n 0, 1) := by decide +kernel
theorem dX2_foldSide_35 : decode cX2_foldSide 35 = .ok (.aload_n 0, 1) := by decide +kernel
theorem dX2_foldSide_36 : decode cX2_foldSide 36 = .ok (.iload_n 3, 1) := by decide +kernel
theorem dX2_foldSide_37 : decode cX2_foldSide 37 = .ok (.aload_n 0, 1) := by decide +kernel
theorem dX2_foldSide_38 : decode cX2_foldSide 38 = .ok (.getfield 42, 3) := by decide +kernel
theorem dX2_foldSide_41 : decode cX2_foldSide 41 = .ok (.iconst 1, 1) := by decide +kernel
theorem dX2_foldSide_42 : decode cX2_foldSide 42 = .ok (.isub, 1) := by decide +kernel
theorem dX2_foldSide_43 : decode cX2_foldSide 43 = .ok (.iload_n 2, 1) := by decide +kernel
theorem dX2_foldSide_44 : decode cX2_foldSide 44 = .ok (.isub, 1) := by decide +kernel
theorem dX2_foldSide_45 : decode cX2_foldSide 45 = .ok (.invokevirtual 55, 3) := by decide +kernel
theorem dX2_foldSide_48 : decode cX2_foldSide 48 = .ok (.aload_n 0, 1) := by decide +kernel
theorem dX2_foldSide_49 : decode cX2_foldSide 49 = .ok (.iload_n 3, 1) := by decide +kernel
theorem dX2_foldSide_50 : decode cX2_foldSide 50 = .ok (.aload_n 0, 1) := by decide +kernel
theorem dX2_foldSide_51 : decode cX2_foldSide 51 = .ok (.getfield 42, 3) := by decide +kernel
theorem dX2_foldSide_54 : decode cX2_foldSide 54 = .ok (.iconst 2, 1) := by decide +kernel
theorem dX2_foldSide_55 : decode cX2_foldSide 55 = .ok (.iload_n 1, 1) := by decide +kernel
theorem dX2_foldSide_56 : decode cX2_foldSide 56 = .ok (.imul, 1) := by decide +kernel
theorem dX2_foldSide_57 : decode cX2_foldSide 57 = .ok (.isub, 1) := by decide +kernel
theorem dX2_foldSide_58 : decode cX2_foldSide 58 = .ok (.iload_n 2, 1) := by decide +kernel
theorem dX2_foldSide_59 : decode cX2_foldSide 59 = .ok (.iadd, 1) := by decide +kernel
theorem dX2_foldSide_60 : decode cX2_foldSide 60 = .ok (.invokevirtual 55, 3) := by decide +kernel
theorem dX2_foldSide_63 : decode cX2_foldSide 63 = .ok (.invokevirtual 58, 3) := by decide +kernel
theorem dX2_foldSide_66 : decode cX2_foldSide 66 = .ok (.ifCond .ne 5, 3) := by decide +kernel
theorem dX2_foldSide_69 : decode cX2_foldSide 69 = .ok (.iconst 0, 1) := by decide +kernel
theorem dX2_foldSide_70 : decode cX2_foldSide 70 = .ok (.ireturn, 1) := by decide +kernel
theorem dX2_foldSide_71 : decode cX2_foldSide 71 = .ok (.iinc 3 1, 3) := by decide +kernel
theorem dX2_foldSide_74 : decode cX2_foldSide 74 = .ok (.goto (-48), 3) := by decide +kernel
theorem dX2_foldSide_77 : decode cX2_foldSide 77 = .ok (.iinc 2 1, 3) := by decide +kernel
theorem dX2_foldSide_80 : decode cX2_foldSide 80 = .ok (.goto (-61), 3) := by decide +kernel
theorem dX2_foldSide_83 : decode cX2_foldSide 83 = .ok (.aload_n 0, 1) := by decide +kernel
theorem dX2_foldSide_84 : decode cX2_foldSide 84 = .ok (.dup, 1) := by decide +kernel
theorem dX2_foldSide_85 : decode cX2_foldSide 85 = .ok (.getfield 42, 3) := by decide +kernel
theorem dX2_foldSide_88 : decode cX2_foldSide 88 = .ok (.iload_n 1, 1) := by decide +kernel
theorem dX2_foldSide_89 : decode cX2_foldSide 89 = .ok (.isub, 1) := by decide +kernel
theorem dX2_foldSide_90 : decode cX2_foldSide 90 = .ok (.putfield 42, 3) := by decide +kernel
theorem dX2_foldSide_93 : decode cX2_foldSide 93 = .ok (.iconst 1, 1) := by decide +kernel
theorem dX2_foldSide_94 : decode cX2_foldSide 94 = .ok (.ireturn, 1) := by decide +kernel
theorem dX2_foldCorner_0 : decode cX2_foldCorner 0 = .ok (.iload_n 1, 1) := by decide +kernel
theorem dX2_foldCorner_1 : decode cX2_foldCorner 1 = .ok (.iconst 2, 1) := by decide +kernel
theorem dX2_foldCorner_2 : decode cX2_foldCorner 2 = .ok (.if_icmp .lt 19, 3) := by decide +kernel
theorem dX2_foldCorner_5 : decode cX2_foldCorner 5 = .ok (.iload_n 1, 1) := by decide +kernel
theorem dX2_foldCorner_6 : decode cX2_foldCorner 6 = .ok (.aload_n 0, 1) := by decide +kernel
theorem dX2_foldCorner_7 : decode cX2_foldCorner 7 = .ok (.getfield 39, 3) := by decide +kernel
theorem dX2_foldCorner_10 : decode cX2_foldCorner 10 = .ok (.if_icmp .gt 11, 3) := by decide +kernel
theorem dX2_foldCorner_13 : decode cX2_foldCorner 13 = .ok (.iload_n 1, 1) := by decide +kernel
theorem dX2_foldCorner_14 : decode cX2_foldCorner 14 = .ok (.aload_n 0, 1) := by decide +kernel
theorem dX2_foldCorner_15 : decode cX2_foldCorner 15 = .ok (.getfield 42, 3) := by decide +kernel
theorem dX2_foldCorner_18 : decode cX2_foldCorner 18 = .ok (.if_icmp .le 5, 3) := by decide +kernel
theorem dX2_foldCorner_21 : decode cX2_foldCorner 21 = .ok (.iconst 0, 1) := by decide +kernel
theorem dX2_foldCorner_22 : decode cX2_foldCorner 22 = .ok (.ireturn, 1) := by decide +kernel
theorem dX2_foldCorner_23 : decode cX2_foldCorner 23 = .ok (.aload_n 0, 1) := by decide +kernel
theorem dX2_foldCorner_24 : decode cX2_foldCorner 24 = .ok (.getfield 42, 3) := by decide +kernel
theorem dX2_foldCorner_27 : decode cX2_foldCorner 27 = .ok (.iconst 1, 1) := by decide +kernel
theorem dX2_foldCorner_28 : decode cX2_foldCorner 28 = .ok (.isub, 1) := by decide +kernel
theorem dX2_foldCorner_29 : decode cX2_foldCorner 29 = .ok (.istore_n 2, 1) := by decide +kernel
theorem dX2_foldCorner_30 : decode cX2_foldCorner 30 = .ok (.iconst 0, 1) := by decide +kernel
theorem dX2_foldCorner_31 : decode cX2_foldCorner 31 = .ok (.istore_n 3, 1) := by decide +kernel
theorem dX2_foldCorner_32 : decode cX2_foldCorner 32 = .ok (.iload_n 3, 1) := by decide +kernel
theorem dX2_foldCorner_33 : decode cX2_foldCorner 33 = .ok (.iload_n 1, 1) := by decide +kernel
theorem dX2_foldCorner_34 : decode cX2_foldCorner 34 = .ok (.iconst 1, 1) := by decide +kernel
theorem dX2_foldCorner_35 : decode cX2_foldCorner 35 = .ok (.isub, 1) := by decide +kernel
theorem dX2_foldCorner_36 : decode cX2_foldCorner 36 = .ok (.if_icmp .ge 63, 3) := by decide +kernel
theorem dX2_foldCorner_39 : decode cX2_foldCorner 39 = .ok (.iconst 0, 1) := by decide +kernel
theorem dX2_foldCorner_40 : decode cX2_foldCorner 40 = .ok (.istore 4, 2) := by decide +kernel
theorem dX2_foldCorner_42 : decode cX2_foldCorner 42 = .ok (.iload_n 3, 1) := by decide +kernel
theorem dX2_foldCorner_43 : decode cX2_foldCorner 43 = .ok (.iload 4, 2) := by decide +kernel
theorem dX2_foldCorner_45 : decode cX2_foldCorner 45 = .ok (.iadd, 1) := by decide +kernel
theorem dX2_foldCorner_46 : decode cX2_foldCorner 46 = .ok (.iload_n 1, 1) := by decide +kernel
theorem dX2_foldCorner_47 : decode cX2_foldCorner 47 = .ok (.iconst 1, 1) := by decide +kernel
theorem dX2_foldCorner_48 : decode cX2_foldCorner 48 = .ok (.isub, 1) := by decide +kernel
theorem dX2_foldCorner_49 : decode cX2_foldCorner 49 = .ok (.if_icmp .ge 44, 3) := by decide +kernel
theorem dX2_foldCorner_52 : decode cX2_foldCorner 52 = .ok (.aload_n 0, 1) := by decide +kernel
theorem dX2_foldCorner_53 : decode cX2_foldCorner 53 = .ok (.aload_n 0, 1) := by decide +kernel
theorem dX2_foldCorner_54 : decode cX2_foldCorner 54 = .ok (.iload_n 3, 1) := by decide +kernel
theorem dX2_foldCorner_55 : decode cX2_foldCorner 55 = .ok (.iload_n 2, 1) := by decide +kernel
theorem dX2_foldCorner_56 : decode cX2_foldCorner 56 = .ok (.iload 4, 2) := by decide +kernel
theorem dX2_foldCorner_58 : decode cX2_foldCorner 58 = .ok (.isub, 1) := by decide +kernel
theorem dX2_foldCorner_59 : decode cX2_foldCorner 59 = .ok (.invokevirtual 55, 3) := by decide +kernel
theorem dX2_foldCorner_62 : decode cX2_foldCorner 62 = .ok (.aload_n 0, 1) := by decide +kernel
theorem dX2_foldCorner_63 : decode cX2_foldCorner 63 = .ok (.iload_n 1, 1) := by decide +kernel
theorem dX2_foldCorner_64 : decode cX2_foldCorner 64 = .ok (.iconst 1, 1) := by decide +kernel
theorem dX2_foldCorner_65 : decode cX2_foldCorner 65 = .ok (.isub, 1) := by decide +kernel
theorem dX2_foldCorner_66 : decode cX2_foldCorner 66 = .ok (.iload 4, 2) := by decide +kernel
theorem dX2_foldCorner_68 : decode cX2_foldCorner 68 = .ok (.isub, 1) := by decide +kernel
theorem dX2_foldCorner_69 : decode cX2_foldCorner 69 = .ok (.iload_n 2, 1) := by decide +kernel
theorem dX2_foldCorner_70 : decode cX2_foldCorner 70 = .ok (.iload_n 1, 1) := by decide +kernel
theorem dX2_foldCorner_71 : decode cX2_foldCorner 71 = .ok (.iconst 1, 1) := by decide +kernel
theorem dX2_foldCorner_72 : decode cX2_foldCorner 72 = .ok (.isub, 1) := by decide +kernel
theorem dX2_foldCorner_73 : decode cX2_foldCorner 73 = .ok (.iload_n 3, 1) := by decide +kernel
theorem dX2_foldCorner_74 : decode cX2_foldCorner 74 = .ok (.isub, 1) := by decide +kernel
theorem dX2_foldCorner_75 : decode cX2_foldCorner 75 = .ok (.isub, 1) := by decide +kernel
theorem dX2_foldCorner_76 : decode cX2_foldCorner 76 = .ok (.invokevirtual 55, 3) := by decide +kernel
theorem dX2_foldCorner_79 : decode cX2_foldCorner 79 = .ok (.invokevirtual 58, 3) := by decide +kernel
theorem dX2_foldCorner_82 : decode cX2_foldCorner 82 = .ok (.ifCond .ne 5, 3) := by decide +kernel
theorem dX2_foldCorner_85 : decode cX2_foldCorner 85 = .ok (.iconst 0, 1) := by decide +kernel
theorem dX2_foldCorner_86 : decode cX2_foldCorner 86 = .ok (.ireturn, 1) := by decide +kernel
theorem dX2_foldCorner_87 : decode cX2_foldCorner 87 = .ok (.iinc 4 1, 3) := by decide +kernel
theorem dX2_foldCorner_90 : decode cX2_foldCorner 90 = .ok (.goto (-48), 3) := by decide +kernel
theorem dX2_foldCorner_93 : decode cX2_foldCorner 93 = .ok (.iinc 3 1, 3) := by decide +kernel
theorem dX2_foldCorner_96 : decode cX2_foldCorner 96 = .ok (.goto (-64), 3) := by decide +kernel
theorem dX2_foldCorner_99 : decode cX2_foldCorner 99 = .ok (.iconst 1, 1) := by decide +kernel
theorem dX2_foldCorner_100 : decode cX2_foldCorner 100 = .ok (.ireturn, 1) := by decide +kernel
theorem dX2_placeOf_0 : decode cX2_placeOf 0 = .ok (.aload_n 0, 1) := by decide +kernel
theorem dX2_placeOf_1 : decode cX2_placeOf 1 = .ok (.getfield 36, 3) := by decide +kernel
theorem dX2_placeOf_4 : decode cX2_placeOf 4 = .ok (.iload_n 1, 1) := by decide +kernel
theorem dX2_placeOf_5 : decode cX2_placeOf 5 = .ok (.iadd, 1) := by decide +kernel
theorem dX2_placeOf_6 : decode cX2_placeOf 6 = .ok (.bipush 12, 2) := by decide +kernel
theorem dX2_placeOf_8 : decode cX2_placeOf 8 = .ok (.imul, 1) := by decide +kernel
theorem dX2_placeOf_9 : decode cX2_placeOf 9 = .ok (.iload_n 2, 1) := by decide +kernel
theorem dX2_placeOf_10 : decode cX2_placeOf 10 = .ok (.iadd, 1) := by decide +kernel
theorem dX2_placeOf_11 : decode cX2_placeOf 11 = .ok (.ireturn, 1) := by decide +kernel
theorem dX2_lay_0 : decode cX2_lay 0 = .ok (.iload_n 1, 1) := by decide +kernel
theorem dX2_lay_1 : decode cX2_lay 1 = .ok (.ifCond .lt 25, 3) := by decide +kernel
theorem dX2_lay_4 : decode cX2_lay 4 = .ok (.iload_n 1, 1) := by decide +kernel
theorem dX2_lay_5 : decode cX2_lay 5 = .ok (.aload_n 0, 1) := by decide +kernel
theorem dX2_lay_6 : decode cX2_lay 6 = .ok (.getfield 9, 3) := by decide +kernel
theorem dX2_lay_9 : decode cX2_lay 9 = .ok (.arraylength, 1) := by decide +kernel
theorem dX2_lay_10 : decode cX2_lay 10 = .ok (.if_icmp .ge 16, 3) := by decide +kernel
theorem dX2_lay_13 : decode cX2_lay 13 = .ok (.iload_n 2, 1) := by decide +kernel
theorem dX2_lay_14 : decode cX2_lay 14 = .ok (.ifCond .lt 12, 3) := by decide +kernel
theorem dX2_lay_17 : decode cX2_lay 17 = .ok (.iload_n 2, 1) := by decide +kernel
theorem dX2_lay_18 : decode cX2_lay 18 = .ok (.aload_n 0, 1) := by decide +kernel
theorem dX2_lay_19 : decode cX2_lay 19 = .ok (.getfield 9, 3) := by decide +kernel
theorem dX2_lay_22 : decode cX2_lay 22 = .ok (.arraylength, 1) := by decide +kernel
theorem dX2_lay_23 : decode cX2_lay 23 = .ok (.if_icmp .lt 5, 3) := by decide +kernel
theorem dX2_lay_26 : decode cX2_lay 26 = .ok (.iconst 0, 1) := by decide +kernel
theorem dX2_lay_27 : decode cX2_lay 27 = .ok (.ireturn, 1) := by decide +kernel
theorem dX2_lay_28 : decode cX2_lay 28 = .ok (.aload_n 0, 1) := by decide +kernel
theorem dX2_lay_29 : decode cX2_lay 29 = .ok (.getfield 9, 3) := by decide +kernel
theorem dX2_lay_32 : decode cX2_lay 32 = .ok (.iload_n 2, 1) := by decide +kernel
theorem dX2_lay_33 : decode cX2_lay 33 = .ok (.dup2, 1) := by decide +kernel
theorem dX2_lay_34 : decode cX2_lay 34 = .ok (.iaload, 1) := by decide +kernel
theorem dX2_lay_35 : decode cX2_lay 35 = .ok (.aload_n 0, 1) := by decide +kernel
theorem dX2_lay_36 : decode cX2_lay 36 = .ok (.getfield 9, 3) := by decide +kernel
theorem dX2_lay_39 : decode cX2_lay 39 = .ok (.iload_n 1, 1) := by decide +kernel
theorem dX2_lay_40 : decode cX2_lay 40 = .ok (.iaload, 1) := by decide +kernel
theorem dX2_lay_41 : decode cX2_lay 41 = .ok (.iadd, 1) := by decide +kernel
theorem dX2_lay_42 : decode cX2_lay 42 = .ok (.iastore, 1) := by decide +kernel
theorem dX2_lay_43 : decode cX2_lay 43 = .ok (.aload_n 0, 1) := by decide +kernel
theorem dX2_lay_44 : decode cX2_lay 44 = .ok (.getfield 9, 3) := by decide +kernel
theorem dX2_lay_47 : decode cX2_lay 47 = .ok (.iload_n 1, 1) := by decide +kernel
theorem dX2_lay_48 : decode cX2_lay 48 = .ok (.iconst 0, 1) := by decide +kernel
theorem dX2_lay_49 : decode cX2_lay 49 = .ok (.iastore, 1) := by decide +kernel
theorem dX2_lay_50 : decode cX2_lay 50 = .ok (.aload_n 0, 1) := by decide +kernel
theorem dX2_lay_51 : decode cX2_lay 51 = .ok (.getfield 9, 3) := by decide +kernel
theorem dX2_lay_54 : decode cX2_lay 54 = .ok (.iload_n 2, 1) := by decide +kernel
theorem dX2_lay_55 : decode cX2_lay 55 = .ok (.iaload, 1) := by decide +kernel
theorem dX2_lay_56 : decode cX2_lay 56 = .ok (.bipush 32, 2) := by decide +kernel
theorem dX2_lay_58 : decode cX2_lay 58 = .ok (.if_icmp .gt 7, 3) := by decide +kernel
theorem dX2_lay_61 : decode cX2_lay 61 = .ok (.iconst 1, 1) := by decide +kernel
theorem dX2_lay_62 : decode cX2_lay 62 = .ok (.goto 4, 3) := by decide +kernel
theorem dX2_lay_65 : decode cX2_lay 65 = .ok (.iconst 0, 1) := by decide +kernel
theorem dX2_lay_66 : decode cX2_lay 66 = .ok (.ireturn, 1) := by decide +kernel
theorem dX2_layersAt_0 : decode cX2_layersAt 0 = .ok (.iload_n 1, 1) := by decide +kernel
theorem dX2_layersAt_1 : decode cX2_layersAt 1 = .ok (.ifCond .lt 23, 3) := by decide +kernel
theorem dX2_layersAt_4 : decode cX2_layersAt 4 = .ok (.iload_n 1, 1) := by decide +kernel
theorem dX2_layersAt_5 : decode cX2_layersAt 5 = .ok (.aload_n 0, 1) := by decide +kernel
theorem dX2_layersAt_6 : decode cX2_layersAt 6 = .ok (.getfield 39, 3) := by decide +kernel
theorem dX2_layersAt_9 : decode cX2_layersAt 9 = .ok (.if_icmp .ge 15, 3) := by decide +kernel
theorem dX2_layersAt_12 : decode cX2_layersAt 12 = .ok (.iload_n 2, 1) := by decide +kernel
theorem dX2_layersAt_13 : decode cX2_layersAt 13 = .ok (.ifCond .lt 11, 3) := by decide +kernel
theorem dX2_layersAt_16 : decode cX2_layersAt 16 = .ok (.iload_n 2, 1) := by decide +kernel
theorem dX2_layersAt_17 : decode cX2_layersAt 17 = .ok (.aload_n 0, 1) := by decide +kernel
theorem dX2_layersAt_18 : decode cX2_layersAt 18 = .ok (.getfield 42, 3) := by decide +kernel
theorem dX2_layersAt_21 : decode cX2_layersAt 21 = .ok (.if_icmp .lt 5, 3) := by decide +kernel
theorem dX2_layersAt_24 : decode cX2_layersAt 24 = .ok (.iconst (-1), 1) := by decide +kernel
theorem dX2_layersAt_25 : decode cX2_layersAt 25 = .ok (.ireturn, 1) := by decide +kernel
theorem dX2_layersAt_26 : decode cX2_layersAt 26 = .ok (.aload_n 0, 1) := by decide +kernel
theorem dX2_layersAt_27 : decode cX2_layersAt 27 = .ok (.iload_n 1, 1) := by decide +kernel
theorem dX2_layersAt_28 : decode cX2_layersAt 28 = .ok (.iload_n 2, 1) := by decide +kernel
theorem dX2_layersAt_29 : decode cX2_layersAt 29 = .ok (.invokevirtual 55, 3) := by decide +kernel
theorem dX2_layersAt_32 : decode cX2_layersAt 32 = .ok (.istore_n 3, 1) := by decide +kernel
theorem dX2_layersAt_33 : decode cX2_layersAt 33 = .ok (.iload_n 3, 1) := by decide +kernel
theorem dX2_layersAt_34 : decode cX2_layersAt 34 = .ok (.ifCond .lt 21, 3) := by decide +kernel
theorem dX2_layersAt_37 : decode cX2_layersAt 37 = .ok (.iload_n 3, 1) := by decide +kernel
theorem dX2_layersAt_38 : decode cX2_layersAt 38 = .ok (.aload_n 0, 1) := by decide +kernel
theorem dX2_layersAt_39 : decode cX2_layersAt 39 = .ok (.getfield 9, 3) := by decide +kernel
theorem dX2_layersAt_42 : decode cX2_layersAt 42 = .ok (.arraylength, 1) := by decide +kernel
theorem dX2_layersAt_43 : decode cX2_layersAt 43 = .ok (.if_icmp .ge 12, 3) := by decide +kernel
theorem dX2_layersAt_46 : decode cX2_layersAt 46 = .ok (.aload_n 0, 1) := by decide +kernel
theorem dX2_layersAt_47 : decode cX2_layersAt 47 = .ok (.getfield 9, 3) := by decide +kernel
theorem dX2_layersAt_50 : decode cX2_layersAt 50 = .ok (.iload_n 3, 1) := by decide +kernel
theorem dX2_layersAt_51 : decode cX2_layersAt 51 = .ok (.iaload, 1) := by decide +kernel
theorem dX2_layersAt_52 : decode cX2_layersAt 52 = .ok (.goto 4, 3) := by decide +kernel
theorem dX2_layersAt_55 : decode cX2_layersAt 55 = .ok (.iconst (-1), 1) := by decide +kernel
theorem dX2_layersAt_56 : decode cX2_layersAt 56 = .ok (.ireturn, 1) := by decide +kernel
theorem dX2_weigh_0 : decode cX2_weigh 0 = .ok (.aload_n 0, 1) := by decide +kernel
theorem dX2_weigh_1 : decode cX2_weigh 1 = .ok (.iconst 0, 1) := by decide +kernel
theorem dX2_weigh_2 : decode cX2_weigh 2 = .ok (.putfield 61, 3) := by decide +kernel
theorem dX2_weigh_5 : decode cX2_weigh 5 = .ok (.aload_n 0, 1) := by decide +kernel
theorem dX2_weigh_6 : decode cX2_weigh 6 = .ok (.iconst 0, 1) := by decide +kernel
theorem dX2_weigh_7 : decode cX2_weigh 7 = .ok (.putfield 64, 3) := by decide +kernel
theorem dX2_weigh_10 : decode cX2_weigh 10 = .ok (.aload_n 0, 1) := by decide +kernel
theorem dX2_weigh_11 : decode cX2_weigh 11 = .ok (.iconst 0, 1) := by decide +kernel
theorem dX2_weigh_12 : decode cX2_weigh 12 = .ok (.putfield 67, 3) := by decide +kernel
theorem dX2_weigh_15 : decode cX2_weigh 15 = .ok (.aload_n 0, 1) := by decide +kernel
theorem dX2_weigh_16 : decode cX2_weigh 16 = .ok (.iconst 0, 1) := by decide +kernel
theorem dX2_weigh_17 : decode cX2_weigh 17 = .ok (.putfield 70, 3) := by decide +kernel
theorem dX2_weigh_20 : decode cX2_weigh 20 = .ok (.iconst 0, 1) := by decide +kernel
theorem dX2_weigh_21 : decode cX2_weigh 21 = .ok (.istore_n 1, 1) := by decide +kernel
theorem dX2_weigh_22 : decode cX2_weigh 22 = .ok (.iload_n 1, 1) := by decide +kernel
theorem dX2_weigh_23 : decode cX2_weigh 23 = .ok (.aload_n 0, 1) := by decide +kernel
theorem dX2_weigh_24 : decode cX2_weigh 24 = .ok (.getfield 39, 3) := by decide +kernel
theorem dX2_weigh_27 : decode cX2_weigh 27 = .ok (.if_icmp .ge 88, 3) := by decide +kernel
theorem dX2_weigh_30 : decode cX2_weigh 30 = .ok (.iconst 2, 1) := by decide +kernel
theorem dX2_weigh_31 : decode cX2_weigh 31 = .ok (.iload_n 1, 1) := by decide +kernel
theorem dX2_weigh_32 : decode cX2_weigh 32 = .ok (.imul, 1) := by decide +kernel
theorem dX2_weigh_33 : decode cX2_weigh 33 = .ok (.iconst 1, 1) := by decide +kernel
theorem dX2_weigh_34 : decode cX2_weigh 34 = .ok (.iadd, 1) := by decide +kernel
theorem dX2_weigh_35 : decode cX2_weigh 35 = .ok (.istore_n 2, 1) := by decide +kernel
theorem dX2_weigh_36 : decode cX2_weigh 36 = .ok (.iconst 0, 1) := by decide +kernel
theorem dX2_weigh_37 : decode cX2_weigh 37 = .ok (.istore_n 3, 1) := by decide +kernel
theorem dX2_weigh_38 : decode cX2_weigh 38 = .ok (.iload_n 3, 1) := by decide +kernel
theorem dX2_weigh_39 : decode cX2_weigh 39 = .ok (.aload_n 0, 1) := by decide +kernel
theorem dX2_weigh_40 : decode cX2_weigh 40 = .ok (.getfield 42, 3) := by decide +kernel
theorem dX2_weigh_43 : decode cX2_weigh 43 = .ok (.if_icmp .ge 66, 3) := by decide +kernel
theorem dX2_weigh_46 : decode cX2_weigh 46 = .ok (.aload_n 0, 1) := by decide +kernel
theorem dX2_weigh_47 : decode cX2_weigh 47 = .ok (.iload_n 1, 1) := by decide +kernel
theorem dX2_weigh_48 : decode cX2_weigh 48 = .ok (.iload_n 3, 1) := by decide +kernel
theorem dX2_weigh_49 : decode cX2_weigh 49 = .ok (.invokevirtual 73, 3) := by decide +kernel
theorem dX2_weigh_52 : decode cX2_weigh 52 = .ok (.istore 4, 2) := by decide +kernel
theorem dX2_weigh_54 : decode cX2_weigh 54 = .ok (.iload 4, 2) := by decide +kernel
theorem dX2_weigh_56 : decode cX2_weigh 56 = .ok (.ifCond .le 47, 3) := by decide +kernel
theorem dX2_weigh_59 : decode cX2_weigh 59 = .ok (.aload_n 0, 1) := by decide +kernel
theorem dX2_weigh_60 : decode cX2_weigh 60 = .ok (.dup, 1) := by decide +kernel
theorem dX2_weigh_61 : decode cX2_weigh 61 = .ok (.getfield 61, 3) := by decide +kernel
theorem dX2_weigh_64 : decode cX2_weigh 64 = .ok (.iconst 1, 1) := by decide +kernel
theorem dX2_weigh_65 : decode cX2_weigh 65 = .ok (.iadd, 1) := by decide +kernel
theorem dX2_weigh_66 : decode cX2_weigh 66 = .ok (.putfield 61, 3) := by decide +kernel
theorem dX2_weigh_69 : decode cX2_weigh 69 = .ok (.aload_n 0, 1) := by decide +kernel
theorem dX2_weigh_70 : decode cX2_weigh 70 = .ok (.dup, 1) := by decide +kernel
theorem dX2_weigh_71 : decode cX2_weigh 71 = .ok (.getfield 64, 3) := by decide +kernel
theorem dX2_weigh_74 : decode cX2_weigh 74 = .ok (.iload 4, 2) := by decide +kernel
theorem dX2_weigh_76 : decode cX2_weigh 76 = .ok (.iadd, 1) := by decide +kernel
theorem dX2_weigh_77 : decode cX2_weigh 77 = .ok (.putfield 64, 3) := by decide +kernel
theorem dX2_weigh_80 : decode cX2_weigh 80 = .ok (.aload_n 0, 1) := by decide +kernel
theorem dX2_weigh_81 : decode cX2_weigh 81 = .ok (.dup, 1) := by decide +kernel
theorem dX2_weigh_82 : decode cX2_weigh 82 = .ok (.getfield 67, 3) := by decide +kernel
theorem dX2_weigh_85 : decode cX2_weigh 85 = .ok (.iload 4, 2) := by decide +kernel
theorem dX2_weigh_87 : decode cX2_weigh 87 = .ok (.iload_n 2, 1) := by decide +kernel
theorem dX2_weigh_88 : decode cX2_weigh 88 = .ok (.imul, 1) := by decide +kernel
theorem dX2_weigh_89 : decode cX2_weigh 89 = .ok (.iadd, 1) := by decide +kernel
theorem dX2_weigh_90 : decode cX2_weigh 90 = .ok (.putfield 67, 3) := by decide +kernel
theorem dX2_weigh_93 : decode cX2_weigh 93 = .ok (.aload_n 0, 1) := by decide +kernel
theorem dX2_weigh_94 : decode cX2_weigh 94 = .ok (.dup, 1) := by decide +kernel
theorem dX2_weigh_95 : decode cX2_weigh 95 = .ok (.getfield 70, 3) := by decide +kernel
theorem dX2_weigh_98 : decode cX2_weigh 98 = .ok (.iload_n 2, 1) := by decide +kernel
theorem dX2_weigh_99 : decode cX2_weigh 99 = .ok (.iadd, 1) := by decide +kernel
theorem dX2_weigh_100 : decode cX2_weigh 100 = .ok (.putfield 70, 3) := by decide +kernel
theorem dX2_weigh_103 : decode cX2_weigh 103 = .ok (.iinc 3 1, 3) := by decide +kernel
theorem dX2_weigh_106 : decode cX2_weigh 106 = .ok (.goto (-68), 3) := by decide +kernel
theorem dX2_weigh_109 : decode cX2_weigh 109 = .ok (.iinc 1 1, 3) := by decide +kernel
theorem dX2_weigh_112 : decode cX2_weigh 112 = .ok (.goto (-90), 3) := by decide +kernel
theorem dX2_weigh_115 : decode cX2_weigh 115 = .ok (.aload_n 0, 1) := by decide +kernel
theorem dX2_weigh_116 : decode cX2_weigh 116 = .ok (.getfield 61, 3) := by decide +kernel
theorem dX2_weigh_119 : decode cX2_weigh 119 = .ok (.aload_n 0, 1) := by decide +kernel
theorem dX2_weigh_120 : decode cX2_weigh 120 = .ok (.getfield 64, 3) := by decide +kernel
theorem dX2_weigh_123 : decode cX2_weigh 123 = .ok (.imul, 1) := by decide +kernel
theorem dX2_weigh_124 : decode cX2_weigh 124 = .ok (.istore_n 1, 1) := by decide +kernel
theorem dX2_weigh_125 : decode cX2_weigh 125 = .ok (.aload_n 0, 1) := by decide +kernel
theorem dX2_weigh_126 : decode cX2_weigh 126 = .ok (.iload_n 1, 1) := by decide +kernel
theorem dX2_weigh_127 : decode cX2_weigh 127 = .ok (.ifCond .le 30, 3) := by decide +kernel
theorem dX2_weigh_130 : decode cX2_weigh 130 = .ok (.bipush 10, 2) := by decide +kernel
theorem dX2_weigh_132 : decode cX2_weigh 132 = .ok (.aload_n 0, 1) := by decide +kernel
theorem dX2_weigh_133 : decode cX2_weigh 133 = .ok (.getfield 70, 3) := by decide +kernel
theorem dX2_weigh_136 : decode cX2_weigh 136 = .ok (.aload_n 0, 1) := by decide +kernel
theorem dX2_weigh_137 : decode cX2_weigh 137 = .ok (.getfield 64, 3) := by decide +kernel
theorem dX2_weigh_140 : decode cX2_weigh 140 = .ok (.imul, 1) := by decide +kernel
theorem dX2_weigh_141 : decode cX2_weigh 141 = .ok (.aload_n 0, 1) := by decide +kernel
theorem dX2_weigh_142 : decode cX2_weigh 142 = .ok (.getfield 67, 3) := by decide +kernel
theorem dX2_weigh_145 : decode cX2_weigh 145 = .ok (.aload_n 0, 1) := by decide +kernel
theorem dX2_weigh_146 : decode cX2_weigh 146 = .ok (.getfield 61, 3) := by decide +kernel
theorem dX2_weigh_149 : decode cX2_weigh 149 = .ok (.imul, 1) := by decide +kernel
theorem dX2_weigh_150 : decode cX2_weigh 150 = .ok (.isub, 1) := by decide +kernel
theorem dX2_weigh_151 : decode cX2_weigh 151 = .ok (.imul, 1) := by decide +kernel
theorem dX2_weigh_152 : decode cX2_weigh 152 = .ok (.iload_n 1, 1) := by decide +kernel
theorem dX2_weigh_153 : decode cX2_weigh 153 = .ok (.idiv, 1) := by decide +kernel
theorem dX2_weigh_154 : decode cX2_weigh 154 = .ok (.goto 4, 3) := by decide +kernel
theorem dX2_weigh_157 : decode cX2_weigh 157 = .ok (.iconst 0, 1) := by decide +kernel
theorem dX2_weigh_158 : decode cX2_weigh 158 = .ok (.putfield 76, 3) := by decide +kernel
theorem dX2_weigh_161 : decode cX2_weigh 161 = .ok (.return_, 1) := by decide +kernel
theorem dX2_isLike_0 : decode cX2_isLike 0 = .ok (.aload_n 0, 1) := by decide +kernel
theorem dX2_isLike_1 : decode cX2_isLike 1 = .ok (.getfield 61, 3) := by decide +kernel
theorem dX2_isLike_4 : decode cX2_isLike 4 = .ok (.iload_n 1, 1) := by decide +kernel
theorem dX2_isLike_5 : decode cX2_isLike 5 = .ok (.if_icmp .ne 15, 3) := by decide +kernel
theorem dX2_isLike_8 : decode cX2_isLike 8 = .ok (.aload_n 0, 1) := by decide +kernel
theorem dX2_isLike_9 : decode cX2_isLike 9 = .ok (.getfield 67, 3) := by decide +kernel
theorem dX2_isLike_12 : decode cX2_isLike 12 = .ok (.iload_n 2, 1) := by decide +kernel
theorem dX2_isLike_13 : decode cX2_isLike 13 = .ok (.if_icmp .ne 7, 3) := by decide +kernel
theorem dX2_isLike_16 : decode cX2_isLike 16 = .ok (.iconst 1, 1) := by decide +kernel
theorem dX2_isLike_17 : decode cX2_isLike 17 = .ok (.goto 4, 3) := by decide +kernel
theorem dX2_isLike_20 : decode cX2_isLike 20 = .ok (.iconst 0, 1) := by decide +kernel
theorem dX2_isLike_21 : decode cX2_isLike 21 = .ok (.ireturn, 1) := by decide +kernel
theorem dX2_dampWeight_0 : decode cX2_dampWeight 0 = .ok (.aload_n 0, 1) := by decide +kernel
theorem dX2_dampWeight_1 : decode cX2_dampWeight 1 = .ok (.getfield 64, 3) := by decide +kernel
theorem dX2_dampWeight_4 : decode cX2_dampWeight 4 = .ok (.aload_n 0, 1) := by decide +kernel
theorem dX2_dampWeight_5 : decode cX2_dampWeight 5 = .ok (.getfield 64, 3) := by decide +kernel
theorem dX2_dampWeight_8 : decode cX2_dampWeight 8 = .ok (.iload_n 1, 1) := by decide +kernel
theorem dX2_dampWeight_9 : decode cX2_dampWeight 9 = .ok (.imul, 1) := by decide +kernel
theorem dX2_dampWeight_10 : decode cX2_dampWeight 10 = .ok (.bipush 100, 2) := by decide +kernel
theorem dX2_dampWeight_12 : decode cX2_dampWeight 12 = .ok (.idiv, 1) := by decide +kernel
theorem dX2_dampWeight_13 : decode cX2_dampWeight 13 = .ok (.iadd, 1) := by decide +kernel
theorem dX2_dampWeight_14 : decode cX2_dampWeight 14 = .ok (.ireturn, 1) := by decide +kernel
theorem dX2_copyFrom_0 : decode cX2_copyFrom 0 = .ok (.aload_n 1, 1) := by decide +kernel
theorem dX2_copyFrom_1 : decode cX2_copyFrom 1 = .ok (.getfield 9, 3) := by decide +kernel
theorem dX2_copyFrom_4 : decode cX2_copyFrom 4 = .ok (.iconst 0, 1) := by decide +kernel
theorem dX2_copyFrom_5 : decode cX2_copyFrom 5 = .ok (.aload_n 0, 1) := by decide +kernel
theorem dX2_copyFrom_6 : decode cX2_copyFrom 6 = .ok (.getfield 9, 3) := by decide +kernel
theorem dX2_copyFrom_9 : decode cX2_copyFrom 9 = .ok (.iconst 0, 1) := by decide +kernel
theorem dX2_copyFrom_10 : decode cX2_copyFrom 10 = .ok (.sipush 288, 3) := by decide +kernel
theorem dX2_copyFrom_13 : decode cX2_copyFrom 13 = .ok (.invokestatic 79, 3) := by decide +kernel
theorem dX2_copyFrom_16 : decode cX2_copyFrom 16 = .ok (.aload_n 0, 1) := by decide +kernel
theorem dX2_copyFrom_17 : decode cX2_copyFrom 17 = .ok (.aload_n 1, 1) := by decide +kernel
theorem dX2_copyFrom_18 : decode cX2_copyFrom 18 = .ok (.getfield 36, 3) := by decide +kernel
theorem dX2_copyFrom_21 : decode cX2_copyFrom 21 = .ok (.putfield 36, 3) := by decide +kernel
theorem dX2_copyFrom_24 : decode cX2_copyFrom 24 = .ok (.aload_n 0, 1) := by decide +kernel
theorem dX2_copyFrom_25 : decode cX2_copyFrom 25 = .ok (.aload_n 1, 1) := by decide +kernel
theorem dX2_copyFrom_26 : decode cX2_copyFrom 26 = .ok (.getfield 39, 3) := by decide +kernel
theorem dX2_copyFrom_29 : decode cX2_copyFrom 29 = .ok (.putfield 39, 3) := by decide +kernel
theorem dX2_copyFrom_32 : decode cX2_copyFrom 32 = .ok (.aload_n 0, 1) := by decide +kernel
theorem dX2_copyFrom_33 : decode cX2_copyFrom 33 = .ok (.aload_n 1, 1) := by decide +kernel
theorem dX2_copyFrom_34 : decode cX2_copyFrom 34 = .ok (.getfield 42, 3) := by decide +kernel
theorem dX2_copyFrom_37 : decode cX2_copyFrom 37 = .ok (.putfield 42, 3) := by decide +kernel
theorem dX2_copyFrom_40 : decode cX2_copyFrom 40 = .ok (.return_, 1) := by decide +kernel
