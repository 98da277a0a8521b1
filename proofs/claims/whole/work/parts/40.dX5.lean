theorem dX5_init_0 : decode cX5_init 0 = .ok (.aload_n 0, 1) := by decide +kernel
theorem dX5_init_1 : decode cX5_init 1 = .ok (.invokespecial 3, 3) := by decide +kernel
theorem dX5_init_4 : decode cX5_init 4 = .ok (.aload_n 0, 1) := by decide +kernel
theorem dX5_init_5 : decode cX5_init 5 = .ok (.bipush 8, 2) := by decide +kernel
theorem dX5_init_7 : decode cX5_init 7 = .ok (.putfield 9, 3) := by decide +kernel
theorem dX5_init_10 : decode cX5_init 10 = .ok (.aload_n 0, 1) := by decide +kernel
theorem dX5_init_11 : decode cX5_init 11 = .ok (.bipush 6, 2) := by decide +kernel
theorem dX5_init_13 : decode cX5_init 13 = .ok (.putfield 15, 3) := by decide +kernel
theorem dX5_init_16 : decode cX5_init 16 = .ok (.aload_n 0, 1) := by decide +kernel
theorem dX5_init_17 : decode cX5_init 17 = .ok (.bipush 23, 2) := by decide +kernel
theorem dX5_init_19 : decode cX5_init 19 = .ok (.newarray .int, 2) := by decide +kernel
theorem dX5_init_21 : decode cX5_init 21 = .ok (.putfield 18, 3) := by decide +kernel
theorem dX5_init_24 : decode cX5_init 24 = .ok (.aload_n 0, 1) := by decide +kernel
theorem dX5_init_25 : decode cX5_init 25 = .ok (.bipush 6, 2) := by decide +kernel
theorem dX5_init_27 : decode cX5_init 27 = .ok (.anewarray 22, 3) := by decide +kernel
theorem dX5_init_30 : decode cX5_init 30 = .ok (.putfield 24, 3) := by decide +kernel
theorem dX5_init_33 : decode cX5_init 33 = .ok (.aload_n 0, 1) := by decide +kernel
theorem dX5_init_34 : decode cX5_init 34 = .ok (.iconst 5, 1) := by decide +kernel
theorem dX5_init_35 : decode cX5_init 35 = .ok (.anewarray 22, 3) := by decide +kernel
theorem dX5_init_38 : decode cX5_init 38 = .ok (.putfield 28, 3) := by decide +kernel
theorem dX5_init_41 : decode cX5_init 41 = .ok (.aload_n 0, 1) := by decide +kernel
theorem dX5_init_42 : decode cX5_init 42 = .ok (.new 22, 3) := by decide +kernel
theorem dX5_init_45 : decode cX5_init 45 = .ok (.dup, 1) := by decide +kernel
theorem dX5_init_46 : decode cX5_init 46 = .ok (.iconst 4, 1) := by decide +kernel
theorem dX5_init_47 : decode cX5_init 47 = .ok (.invokespecial 31, 3) := by decide +kernel
theorem dX5_init_50 : decode cX5_init 50 = .ok (.putfield 34, 3) := by decide +kernel
theorem dX5_init_53 : decode cX5_init 53 = .ok (.aload_n 0, 1) := by decide +kernel
theorem dX5_init_54 : decode cX5_init 54 = .ok (.new 22, 3) := by decide +kernel
theorem dX5_init_57 : decode cX5_init 57 = .ok (.dup, 1) := by decide +kernel
theorem dX5_init_58 : decode cX5_init 58 = .ok (.iconst 3, 1) := by decide +kernel
theorem dX5_init_59 : decode cX5_init 59 = .ok (.invokespecial 31, 3) := by decide +kernel
theorem dX5_init_62 : decode cX5_init 62 = .ok (.putfield 38, 3) := by decide +kernel
theorem dX5_init_65 : decode cX5_init 65 = .ok (.aload_n 0, 1) := by decide +kernel
theorem dX5_init_66 : decode cX5_init 66 = .ok (.new 22, 3) := by decide +kernel
theorem dX5_init_69 : decode cX5_init 69 = .ok (.dup, 1) := by decide +kernel
theorem dX5_init_70 : decode cX5_init 70 = .ok (.iconst 4, 1) := by decide +kernel
theorem dX5_init_71 : decode cX5_init 71 = .ok (.invokespecial 31, 3) := by decide +kernel
theorem dX5_init_74 : decode cX5_init 74 = .ok (.putfield 41, 3) := by decide +kernel
theorem dX5_init_77 : decode cX5_init 77 = .ok (.getstatic 44, 3) := by decide +kernel
theorem dX5_init_80 : decode cX5_init 80 = .ok (.iconst 0, 1) := by decide +kernel
theorem dX5_init_81 : decode cX5_init 81 = .ok (.aload_n 0, 1) := by decide +kernel
theorem dX5_init_82 : decode cX5_init 82 = .ok (.getfield 18, 3) := by decide +kernel
theorem dX5_init_85 : decode cX5_init 85 = .ok (.iconst 0, 1) := by decide +kernel
theorem dX5_init_86 : decode cX5_init 86 = .ok (.bipush 23, 2) := by decide +kernel
theorem dX5_init_88 : decode cX5_init 88 = .ok (.invokestatic 47, 3) := by decide +kernel
theorem dX5_init_91 : decode cX5_init 91 = .ok (.iconst 0, 1) := by decide +kernel
theorem dX5_init_92 : decode cX5_init 92 = .ok (.istore_n 1, 1) := by decide +kernel
theorem dX5_init_93 : decode cX5_init 93 = .ok (.iload_n 1, 1) := by decide +kernel
theorem dX5_init_94 : decode cX5_init 94 = .ok (.bipush 6, 2) := by decide +kernel
theorem dX5_init_96 : decode cX5_init 96 = .ok (.if_icmp .ge 24, 3) := by decide +kernel
theorem dX5_init_99 : decode cX5_init 99 = .ok (.aload_n 0, 1) := by decide +kernel
theorem dX5_init_100 : decode cX5_init 100 = .ok (.getfield 24, 3) := by decide +kernel
theorem dX5_init_103 : decode cX5_init 103 = .ok (.iload_n 1, 1) := by decide +kernel
theorem dX5_init_104 : decode cX5_init 104 = .ok (.new 22, 3) := by decide +kernel
theorem dX5_init_107 : decode cX5_init 107 = .ok (.dup, 1) := by decide +kernel
theorem dX5_init_108 : decode cX5_init 108 = .ok (.bipush 11, 2) := by decide +kernel
theorem dX5_init_110 : decode cX5_init 110 = .ok (.invokespecial 31, 3) := by decide +kernel
theorem dX5_init_113 : decode cX5_init 113 = .ok (.aastore, 1) := by decide +kernel
theorem dX5_init_114 : decode cX5_init 114 = .ok (.iinc 1 1, 3) := by decide +kernel
theorem dX5_init_117 : decode cX5_init 117 = .ok (.goto (-24), 3) := by decide +kernel
theorem dX5_init_120 : decode cX5_init 120 = .ok (.iconst 0, 1) := by decide +kernel
theorem dX5_init_121 : decode cX5_init 121 = .ok (.istore_n 1, 1) := by decide +kernel
theorem dX5_init_122 : decode cX5_init 122 = .ok (.iload_n 1, 1) := by decide +kernel
theorem dX5_init_123 : decode cX5_init 123 = .ok (.iconst 5, 1) := by decide +kernel
theorem dX5_init_124 : decode cX5_init 124 = .ok (.if_icmp .ge 23, 3) := by decide +kernel
theorem dX5_init_127 : decode cX5_init 127 = .ok (.aload_n 0, 1) := by decide +kernel
theorem dX5_init_128 : decode cX5_init 128 = .ok (.getfield 28, 3) := by decide +kernel
theorem dX5_init_131 : decode cX5_init 131 = .ok (.iload_n 1, 1) := by decide +kernel
theorem dX5_init_132 : decode cX5_init 132 = .ok (.new 22, 3) := by decide +kernel
theorem dX5_init_135 : decode cX5_init 135 = .ok (.dup, 1) := by decide +kernel
theorem dX5_init_136 : decode cX5_init 136 = .ok (.iconst 4, 1) := by decide +kernel
theorem dX5_init_137 : decode cX5_init 137 = .ok (.invokespecial 31, 3) := by decide +kernel
theorem dX5_init_140 : decode cX5_init 140 = .ok (.aastore, 1) := by decide +kernel
theorem dX5_init_141 : decode cX5_init 141 = .ok (.iinc 1 1, 3) := by decide +kernel
theorem dX5_init_144 : decode cX5_init 144 = .ok (.goto (-22), 3) := by decide +kernel
theorem dX5_init_147 : decode cX5_init 147 = .ok (.return_, 1) := by decide +kernel
theorem dX5_wayAt_0 : decode cX5_wayAt 0 = .ok (.iload_n 1, 1) := by decide +kernel
theorem dX5_wayAt_1 : decode cX5_wayAt 1 = .ok (.ifCond .lt 26, 3) := by decide +kernel
theorem dX5_wayAt_4 : decode cX5_wayAt 4 = .ok (.iload_n 1, 1) := by decide +kernel
theorem dX5_wayAt_5 : decode cX5_wayAt 5 = .ok (.aload_n 0, 1) := by decide +kernel
theorem dX5_wayAt_6 : decode cX5_wayAt 6 = .ok (.getfield 53, 3) := by decide +kernel
theorem dX5_wayAt_9 : decode cX5_wayAt 9 = .ok (.if_icmp .ge 18, 3) := by decide +kernel
theorem dX5_wayAt_12 : decode cX5_wayAt 12 = .ok (.iload_n 1, 1) := by decide +kernel
theorem dX5_wayAt_13 : decode cX5_wayAt 13 = .ok (.bipush 6, 2) := by decide +kernel
theorem dX5_wayAt_15 : decode cX5_wayAt 15 = .ok (.if_icmp .ge 12, 3) := by decide +kernel
theorem dX5_wayAt_18 : decode cX5_wayAt 18 = .ok (.aload_n 0, 1) := by decide +kernel
theorem dX5_wayAt_19 : decode cX5_wayAt 19 = .ok (.getfield 24, 3) := by decide +kernel
theorem dX5_wayAt_22 : decode cX5_wayAt 22 = .ok (.iload_n 1, 1) := by decide +kernel
theorem dX5_wayAt_23 : decode cX5_wayAt 23 = .ok (.aaload, 1) := by decide +kernel
theorem dX5_wayAt_24 : decode cX5_wayAt 24 = .ok (.goto 4, 3) := by decide +kernel
theorem dX5_wayAt_27 : decode cX5_wayAt 27 = .ok (.aconst_null, 1) := by decide +kernel
theorem dX5_wayAt_28 : decode cX5_wayAt 28 = .ok (.areturn, 1) := by decide +kernel
theorem dX5_handAt_0 : decode cX5_handAt 0 = .ok (.iload_n 1, 1) := by decide +kernel
theorem dX5_handAt_1 : decode cX5_handAt 1 = .ok (.ifCond .lt 25, 3) := by decide +kernel
theorem dX5_handAt_4 : decode cX5_handAt 4 = .ok (.iload_n 1, 1) := by decide +kernel
theorem dX5_handAt_5 : decode cX5_handAt 5 = .ok (.aload_n 0, 1) := by decide +kernel
theorem dX5_handAt_6 : decode cX5_handAt 6 = .ok (.getfield 56, 3) := by decide +kernel
theorem dX5_handAt_9 : decode cX5_handAt 9 = .ok (.if_icmp .ge 17, 3) := by decide +kernel
theorem dX5_handAt_12 : decode cX5_handAt 12 = .ok (.iload_n 1, 1) := by decide +kernel
theorem dX5_handAt_13 : decode cX5_handAt 13 = .ok (.iconst 5, 1) := by decide +kernel
theorem dX5_handAt_14 : decode cX5_handAt 14 = .ok (.if_icmp .ge 12, 3) := by decide +kernel
theorem dX5_handAt_17 : decode cX5_handAt 17 = .ok (.aload_n 0, 1) := by decide +kernel
theorem dX5_handAt_18 : decode cX5_handAt 18 = .ok (.getfield 28, 3) := by decide +kernel
theorem dX5_handAt_21 : decode cX5_handAt 21 = .ok (.iload_n 1, 1) := by decide +kernel
theorem dX5_handAt_22 : decode cX5_handAt 22 = .ok (.aaload, 1) := by decide +kernel
theorem dX5_handAt_23 : decode cX5_handAt 23 = .ok (.goto 4, 3) := by decide +kernel
theorem dX5_handAt_26 : decode cX5_handAt 26 = .ok (.aconst_null, 1) := by decide +kernel
theorem dX5_handAt_27 : decode cX5_handAt 27 = .ok (.areturn, 1) := by decide +kernel
theorem dX5_addWay_0 : decode cX5_addWay 0 = .ok (.aload_n 0, 1) := by decide +kernel
theorem dX5_addWay_1 : decode cX5_addWay 1 = .ok (.getfield 53, 3) := by decide +kernel
theorem dX5_addWay_4 : decode cX5_addWay 4 = .ok (.istore_n 2, 1) := by decide +kernel
theorem dX5_addWay_5 : decode cX5_addWay 5 = .ok (.iload_n 2, 1) := by decide +kernel
theorem dX5_addWay_6 : decode cX5_addWay 6 = .ok (.ifCond .lt 9, 3) := by decide +kernel
theorem dX5_addWay_9 : decode cX5_addWay 9 = .ok (.iload_n 2, 1) := by decide +kernel
theorem dX5_addWay_10 : decode cX5_addWay 10 = .ok (.bipush 6, 2) := by decide +kernel
theorem dX5_addWay_12 : decode cX5_addWay 12 = .ok (.if_icmp .lt 5, 3) := by decide +kernel
theorem dX5_addWay_15 : decode cX5_addWay 15 = .ok (.iconst (-1), 1) := by decide +kernel
theorem dX5_addWay_16 : decode cX5_addWay 16 = .ok (.ireturn, 1) := by decide +kernel
theorem dX5_addWay_17 : decode cX5_addWay 17 = .ok (.aload_n 0, 1) := by decide +kernel
theorem dX5_addWay_18 : decode cX5_addWay 18 = .ok (.getfield 24, 3) := by decide +kernel
theorem dX5_addWay_21 : decode cX5_addWay 21 = .ok (.iload_n 2, 1) := by decide +kernel
theorem dX5_addWay_22 : decode cX5_addWay 22 = .ok (.aaload, 1) := by decide +kernel
theorem dX5_addWay_23 : decode cX5_addWay 23 = .ok (.aload_n 1, 1) := by decide +kernel
theorem dX5_addWay_24 : decode cX5_addWay 24 = .ok (.invokevirtual 59, 3) := by decide +kernel
theorem dX5_addWay_27 : decode cX5_addWay 27 = .ok (.aload_n 0, 1) := by decide +kernel
theorem dX5_addWay_28 : decode cX5_addWay 28 = .ok (.iload_n 2, 1) := by decide +kernel
theorem dX5_addWay_29 : decode cX5_addWay 29 = .ok (.iconst 1, 1) := by decide +kernel
theorem dX5_addWay_30 : decode cX5_addWay 30 = .ok (.iadd, 1) := by decide +kernel
theorem dX5_addWay_31 : decode cX5_addWay 31 = .ok (.putfield 53, 3) := by decide +kernel
theorem dX5_addWay_34 : decode cX5_addWay 34 = .ok (.iload_n 2, 1) := by decide +kernel
theorem dX5_addWay_35 : decode cX5_addWay 35 = .ok (.ireturn, 1) := by decide +kernel
theorem dX5_addHand_0 : decode cX5_addHand 0 = .ok (.aload_n 0, 1) := by decide +kernel
theorem dX5_addHand_1 : decode cX5_addHand 1 = .ok (.getfield 56, 3) := by decide +kernel
theorem dX5_addHand_4 : decode cX5_addHand 4 = .ok (.istore_n 1, 1) := by decide +kernel
theorem dX5_addHand_5 : decode cX5_addHand 5 = .ok (.iload_n 1, 1) := by decide +kernel
theorem dX5_addHand_6 : decode cX5_addHand 6 = .ok (.ifCond .lt 8, 3) := by decide +kernel
theorem dX5_addHand_9 : decode cX5_addHand 9 = .ok (.iload_n 1, 1) := by decide +kernel
theorem dX5_addHand_10 : decode cX5_addHand 10 = .ok (.iconst 5, 1) := by decide +kernel
theorem dX5_addHand_11 : decode cX5_addHand 11 = .ok (.if_icmp .lt 5, 3) := by decide +kernel
theorem dX5_addHand_14 : decode cX5_addHand 14 = .ok (.iconst (-1), 1) := by decide +kernel
theorem dX5_addHand_15 : decode cX5_addHand 15 = .ok (.ireturn, 1) := by decide +kernel
theorem dX5_addHand_16 : decode cX5_addHand 16 = .ok (.aload_n 0, 1) := by decide +kernel
theorem dX5_addHand_17 : decode cX5_addHand 17 = .ok (.getfield 28, 3) := by decide +kernel
theorem dX5_addHand_20 : decode cX5_addHand 20 = .ok (.iload_n 1, 1) := by decide +kernel
theorem dX5_addHand_21 : decode cX5_addHand 21 = .ok (.aaload, 1) := by decide +kernel
theorem dX5_addHand_22 : decode cX5_addHand 22 = .ok (.iconst 0, 1) := by decide +kernel
theorem dX5_addHand_23 : decode cX5_addHand 23 = .ok (.putfield 63, 3) := by decide +kernel
theorem dX5_addHand_26 : decode cX5_addHand 26 = .ok (.aload_n 0, 1) := by decide +kernel
theorem dX5_addHand_27 : decode cX5_addHand 27 = .ok (.iload_n 1, 1) := by decide +kernel
theorem dX5_addHand_28 : decode cX5_addHand 28 = .ok (.iconst 1, 1) := by decide +kernel
theorem dX5_addHand_29 : decode cX5_addHand 29 = .ok (.iadd, 1) := by decide +kernel
theorem dX5_addHand_30 : decode cX5_addHand 30 = .ok (.putfield 56, 3) := by decide +kernel
theorem dX5_addHand_33 : decode cX5_addHand 33 = .ok (.iload_n 1, 1) := by decide +kernel
theorem dX5_addHand_34 : decode cX5_addHand 34 = .ok (.ireturn, 1) := by decide +kernel
theorem dX5_copyFrom_0 : decode cX5_copyFrom 0 = .ok (.aload_n 0, 1) := by decide +kernel
theorem dX5_copyFrom_1 : decode cX5_copyFrom 1 = .ok (.aload_n 1, 1) := by decide +kernel
theorem dX5_copyFrom_2 : decode cX5_copyFrom 2 = .ok (.getfield 9, 3) := by decide +kernel
theorem dX5_copyFrom_5 : decode cX5_copyFrom 5 = .ok (.putfield 9, 3) := by decide +kernel
theorem dX5_copyFrom_8 : decode cX5_copyFrom 8 = .ok (.aload_n 0, 1) := by decide +kernel
theorem dX5_copyFrom_9 : decode cX5_copyFrom 9 = .ok (.aload_n 1, 1) := by decide +kernel
theorem dX5_copyFrom_10 : decode cX5_copyFrom 10 = .ok (.getfield 15, 3) := by decide +kernel
theorem dX5_copyFrom_13 : decode cX5_copyFrom 13 = .ok (.putfield 15, 3) := by decide +kernel
theorem dX5_copyFrom_16 : decode cX5_copyFrom 16 = .ok (.aload_n 0, 1) := by decide +kernel
theorem dX5_copyFrom_17 : decode cX5_copyFrom 17 = .ok (.aload_n 1, 1) := by decide +kernel
theorem dX5_copyFrom_18 : decode cX5_copyFrom 18 = .ok (.getfield 66, 3) := by decide +kernel
theorem dX5_copyFrom_21 : decode cX5_copyFrom 21 = .ok (.putfield 66, 3) := by decide +kernel
theorem dX5_copyFrom_24 : decode cX5_copyFrom 24 = .ok (.aload_n 1, 1) := by decide +kernel
theorem dX5_copyFrom_25 : decode cX5_copyFrom 25 = .ok (.getfield 18, 3) := by decide +kernel
theorem dX5_copyFrom_28 : decode cX5_copyFrom 28 = .ok (.iconst 0, 1) := by decide +kernel
theorem dX5_copyFrom_29 : decode cX5_copyFrom 29 = .ok (.aload_n 0, 1) := by decide +kernel
theorem dX5_copyFrom_30 : decode cX5_copyFrom 30 = .ok (.getfield 18, 3) := by decide +kernel
theorem dX5_copyFrom_33 : decode cX5_copyFrom 33 = .ok (.iconst 0, 1) := by decide +kernel
theorem dX5_copyFrom_34 : decode cX5_copyFrom 34 = .ok (.bipush 23, 2) := by decide +kernel
theorem dX5_copyFrom_36 : decode cX5_copyFrom 36 = .ok (.invokestatic 47, 3) := by decide +kernel
theorem dX5_copyFrom_39 : decode cX5_copyFrom 39 = .ok (.iconst 0, 1) := by decide +kernel
theorem dX5_copyFrom_40 : decode cX5_copyFrom 40 = .ok (.istore_n 2, 1) := by decide +kernel
theorem dX5_copyFrom_41 : decode cX5_copyFrom 41 = .ok (.iload_n 2, 1) := by decide +kernel
theorem dX5_copyFrom_42 : decode cX5_copyFrom 42 = .ok (.bipush 6, 2) := by decide +kernel
theorem dX5_copyFrom_44 : decode cX5_copyFrom 44 = .ok (.if_icmp .ge 24, 3) := by decide +kernel
theorem dX5_copyFrom_47 : decode cX5_copyFrom 47 = .ok (.aload_n 0, 1) := by decide +kernel
theorem dX5_copyFrom_48 : decode cX5_copyFrom 48 = .ok (.getfield 24, 3) := by decide +kernel
theorem dX5_copyFrom_51 : decode cX5_copyFrom 51 = .ok (.iload_n 2, 1) := by decide +kernel
theorem dX5_copyFrom_52 : decode cX5_copyFrom 52 = .ok (.aaload, 1) := by decide +kernel
theorem dX5_copyFrom_53 : decode cX5_copyFrom 53 = .ok (.aload_n 1, 1) := by decide +kernel
theorem dX5_copyFrom_54 : decode cX5_copyFrom 54 = .ok (.getfield 24, 3) := by decide +kernel
theorem dX5_copyFrom_57 : decode cX5_copyFrom 57 = .ok (.iload_n 2, 1) := by decide +kernel
theorem dX5_copyFrom_58 : decode cX5_copyFrom 58 = .ok (.aaload, 1) := by decide +kernel
theorem dX5_copyFrom_59 : decode cX5_copyFrom 59 = .ok (.invokevirtual 59, 3) := by decide +kernel
theorem dX5_copyFrom_62 : decode cX5_copyFrom 62 = .ok (.iinc 2 1, 3) := by decide +kernel
theorem dX5_copyFrom_65 : decode cX5_copyFrom 65 = .ok (.goto (-24), 3) := by decide +kernel
theorem dX5_copyFrom_68 : decode cX5_copyFrom 68 = .ok (.aload_n 0, 1) := by decide +kernel
theorem dX5_copyFrom_69 : decode cX5_copyFrom 69 = .ok (.aload_n 1, 1) := by decide +kernel
theorem dX5_copyFrom_70 : decode cX5_copyFrom 70 = .ok (.getfield 53, 3) := by decide +kernel
theorem dX5_copyFrom_73 : decode cX5_copyFrom 73 = .ok (.putfield 53, 3) := by decide +kernel
theorem dX5_copyFrom_76 : decode cX5_copyFrom 76 = .ok (.iconst 0, 1) := by decide +kernel
theorem dX5_copyFrom_77 : decode cX5_copyFrom 77 = .ok (.istore_n 2, 1) := by decide +kernel
theorem dX5_copyFrom_78 : decode cX5_copyFrom 78 = .ok (.iload_n 2, 1) := by decide +kernel
theorem dX5_copyFrom_79 : decode cX5_copyFrom 79 = .ok (.iconst 5, 1) := by decide +kernel
theorem dX5_copyFrom_80 : decode cX5_copyFrom 80 = .ok (.if_icmp .ge 24, 3) := by decide +kernel
theorem dX5_copyFrom_83 : decode cX5_copyFrom 83 = .ok (.aload_n 0, 1) := by decide +kernel
theorem dX5_copyFrom_84 : decode cX5_copyFrom 84 = .ok (.getfield 28, 3) := by decide +kernel
theorem dX5_copyFrom_87 : decode cX5_copyFrom 87 = .ok (.iload_n 2, 1) := by decide +kernel
theorem dX5_copyFrom_88 : decode cX5_copyFrom 88 = .ok (.aaload, 1) := by decide +kernel
theorem dX5_copyFrom_89 : decode cX5_copyFrom 89 = .ok (.aload_n 1, 1) := by decide +kernel
theorem dX5_copyFrom_90 : decode cX5_copyFrom 90 = .ok (.getfield 28, 3) := by decide +kernel
theorem dX5_copyFrom_93 : decode cX5_copyFrom 93 = .ok (.iload_n 2, 1) := by decide +kernel
theorem dX5_copyFrom_94 : decode cX5_copyFrom 94 = .ok (.aaload, 1) := by decide +kernel
theorem dX5_copyFrom_95 : decode cX5_copyFrom 95 = .ok (.invokevirtual 59, 3) := by decide +kernel
theorem dX5_copyFrom_98 : decode cX5_copyFrom 98 = .ok (.iinc 2 1, 3) := by decide +kernel
theorem dX5_copyFrom_101 : decode cX5_copyFrom 101 = .ok (.goto (-23), 3) := by decide +kernel
theorem dX5_copyFrom_104 : decode cX5_copyFrom 104 = .ok (.aload_n 0, 1) := by decide +kernel
theorem dX5_copyFrom_105 : decode cX5_copyFrom 105 = .ok (.aload_n 1, 1) := by decide +kernel
theorem dX5_copyFrom_106 : decode cX5_copyFrom 106 = .ok (.getfield 56, 3) := by decide +kernel
theorem dX5_copyFrom_109 : decode cX5_copyFrom 109 = .ok (.putfield 56, 3) := by decide +kernel
theorem dX5_copyFrom_112 : decode cX5_copyFrom 112 = .ok (.aload_n 0, 1) := by decide +kernel
theorem dX5_copyFrom_113 : decode cX5_copyFrom 113 = .ok (.getfield 34, 3) := by decide +kernel
theorem dX5_copyFrom_116 : decode cX5_copyFrom 116 = .ok (.aload_n 1, 1) := by decide +kernel
theorem dX5_copyFrom_117 : decode cX5_copyFrom 117 = .ok (.getfield 34, 3) := by decide +kernel
theorem dX5_copyFrom_120 : decode cX5_copyFrom 120 = .ok (.invokevirtual 59, 3) := by decide +kernel
theorem dX5_copyFrom_123 : decode cX5_copyFrom 123 = .ok (.aload_n 0, 1) := by decide +kernel
theorem dX5_copyFrom_124 : decode cX5_copyFrom 124 = .ok (.getfield 38, 3) := by decide +kernel
theorem dX5_copyFrom_127 : decode cX5_copyFrom 127 = .ok (.aload_n 1, 1) := by decide +kernel
theorem dX5_copyFrom_128 : decode cX5_copyFrom 128 = .ok (.getfield 38, 3) := by decide +kernel
theorem dX5_copyFrom_131 : decode cX5_copyFrom 131 = .ok (.invokevirtual 59, 3) := by decide +kernel
theorem dX5_copyFrom_134 : decode cX5_copyFrom 134 = .ok (.aload_n 0, 1) := by decide +kernel
theorem dX5_copyFrom_135 : decode cX5_copyFrom 135 = .ok (.getfield 41, 3) := by decide +kernel
theorem dX5_copyFrom_138 : decode cX5_copyFrom 138 = .ok (.aload_n 1, 1) := by decide +kernel
theorem dX5_copyFrom_139 : decode cX5_copyFrom 139 = .ok (.getfield 41, 3) := by decide +kernel
theorem dX5_copyFrom_142 : decode cX5_copyFrom 142 = .ok (.invokevirtual 59, 3) := by decide +kernel
theorem dX5_copyFrom_145 : decode cX5_copyFrom 145 = .ok (.return_, 1) := by decide +kernel
