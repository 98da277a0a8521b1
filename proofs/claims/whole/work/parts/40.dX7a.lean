theorem dX7_init_0 : decode cX7_init 0 = .ok (.aload_n 0, 1) := by decide +kernel
theorem dX7_init_1 : decode cX7_init 1 = .ok (.invokespecial 3, 3) := by decide +kernel
theorem dX7_init_4 : decode cX7_init 4 = .ok (.aload_n 0, 1) := by decide +kernel
theorem dX7_init_5 : decode cX7_init 5 = .ok (.new 9, 3) := by decide +kernel
theorem dX7_init_8 : decode cX7_init 8 = .ok (.dup, 1) := by decide +kernel
theorem dX7_init_9 : decode cX7_init 9 = .ok (.invokespecial 11, 3) := by decide +kernel
theorem dX7_init_12 : decode cX7_init 12 = .ok (.putfield 12, 3) := by decide +kernel
theorem dX7_init_15 : decode cX7_init 15 = .ok (.aload_n 0, 1) := by decide +kernel
theorem dX7_init_16 : decode cX7_init 16 = .ok (.iconst 3, 1) := by decide +kernel
theorem dX7_init_17 : decode cX7_init 17 = .ok (.anewarray 9, 3) := by decide +kernel
theorem dX7_init_20 : decode cX7_init 20 = .ok (.putfield 16, 3) := by decide +kernel
theorem dX7_init_23 : decode cX7_init 23 = .ok (.aload_n 0, 1) := by decide +kernel
theorem dX7_init_24 : decode cX7_init 24 = .ok (.new 20, 3) := by decide +kernel
theorem dX7_init_27 : decode cX7_init 27 = .ok (.dup, 1) := by decide +kernel
theorem dX7_init_28 : decode cX7_init 28 = .ok (.invokespecial 22, 3) := by decide +kernel
theorem dX7_init_31 : decode cX7_init 31 = .ok (.putfield 23, 3) := by decide +kernel
theorem dX7_init_34 : decode cX7_init 34 = .ok (.aload_n 0, 1) := by decide +kernel
theorem dX7_init_35 : decode cX7_init 35 = .ok (.iconst 4, 1) := by decide +kernel
theorem dX7_init_36 : decode cX7_init 36 = .ok (.anewarray 27, 3) := by decide +kernel
theorem dX7_init_39 : decode cX7_init 39 = .ok (.putfield 29, 3) := by decide +kernel
theorem dX7_init_42 : decode cX7_init 42 = .ok (.aload_n 0, 1) := by decide +kernel
theorem dX7_init_43 : decode cX7_init 43 = .ok (.new 33, 3) := by decide +kernel
theorem dX7_init_46 : decode cX7_init 46 = .ok (.dup, 1) := by decide +kernel
theorem dX7_init_47 : decode cX7_init 47 = .ok (.invokespecial 35, 3) := by decide +kernel
theorem dX7_init_50 : decode cX7_init 50 = .ok (.putfield 36, 3) := by decide +kernel
theorem dX7_init_53 : decode cX7_init 53 = .ok (.aload_n 0, 1) := by decide +kernel
theorem dX7_init_54 : decode cX7_init 54 = .ok (.new 33, 3) := by decide +kernel
theorem dX7_init_57 : decode cX7_init 57 = .ok (.dup, 1) := by decide +kernel
theorem dX7_init_58 : decode cX7_init 58 = .ok (.invokespecial 35, 3) := by decide +kernel
theorem dX7_init_61 : decode cX7_init 61 = .ok (.putfield 40, 3) := by decide +kernel
theorem dX7_init_64 : decode cX7_init 64 = .ok (.aload_n 0, 1) := by decide +kernel
theorem dX7_init_65 : decode cX7_init 65 = .ok (.new 43, 3) := by decide +kernel
theorem dX7_init_68 : decode cX7_init 68 = .ok (.dup, 1) := by decide +kernel
theorem dX7_init_69 : decode cX7_init 69 = .ok (.aload_n 0, 1) := by decide +kernel
theorem dX7_init_70 : decode cX7_init 70 = .ok (.getfield 12, 3) := by decide +kernel
theorem dX7_init_73 : decode cX7_init 73 = .ok (.aload_n 0, 1) := by decide +kernel
theorem dX7_init_74 : decode cX7_init 74 = .ok (.getfield 36, 3) := by decide +kernel
theorem dX7_init_77 : decode cX7_init 77 = .ok (.invokespecial 45, 3) := by decide +kernel
theorem dX7_init_80 : decode cX7_init 80 = .ok (.putfield 48, 3) := by decide +kernel
theorem dX7_init_83 : decode cX7_init 83 = .ok (.aload_n 0, 1) := by decide +kernel
theorem dX7_init_84 : decode cX7_init 84 = .ok (.new 52, 3) := by decide +kernel
theorem dX7_init_87 : decode cX7_init 87 = .ok (.dup, 1) := by decide +kernel
theorem dX7_init_88 : decode cX7_init 88 = .ok (.bipush 11, 2) := by decide +kernel
theorem dX7_init_90 : decode cX7_init 90 = .ok (.invokespecial 54, 3) := by decide +kernel
theorem dX7_init_93 : decode cX7_init 93 = .ok (.putfield 57, 3) := by decide +kernel
theorem dX7_init_96 : decode cX7_init 96 = .ok (.aload_n 0, 1) := by decide +kernel
theorem dX7_init_97 : decode cX7_init 97 = .ok (.bipush 23, 2) := by decide +kernel
theorem dX7_init_99 : decode cX7_init 99 = .ok (.newarray .int, 2) := by decide +kernel
theorem dX7_init_101 : decode cX7_init 101 = .ok (.putfield 61, 3) := by decide +kernel
theorem dX7_init_104 : decode cX7_init 104 = .ok (.aload_n 0, 1) := by decide +kernel
theorem dX7_init_105 : decode cX7_init 105 = .ok (.new 65, 3) := by decide +kernel
theorem dX7_init_108 : decode cX7_init 108 = .ok (.dup, 1) := by decide +kernel
theorem dX7_init_109 : decode cX7_init 109 = .ok (.invokespecial 67, 3) := by decide +kernel
theorem dX7_init_112 : decode cX7_init 112 = .ok (.putfield 68, 3) := by decide +kernel
theorem dX7_init_115 : decode cX7_init 115 = .ok (.aload_n 0, 1) := by decide +kernel
theorem dX7_init_116 : decode cX7_init 116 = .ok (.bipush 16, 2) := by decide +kernel
theorem dX7_init_118 : decode cX7_init 118 = .ok (.newarray .int, 2) := by decide +kernel
theorem dX7_init_120 : decode cX7_init 120 = .ok (.putfield 72, 3) := by decide +kernel
theorem dX7_init_123 : decode cX7_init 123 = .ok (.iconst 0, 1) := by decide +kernel
theorem dX7_init_124 : decode cX7_init 124 = .ok (.istore_n 1, 1) := by decide +kernel
theorem dX7_init_125 : decode cX7_init 125 = .ok (.iload_n 1, 1) := by decide +kernel
theorem dX7_init_126 : decode cX7_init 126 = .ok (.iconst 4, 1) := by decide +kernel
theorem dX7_init_127 : decode cX7_init 127 = .ok (.if_icmp .ge 22, 3) := by decide +kernel
theorem dX7_init_130 : decode cX7_init 130 = .ok (.aload_n 0, 1) := by decide +kernel
theorem dX7_init_131 : decode cX7_init 131 = .ok (.getfield 29, 3) := by decide +kernel
theorem dX7_init_134 : decode cX7_init 134 = .ok (.iload_n 1, 1) := by decide +kernel
theorem dX7_init_135 : decode cX7_init 135 = .ok (.new 27, 3) := by decide +kernel
theorem dX7_init_138 : decode cX7_init 138 = .ok (.dup, 1) := by decide +kernel
theorem dX7_init_139 : decode cX7_init 139 = .ok (.invokespecial 75, 3) := by decide +kernel
theorem dX7_init_142 : decode cX7_init 142 = .ok (.aastore, 1) := by decide +kernel
theorem dX7_init_143 : decode cX7_init 143 = .ok (.iinc 1 1, 3) := by decide +kernel
theorem dX7_init_146 : decode cX7_init 146 = .ok (.goto (-21), 3) := by decide +kernel
theorem dX7_init_149 : decode cX7_init 149 = .ok (.return_, 1) := by decide +kernel
theorem dX7_sheet_0 : decode cX7_sheet 0 = .ok (.iload_n 1, 1) := by decide +kernel
theorem dX7_sheet_1 : decode cX7_sheet 1 = .ok (.iconst 4, 1) := by decide +kernel
theorem dX7_sheet_2 : decode cX7_sheet 2 = .ok (.bipush 24, 2) := by decide +kernel
theorem dX7_sheet_4 : decode cX7_sheet 4 = .ok (.invokestatic 76, 3) := by decide +kernel
theorem dX7_sheet_7 : decode cX7_sheet 7 = .ok (.iload_n 2, 1) := by decide +kernel
theorem dX7_sheet_8 : decode cX7_sheet 8 = .ok (.iconst 3, 1) := by decide +kernel
theorem dX7_sheet_9 : decode cX7_sheet 9 = .ok (.bipush 12, 2) := by decide +kernel
theorem dX7_sheet_11 : decode cX7_sheet 11 = .ok (.invokestatic 76, 3) := by decide +kernel
theorem dX7_sheet_14 : decode cX7_sheet 14 = .ok (.aload_n 0, 1) := by decide +kernel
theorem dX7_sheet_15 : decode cX7_sheet 15 = .ok (.getfield 12, 3) := by decide +kernel
theorem dX7_sheet_18 : decode cX7_sheet 18 = .ok (.iload_n 1, 1) := by decide +kernel
theorem dX7_sheet_19 : decode cX7_sheet 19 = .ok (.putfield 80, 3) := by decide +kernel
theorem dX7_sheet_22 : decode cX7_sheet 22 = .ok (.aload_n 0, 1) := by decide +kernel
theorem dX7_sheet_23 : decode cX7_sheet 23 = .ok (.getfield 12, 3) := by decide +kernel
theorem dX7_sheet_26 : decode cX7_sheet 26 = .ok (.iload_n 2, 1) := by decide +kernel
theorem dX7_sheet_27 : decode cX7_sheet 27 = .ok (.putfield 84, 3) := by decide +kernel
theorem dX7_sheet_30 : decode cX7_sheet 30 = .ok (.return_, 1) := by decide +kernel
theorem dX7_feed_0 : decode cX7_feed 0 = .ok (.aload_n 0, 1) := by decide +kernel
theorem dX7_feed_1 : decode cX7_feed 1 = .ok (.getfield 23, 3) := by decide +kernel
theorem dX7_feed_4 : decode cX7_feed 4 = .ok (.getfield 87, 3) := by decide +kernel
theorem dX7_feed_7 : decode cX7_feed 7 = .ok (.bipush 20, 2) := by decide +kernel
theorem dX7_feed_9 : decode cX7_feed 9 = .ok (.iadd, 1) := by decide +kernel
theorem dX7_feed_10 : decode cX7_feed 10 = .ok (.sipush 400, 3) := by decide +kernel
theorem dX7_feed_13 : decode cX7_feed 13 = .ok (.if_icmp .le 5, 3) := by decide +kernel
theorem dX7_feed_16 : decode cX7_feed 16 = .ok (.iconst (-1), 1) := by decide +kernel
theorem dX7_feed_17 : decode cX7_feed 17 = .ok (.ireturn, 1) := by decide +kernel
theorem dX7_feed_18 : decode cX7_feed 18 = .ok (.aload_n 0, 1) := by decide +kernel
theorem dX7_feed_19 : decode cX7_feed 19 = .ok (.getfield 23, 3) := by decide +kernel
theorem dX7_feed_22 : decode cX7_feed 22 = .ok (.iload_n 1, 1) := by decide +kernel
theorem dX7_feed_23 : decode cX7_feed 23 = .ok (.invokevirtual 90, 3) := by decide +kernel
theorem dX7_feed_26 : decode cX7_feed 26 = .ok (.aload_n 0, 1) := by decide +kernel
theorem dX7_feed_27 : decode cX7_feed 27 = .ok (.getfield 23, 3) := by decide +kernel
theorem dX7_feed_30 : decode cX7_feed 30 = .ok (.iload_n 2, 1) := by decide +kernel
theorem dX7_feed_31 : decode cX7_feed 31 = .ok (.invokevirtual 90, 3) := by decide +kernel
theorem dX7_feed_34 : decode cX7_feed 34 = .ok (.aload_n 0, 1) := by decide +kernel
theorem dX7_feed_35 : decode cX7_feed 35 = .ok (.getfield 23, 3) := by decide +kernel
theorem dX7_feed_38 : decode cX7_feed 38 = .ok (.iload_n 3, 1) := by decide +kernel
theorem dX7_feed_39 : decode cX7_feed 39 = .ok (.invokevirtual 90, 3) := by decide +kernel
theorem dX7_feed_42 : decode cX7_feed 42 = .ok (.aload_n 0, 1) := by decide +kernel
theorem dX7_feed_43 : decode cX7_feed 43 = .ok (.getfield 23, 3) := by decide +kernel
theorem dX7_feed_46 : decode cX7_feed 46 = .ok (.iload 4, 2) := by decide +kernel
theorem dX7_feed_48 : decode cX7_feed 48 = .ok (.invokevirtual 90, 3) := by decide +kernel
theorem dX7_feed_51 : decode cX7_feed 51 = .ok (.aload_n 0, 1) := by decide +kernel
theorem dX7_feed_52 : decode cX7_feed 52 = .ok (.getfield 23, 3) := by decide +kernel
theorem dX7_feed_55 : decode cX7_feed 55 = .ok (.iload 5, 2) := by decide +kernel
theorem dX7_feed_57 : decode cX7_feed 57 = .ok (.invokevirtual 90, 3) := by decide +kernel
theorem dX7_feed_60 : decode cX7_feed 60 = .ok (.aload_n 0, 1) := by decide +kernel
theorem dX7_feed_61 : decode cX7_feed 61 = .ok (.getfield 23, 3) := by decide +kernel
theorem dX7_feed_64 : decode cX7_feed 64 = .ok (.getfield 87, 3) := by decide +kernel
theorem dX7_feed_67 : decode cX7_feed 67 = .ok (.ireturn, 1) := by decide +kernel
theorem dX7_way_0 : decode cX7_way 0 = .ok (.iload_n 1, 1) := by decide +kernel
theorem dX7_way_1 : decode cX7_way 1 = .ok (.iconst 0, 1) := by decide +kernel
theorem dX7_way_2 : decode cX7_way 2 = .ok (.aload_n 0, 1) := by decide +kernel
theorem dX7_way_3 : decode cX7_way 3 = .ok (.getfield 23, 3) := by decide +kernel
theorem dX7_way_6 : decode cX7_way 6 = .ok (.getfield 87, 3) := by decide +kernel
theorem dX7_way_9 : decode cX7_way 9 = .ok (.invokestatic 76, 3) := by decide +kernel
theorem dX7_way_12 : decode cX7_way 12 = .ok (.aload_n 0, 1) := by decide +kernel
theorem dX7_way_13 : decode cX7_way 13 = .ok (.getfield 12, 3) := by decide +kernel
theorem dX7_way_16 : decode cX7_way 16 = .ok (.getfield 93, 3) := by decide +kernel
theorem dX7_way_19 : decode cX7_way 19 = .ok (.bipush 6, 2) := by decide +kernel
theorem dX7_way_21 : decode cX7_way 21 = .ok (.if_icmp .lt 5, 3) := by decide +kernel
theorem dX7_way_24 : decode cX7_way 24 = .ok (.iconst (-1), 1) := by decide +kernel
theorem dX7_way_25 : decode cX7_way 25 = .ok (.ireturn, 1) := by decide +kernel
theorem dX7_way_26 : decode cX7_way 26 = .ok (.aload_n 0, 1) := by decide +kernel
theorem dX7_way_27 : decode cX7_way 27 = .ok (.getfield 23, 3) := by decide +kernel
theorem dX7_way_30 : decode cX7_way 30 = .ok (.iload_n 1, 1) := by decide +kernel
theorem dX7_way_31 : decode cX7_way 31 = .ok (.aload_n 0, 1) := by decide +kernel
theorem dX7_way_32 : decode cX7_way 32 = .ok (.getfield 57, 3) := by decide +kernel
theorem dX7_way_35 : decode cX7_way 35 = .ok (.invokevirtual 96, 3) := by decide +kernel
theorem dX7_way_38 : decode cX7_way 38 = .ok (.ifCond .ne 14, 3) := by decide +kernel
theorem dX7_way_41 : decode cX7_way 41 = .ok (.bipush (-10), 2) := by decide +kernel
theorem dX7_way_43 : decode cX7_way 43 = .ok (.aload_n 0, 1) := by decide +kernel
theorem dX7_way_44 : decode cX7_way 44 = .ok (.getfield 23, 3) := by decide +kernel
theorem dX7_way_47 : decode cX7_way 47 = .ok (.getfield 100, 3) := by decide +kernel
theorem dX7_way_50 : decode cX7_way 50 = .ok (.isub, 1) := by decide +kernel
theorem dX7_way_51 : decode cX7_way 51 = .ok (.ireturn, 1) := by decide +kernel
theorem dX7_way_52 : decode cX7_way 52 = .ok (.aload_n 0, 1) := by decide +kernel
theorem dX7_way_53 : decode cX7_way 53 = .ok (.getfield 12, 3) := by decide +kernel
theorem dX7_way_56 : decode cX7_way 56 = .ok (.aload_n 0, 1) := by decide +kernel
theorem dX7_way_57 : decode cX7_way 57 = .ok (.getfield 57, 3) := by decide +kernel
theorem dX7_way_60 : decode cX7_way 60 = .ok (.invokevirtual 103, 3) := by decide +kernel
theorem dX7_way_63 : decode cX7_way 63 = .ok (.ireturn, 1) := by decide +kernel
theorem dX7_law_0 : decode cX7_law 0 = .ok (.iload_n 1, 1) := by decide +kernel
theorem dX7_law_1 : decode cX7_law 1 = .ok (.iconst 0, 1) := by decide +kernel
theorem dX7_law_2 : decode cX7_law 2 = .ok (.aload_n 0, 1) := by decide +kernel
theorem dX7_law_3 : decode cX7_law 3 = .ok (.getfield 23, 3) := by decide +kernel
theorem dX7_law_6 : decode cX7_law 6 = .ok (.getfield 87, 3) := by decide +kernel
theorem dX7_law_9 : decode cX7_law 9 = .ok (.invokestatic 76, 3) := by decide +kernel
theorem dX7_law_12 : decode cX7_law 12 = .ok (.getstatic 107, 3) := by decide +kernel
theorem dX7_law_15 : decode cX7_law 15 = .ok (.iconst 0, 1) := by decide +kernel
theorem dX7_law_16 : decode cX7_law 16 = .ok (.aload_n 0, 1) := by decide +kernel
theorem dX7_law_17 : decode cX7_law 17 = .ok (.getfield 61, 3) := by decide +kernel
theorem dX7_law_20 : decode cX7_law 20 = .ok (.iconst 0, 1) := by decide +kernel
theorem dX7_law_21 : decode cX7_law 21 = .ok (.bipush 23, 2) := by decide +kernel
theorem dX7_law_23 : decode cX7_law 23 = .ok (.invokestatic 110, 3) := by decide +kernel
theorem dX7_law_26 : decode cX7_law 26 = .ok (.aload_n 0, 1) := by decide +kernel
theorem dX7_law_27 : decode cX7_law 27 = .ok (.getfield 23, 3) := by decide +kernel
theorem dX7_law_30 : decode cX7_law 30 = .ok (.iload_n 1, 1) := by decide +kernel
theorem dX7_law_31 : decode cX7_law 31 = .ok (.aload_n 0, 1) := by decide +kernel
theorem dX7_law_32 : decode cX7_law 32 = .ok (.getfield 61, 3) := by decide +kernel
theorem dX7_law_35 : decode cX7_law 35 = .ok (.invokevirtual 116, 3) := by decide +kernel
theorem dX7_law_38 : decode cX7_law 38 = .ok (.istore_n 2, 1) := by decide +kernel
theorem dX7_law_39 : decode cX7_law 39 = .ok (.iload_n 2, 1) := by decide +kernel
theorem dX7_law_40 : decode cX7_law 40 = .ok (.iconst (-1), 1) := by decide +kernel
theorem dX7_law_41 : decode cX7_law 41 = .ok (.if_icmp .ne 14, 3) := by decide +kernel
theorem dX7_law_44 : decode cX7_law 44 = .ok (.bipush (-10), 2) := by decide +kernel
theorem dX7_law_46 : decode cX7_law 46 = .ok (.aload_n 0, 1) := by decide +kernel
theorem dX7_law_47 : decode cX7_law 47 = .ok (.getfield 23, 3) := by decide +kernel
theorem dX7_law_50 : decode cX7_law 50 = .ok (.getfield 100, 3) := by decide +kernel
theorem dX7_law_53 : decode cX7_law 53 = .ok (.isub, 1) := by decide +kernel
theorem dX7_law_54 : decode cX7_law 54 = .ok (.ireturn, 1) := by decide +kernel
theorem dX7_law_55 : decode cX7_law 55 = .ok (.aload_n 0, 1) := by decide +kernel
theorem dX7_law_56 : decode cX7_law 56 = .ok (.getfield 61, 3) := by decide +kernel
theorem dX7_law_59 : decode cX7_law 59 = .ok (.iconst 0, 1) := by decide +kernel
theorem dX7_law_60 : decode cX7_law 60 = .ok (.aload_n 0, 1) := by decide +kernel
theorem dX7_law_61 : decode cX7_law 61 = .ok (.getfield 12, 3) := by decide +kernel
theorem dX7_law_64 : decode cX7_law 64 = .ok (.getfield 120, 3) := by decide +kernel
theorem dX7_law_67 : decode cX7_law 67 = .ok (.iconst 0, 1) := by decide +kernel
theorem dX7_law_68 : decode cX7_law 68 = .ok (.bipush 23, 2) := by decide +kernel
theorem dX7_law_70 : decode cX7_law 70 = .ok (.invokestatic 110, 3) := by decide +kernel
theorem dX7_law_73 : decode cX7_law 73 = .ok (.iload_n 2, 1) := by decide +kernel
theorem dX7_law_74 : decode cX7_law 74 = .ok (.ireturn, 1) := by decide +kernel
theorem dX7_fault_0 : decode cX7_fault 0 = .ok (.iload_n 1, 1) := by decide +kernel
theorem dX7_fault_1 : decode cX7_fault 1 = .ok (.lookupswitch 43 #[(0, 27), (1, 35)], 27) := by decide +kernel
theorem dX7_fault_28 : decode cX7_fault 28 = .ok (.aload_n 0, 1) := by decide +kernel
theorem dX7_fault_29 : decode cX7_fault 29 = .ok (.getfield 23, 3) := by decide +kernel
theorem dX7_fault_32 : decode cX7_fault 32 = .ok (.getfield 100, 3) := by decide +kernel
theorem dX7_fault_35 : decode cX7_fault 35 = .ok (.ireturn, 1) := by decide +kernel
theorem dX7_fault_36 : decode cX7_fault 36 = .ok (.aload_n 0, 1) := by decide +kernel
theorem dX7_fault_37 : decode cX7_fault 37 = .ok (.getfield 23, 3) := by decide +kernel
theorem dX7_fault_40 : decode cX7_fault 40 = .ok (.getfield 123, 3) := by decide +kernel
theorem dX7_fault_43 : decode cX7_fault 43 = .ok (.ireturn, 1) := by decide +kernel
theorem dX7_fault_44 : decode cX7_fault 44 = .ok (.iconst (-1), 1) := by decide +kernel
theorem dX7_fault_45 : decode cX7_fault 45 = .ok (.ireturn, 1) := by decide +kernel
theorem dX7_fold_0 : decode cX7_fold 0 = .ok (.aload_n 0, 1) := by decide +kernel
theorem dX7_fold_1 : decode cX7_fold 1 = .ok (.iload_n 1, 1) := by decide +kernel
theorem dX7_fold_2 : decode cX7_fold 2 = .ok (.invokevirtual 126, 3) := by decide +kernel
theorem dX7_fold_5 : decode cX7_fold 5 = .ok (.astore_n 3, 1) := by decide +kernel
theorem dX7_fold_6 : decode cX7_fold 6 = .ok (.iload_n 2, 1) := by decide +kernel
theorem dX7_fold_7 : decode cX7_fold 7 = .ok (.iconst (-1), 1) := by decide +kernel
theorem dX7_fold_8 : decode cX7_fold 8 = .ok (.if_icmp .ne 10, 3) := by decide +kernel
theorem dX7_fold_11 : decode cX7_fold 11 = .ok (.aload_n 3, 1) := by decide +kernel
theorem dX7_fold_12 : decode cX7_fold 12 = .ok (.getfield 130, 3) := by decide +kernel
theorem dX7_fold_15 : decode cX7_fold 15 = .ok (.goto 8, 3) := by decide +kernel
theorem dX7_fold_18 : decode cX7_fold 18 = .ok (.aload_n 3, 1) := by decide +kernel
theorem dX7_fold_19 : decode cX7_fold 19 = .ok (.iload_n 2, 1) := by decide +kernel
theorem dX7_fold_20 : decode cX7_fold 20 = .ok (.invokestatic 133, 3) := by decide +kernel
theorem dX7_fold_23 : decode cX7_fold 23 = .ok (.ireturn, 1) := by decide +kernel
theorem dX7_breaks_0 : decode cX7_breaks 0 = .ok (.aload_n 0, 1) := by decide +kernel
theorem dX7_breaks_1 : decode cX7_breaks 1 = .ok (.aload_n 0, 1) := by decide +kernel
theorem dX7_breaks_2 : decode cX7_breaks 2 = .ok (.iload_n 1, 1) := by decide +kernel
theorem dX7_breaks_3 : decode cX7_breaks 3 = .ok (.invokevirtual 126, 3) := by decide +kernel
theorem dX7_breaks_6 : decode cX7_breaks 6 = .ok (.invokevirtual 137, 3) := by decide +kernel
theorem dX7_breaks_9 : decode cX7_breaks 9 = .ok (.ireturn, 1) := by decide +kernel
theorem dX7_make_0 : decode cX7_make 0 = .ok (.aload_n 0, 1) := by decide +kernel
theorem dX7_make_1 : decode cX7_make 1 = .ok (.aload_n 0, 1) := by decide +kernel
theorem dX7_make_2 : decode cX7_make 2 = .ok (.iload_n 1, 1) := by decide +kernel
theorem dX7_make_3 : decode cX7_make 3 = .ok (.invokevirtual 126, 3) := by decide +kernel
theorem dX7_make_6 : decode cX7_make 6 = .ok (.invokevirtual 140, 3) := by decide +kernel
theorem dX7_make_9 : decode cX7_make 9 = .ok (.iload_n 2, 1) := by decide +kernel
theorem dX7_make_10 : decode cX7_make 10 = .ok (.iconst 0, 1) := by decide +kernel
theorem dX7_make_11 : decode cX7_make 11 = .ok (.bipush 6, 2) := by decide +kernel
theorem dX7_make_13 : decode cX7_make 13 = .ok (.invokestatic 76, 3) := by decide +kernel
theorem dX7_make_16 : decode cX7_make 16 = .ok (.iload_n 2, 1) := by decide +kernel
theorem dX7_make_17 : decode cX7_make 17 = .ok (.tableswitch 87 0 5 #[39, 47, 55, 63, 71, 79], 39) := by decide +kernel
theorem dX7_make_56 : decode cX7_make 56 = .ok (.aload_n 0, 1) := by decide +kernel
theorem dX7_make_57 : decode cX7_make 57 = .ok (.getfield 36, 3) := by decide +kernel
theorem dX7_make_60 : decode cX7_make 60 = .ok (.getfield 144, 3) := by decide +kernel
theorem dX7_make_63 : decode cX7_make 63 = .ok (.ireturn, 1) := by decide +kernel
theorem dX7_make_64 : decode cX7_make 64 = .ok (.aload_n 0, 1) := by decide +kernel
theorem dX7_make_65 : decode cX7_make 65 = .ok (.getfield 36, 3) := by decide +kernel
theorem dX7_make_68 : decode cX7_make 68 = .ok (.getfield 145, 3) := by decide +kernel
theorem dX7_make_71 : decode cX7_make 71 = .ok (.ireturn, 1) := by decide +kernel
theorem dX7_make_72 : decode cX7_make 72 = .ok (.aload_n 0, 1) := by decide +kernel
theorem dX7_make_73 : decode cX7_make 73 = .ok (.getfield 36, 3) := by decide +kernel
theorem dX7_make_76 : decode cX7_make 76 = .ok (.getfield 146, 3) := by decide +kernel
theorem dX7_make_79 : decode cX7_make 79 = .ok (.ireturn, 1) := by decide +kernel
theorem dX7_make_80 : decode cX7_make 80 = .ok (.aload_n 0, 1) := by decide +kernel
theorem dX7_make_81 : decode cX7_make 81 = .ok (.getfield 36, 3) := by decide +kernel
theorem dX7_make_84 : decode cX7_make 84 = .ok (.getfield 149, 3) := by decide +kernel
theorem dX7_make_87 : decode cX7_make 87 = .ok (.ireturn, 1) := by decide +kernel
theorem dX7_make_88 : decode cX7_make 88 = .ok (.aload_n 0, 1) := by decide +kernel
theorem dX7_make_89 : decode cX7_make 89 = .ok (.getfield 36, 3) := by decide +kernel
theorem dX7_make_92 : decode cX7_make 92 = .ok (.getfield 152, 3) := by decide +kernel
theorem dX7_make_95 : decode cX7_make 95 = .ok (.ireturn, 1) := by decide +kernel
theorem dX7_make_96 : decode cX7_make 96 = .ok (.aload_n 0, 1) := by decide +kernel
theorem dX7_make_97 : decode cX7_make 97 = .ok (.getfield 36, 3) := by decide +kernel
theorem dX7_make_100 : decode cX7_make 100 = .ok (.getfield 155, 3) := by decide +kernel
theorem dX7_make_103 : decode cX7_make 103 = .ok (.ireturn, 1) := by decide +kernel
theorem dX7_make_104 : decode cX7_make 104 = .ok (.aload_n 0, 1) := by decide +kernel
theorem dX7_make_105 : decode cX7_make 105 = .ok (.getfield 36, 3) := by decide +kernel
theorem dX7_make_108 : decode cX7_make 108 = .ok (.getfield 158, 3) := by decide +kernel
theorem dX7_make_111 : decode cX7_make 111 = .ok (.ireturn, 1) := by decide +kernel
theorem dX7_layers_0 : decode cX7_layers 0 = .ok (.aload_n 0, 1) := by decide +kernel
theorem dX7_layers_1 : decode cX7_layers 1 = .ok (.aload_n 0, 1) := by decide +kernel
theorem dX7_layers_2 : decode cX7_layers 2 = .ok (.iload_n 1, 1) := by decide +kernel
theorem dX7_layers_3 : decode cX7_layers 3 = .ok (.invokevirtual 126, 3) := by decide +kernel
theorem dX7_layers_6 : decode cX7_layers 6 = .ok (.invokevirtual 140, 3) := by decide +kernel
theorem dX7_layers_9 : decode cX7_layers 9 = .ok (.aload_n 0, 1) := by decide +kernel
theorem dX7_layers_10 : decode cX7_layers 10 = .ok (.getfield 36, 3) := by decide +kernel
theorem dX7_layers_13 : decode cX7_layers 13 = .ok (.iload_n 2, 1) := by decide +kernel
theorem dX7_layers_14 : decode cX7_layers 14 = .ok (.iload_n 3, 1) := by decide +kernel
theorem dX7_layers_15 : decode cX7_layers 15 = .ok (.invokevirtual 161, 3) := by decide +kernel
theorem dX7_layers_18 : decode cX7_layers 18 = .ok (.ireturn, 1) := by decide +kernel
theorem dX7_fly_0 : decode cX7_fly 0 = .ok (.aload_n 0, 1) := by decide +kernel
theorem dX7_fly_1 : decode cX7_fly 1 = .ok (.aload_n 0, 1) := by decide +kernel
theorem dX7_fly_2 : decode cX7_fly 2 = .ok (.iload_n 1, 1) := by decide +kernel
theorem dX7_fly_3 : decode cX7_fly 3 = .ok (.invokevirtual 126, 3) := by decide +kernel
theorem dX7_fly_6 : decode cX7_fly 6 = .ok (.invokevirtual 140, 3) := by decide +kernel
theorem dX7_fly_9 : decode cX7_fly 9 = .ok (.iload_n 2, 1) := by decide +kernel
theorem dX7_fly_10 : decode cX7_fly 10 = .ok (.iload_n 3, 1) := by decide +kernel
theorem dX7_fly_11 : decode cX7_fly 11 = .ok (.iload 4, 2) := by decide +kernel
theorem dX7_fly_13 : decode cX7_fly 13 = .ok (.invokestatic 165, 3) := by decide +kernel
theorem dX7_fly_16 : decode cX7_fly 16 = .ok (.iload 5, 2) := by decide +kernel
theorem dX7_fly_18 : decode cX7_fly 18 = .ok (.iconst 0, 1) := by decide +kernel
theorem dX7_fly_19 : decode cX7_fly 19 = .ok (.iconst 5, 1) := by decide +kernel
theorem dX7_fly_20 : decode cX7_fly 20 = .ok (.invokestatic 76, 3) := by decide +kernel
theorem dX7_fly_23 : decode cX7_fly 23 = .ok (.aload_n 0, 1) := by decide +kernel
theorem dX7_fly_24 : decode cX7_fly 24 = .ok (.getfield 48, 3) := by decide +kernel
theorem dX7_fly_27 : decode cX7_fly 27 = .ok (.iload_n 2, 1) := by decide +kernel
theorem dX7_fly_28 : decode cX7_fly 28 = .ok (.iload_n 3, 1) := by decide +kernel
theorem dX7_fly_29 : decode cX7_fly 29 = .ok (.iload 4, 2) := by decide +kernel
theorem dX7_fly_31 : decode cX7_fly 31 = .ok (.invokevirtual 168, 3) := by decide +kernel
theorem dX7_fly_34 : decode cX7_fly 34 = .ok (.iload 5, 2) := by decide +kernel
theorem dX7_fly_36 : decode cX7_fly 36 = .ok (.tableswitch 76 0 4 #[36, 44, 52, 60, 68], 36) := by decide +kernel
theorem dX7_fly_72 : decode cX7_fly 72 = .ok (.aload_n 0, 1) := by decide +kernel
theorem dX7_fly_73 : decode cX7_fly 73 = .ok (.getfield 48, 3) := by decide +kernel
theorem dX7_fly_76 : decode cX7_fly 76 = .ok (.getfield 171, 3) := by decide +kernel
theorem dX7_fly_79 : decode cX7_fly 79 = .ok (.ireturn, 1) := by decide +kernel
theorem dX7_fly_80 : decode cX7_fly 80 = .ok (.aload_n 0, 1) := by decide +kernel
theorem dX7_fly_81 : decode cX7_fly 81 = .ok (.getfield 48, 3) := by decide +kernel
theorem dX7_fly_84 : decode cX7_fly 84 = .ok (.getfield 174, 3) := by decide +kernel
theorem dX7_fly_87 : decode cX7_fly 87 = .ok (.ireturn, 1) := by decide +kernel
theorem dX7_fly_88 : decode cX7_fly 88 = .ok (.aload_n 0, 1) := by decide +kernel
theorem dX7_fly_89 : decode cX7_fly 89 = .ok (.getfield 48, 3) := by decide +kernel
theorem dX7_fly_92 : decode cX7_fly 92 = .ok (.getfield 177, 3) := by decide +kernel
theorem dX7_fly_95 : decode cX7_fly 95 = .ok (.ireturn, 1) := by decide +kernel
theorem dX7_fly_96 : decode cX7_fly 96 = .ok (.aload_n 0, 1) := by decide +kernel
theorem dX7_fly_97 : decode cX7_fly 97 = .ok (.getfield 48, 3) := by decide +kernel
theorem dX7_fly_100 : decode cX7_fly 100 = .ok (.getfield 180, 3) := by decide +kernel
theorem dX7_fly_103 : decode cX7_fly 103 = .ok (.ireturn, 1) := by decide +kernel
theorem dX7_fly_104 : decode cX7_fly 104 = .ok (.aload_n 0, 1) := by decide +kernel
theorem dX7_fly_105 : decode cX7_fly 105 = .ok (.getfield 48, 3) := by decide +kernel
theorem dX7_fly_108 : decode cX7_fly 108 = .ok (.invokevirtual 183, 3) := by decide +kernel
theorem dX7_fly_111 : decode cX7_fly 111 = .ok (.ireturn, 1) := by decide +kernel
theorem dX7_fly_112 : decode cX7_fly 112 = .ok (.aload_n 0, 1) := by decide +kernel
theorem dX7_fly_113 : decode cX7_fly 113 = .ok (.getfield 48, 3) := by decide +kernel
theorem dX7_fly_116 : decode cX7_fly 116 = .ok (.invokevirtual 187, 3) := by decide +kernel
theorem dX7_fly_119 : decode cX7_fly 119 = .ok (.ireturn, 1) := by decide +kernel
theorem dX7_at_0 : decode cX7_at 0 = .ok (.aload_n 0, 1) := by decide +kernel
theorem dX7_at_1 : decode cX7_at 1 = .ok (.aload_n 0, 1) := by decide +kernel
theorem dX7_at_2 : decode cX7_at 2 = .ok (.iload_n 1, 1) := by decide +kernel
theorem dX7_at_3 : decode cX7_at 3 = .ok (.invokevirtual 126, 3) := by decide +kernel
theorem dX7_at_6 : decode cX7_at 6 = .ok (.invokevirtual 140, 3) := by decide +kernel
theorem dX7_at_9 : decode cX7_at 9 = .ok (.iload_n 2, 1) := by decide +kernel
theorem dX7_at_10 : decode cX7_at 10 = .ok (.iload_n 3, 1) := by decide +kernel
theorem dX7_at_11 : decode cX7_at 11 = .ok (.iload 4, 2) := by decide +kernel
theorem dX7_at_13 : decode cX7_at 13 = .ok (.invokestatic 165, 3) := by decide +kernel
theorem dX7_at_16 : decode cX7_at 16 = .ok (.iload 5, 2) := by decide +kernel
theorem dX7_at_18 : decode cX7_at 18 = .ok (.iconst 0, 1) := by decide +kernel
theorem dX7_at_19 : decode cX7_at 19 = .ok (.sipush 200, 3) := by decide +kernel
theorem dX7_at_22 : decode cX7_at 22 = .ok (.invokestatic 76, 3) := by decide +kernel
theorem dX7_at_25 : decode cX7_at 25 = .ok (.iload 6, 2) := by decide +kernel
theorem dX7_at_27 : decode cX7_at 27 = .ok (.iconst 0, 1) := by decide +kernel
theorem dX7_at_28 : decode cX7_at 28 = .ok (.iconst 5, 1) := by decide +kernel
theorem dX7_at_29 : decode cX7_at 29 = .ok (.invokestatic 76, 3) := by decide +kernel
theorem dX7_at_32 : decode cX7_at 32 = .ok (.aload_n 0, 1) := by decide +kernel
theorem dX7_at_33 : decode cX7_at 33 = .ok (.getfield 48, 3) := by decide +kernel
theorem dX7_at_36 : decode cX7_at 36 = .ok (.iload_n 2, 1) := by decide +kernel
theorem dX7_at_37 : decode cX7_at 37 = .ok (.iload_n 3, 1) := by decide +kernel
theorem dX7_at_38 : decode cX7_at 38 = .ok (.iload 4, 2) := by decide +kernel
theorem dX7_at_40 : decode cX7_at 40 = .ok (.invokevirtual 190, 3) := by decide +kernel
theorem dX7_at_43 : decode cX7_at 43 = .ok (.iconst 0, 1) := by decide +kernel
theorem dX7_at_44 : decode cX7_at 44 = .ok (.istore 7, 2) := by decide +kernel
theorem dX7_at_46 : decode cX7_at 46 = .ok (.iload 7, 2) := by decide +kernel
theorem dX7_at_48 : decode cX7_at 48 = .ok (.iload 5, 2) := by decide +kernel
theorem dX7_at_50 : decode cX7_at 50 = .ok (.if_icmp .ge 26, 3) := by decide +kernel
theorem dX7_at_53 : decode cX7_at 53 = .ok (.aload_n 0, 1) := by decide +kernel
theorem dX7_at_54 : decode cX7_at 54 = .ok (.getfield 48, 3) := by decide +kernel
theorem dX7_at_57 : decode cX7_at 57 = .ok (.invokevirtual 193, 3) := by decide +kernel
theorem dX7_at_60 : decode cX7_at 60 = .ok (.ifCond .eq 16, 3) := by decide +kernel
theorem dX7_at_63 : decode cX7_at 63 = .ok (.aload_n 0, 1) := by decide +kernel
theorem dX7_at_64 : decode cX7_at 64 = .ok (.getfield 48, 3) := by decide +kernel
theorem dX7_at_67 : decode cX7_at 67 = .ok (.invokevirtual 197, 3) := by decide +kernel
theorem dX7_at_70 : decode cX7_at 70 = .ok (.iinc 7 1, 3) := by decide +kernel
theorem dX7_at_73 : decode cX7_at 73 = .ok (.goto (-27), 3) := by decide +kernel
theorem dX7_at_76 : decode cX7_at 76 = .ok (.iload 6, 2) := by decide +kernel
theorem dX7_at_78 : decode cX7_at 78 = .ok (.tableswitch 74 0 4 #[34, 42, 50, 58, 66], 34) := by decide +kernel
theorem dX7_at_112 : decode cX7_at 112 = .ok (.aload_n 0, 1) := by decide +kernel
theorem dX7_at_113 : decode cX7_at 113 = .ok (.getfield 48, 3) := by decide +kernel
theorem dX7_at_116 : decode cX7_at 116 = .ok (.getfield 171, 3) := by decide +kernel
theorem dX7_at_119 : decode cX7_at 119 = .ok (.ireturn, 1) := by decide +kernel
theorem dX7_at_120 : decode cX7_at 120 = .ok (.aload_n 0, 1) := by decide +kernel
theorem dX7_at_121 : decode cX7_at 121 = .ok (.getfield 48, 3) := by decide +kernel
theorem dX7_at_124 : decode cX7_at 124 = .ok (.getfield 200, 3) := by decide +kernel
theorem dX7_at_127 : decode cX7_at 127 = .ok (.ireturn, 1) := by decide +kernel
theorem dX7_at_128 : decode cX7_at 128 = .ok (.aload_n 0, 1) := by decide +kernel
theorem dX7_at_129 : decode cX7_at 129 = .ok (.getfield 48, 3) := by decide +kernel
theorem dX7_at_132 : decode cX7_at 132 = .ok (.getfield 203, 3) := by decide +kernel
theorem dX7_at_135 : decode cX7_at 135 = .ok (.ireturn, 1) := by decide +kernel
theorem dX7_at_136 : decode cX7_at 136 = .ok (.aload_n 0, 1) := by decide +kernel
theorem dX7_at_137 : decode cX7_at 137 = .ok (.getfield 48, 3) := by decide +kernel
theorem dX7_at_140 : decode cX7_at 140 = .ok (.getfield 206, 3) := by decide +kernel
theorem dX7_at_143 : decode cX7_at 143 = .ok (.ireturn, 1) := by decide +kernel
theorem dX7_at_144 : decode cX7_at 144 = .ok (.aload_n 0, 1) := by decide +kernel
theorem dX7_at_145 : decode cX7_at 145 = .ok (.getfield 48, 3) := by decide +kernel
theorem dX7_at_148 : decode cX7_at 148 = .ok (.getfield 209, 3) := by decide +kernel
theorem dX7_at_151 : decode cX7_at 151 = .ok (.ireturn, 1) := by decide +kernel
theorem dX7_at_152 : decode cX7_at 152 = .ok (.aload_n 0, 1) := by decide +kernel
theorem dX7_at_153 : decode cX7_at 153 = .ok (.getfield 48, 3) := by decide +kernel
theorem dX7_at_156 : decode cX7_at 156 = .ok (.getfield 212, 3) := by decide +kernel
theorem dX7_at_159 : decode cX7_at 159 = .ok (.ireturn, 1) := by decide +kernel
theorem dX7_draught_0 : decode cX7_draught 0 = .ok (.iload_n 1, 1) := by decide +kernel
theorem dX7_draught_1 : decode cX7_draught 1 = .ok (.iconst 1, 1) := by decide +kernel
theorem dX7_draught_2 : decode cX7_draught 2 = .ok (.sipush 200, 3) := by decide +kernel
theorem dX7_draught_5 : decode cX7_draught 5 = .ok (.invokestatic 76, 3) := by decide +kernel
theorem dX7_draught_8 : decode cX7_draught 8 = .ok (.iload_n 2, 1) := by decide +kernel
theorem dX7_draught_9 : decode cX7_draught 9 = .ok (.iload_n 1, 1) := by decide +kernel
theorem dX7_draught_10 : decode cX7_draught 10 = .ok (.sipush 200, 3) := by decide +kernel
theorem dX7_draught_13 : decode cX7_draught 13 = .ok (.invokestatic 76, 3) := by decide +kernel
theorem dX7_draught_16 : decode cX7_draught 16 = .ok (.iload_n 3, 1) := by decide +kernel
theorem dX7_draught_17 : decode cX7_draught 17 = .ok (.bipush (-20), 2) := by decide +kernel
theorem dX7_draught_19 : decode cX7_draught 19 = .ok (.bipush 20, 2) := by decide +kernel
theorem dX7_draught_21 : decode cX7_draught 21 = .ok (.invokestatic 76, 3) := by decide +kernel
theorem dX7_draught_24 : decode cX7_draught 24 = .ok (.aload_n 0, 1) := by decide +kernel
theorem dX7_draught_25 : decode cX7_draught 25 = .ok (.getfield 12, 3) := by decide +kernel
theorem dX7_draught_28 : decode cX7_draught 28 = .ok (.getfield 215, 3) := by decide +kernel
theorem dX7_draught_31 : decode cX7_draught 31 = .ok (.iload_n 1, 1) := by decide +kernel
theorem dX7_draught_32 : decode cX7_draught 32 = .ok (.iload_n 2, 1) := by decide +kernel
theorem dX7_draught_33 : decode cX7_draught 33 = .ok (.iload_n 3, 1) := by decide +kernel
theorem dX7_draught_34 : decode cX7_draught 34 = .ok (.invokevirtual 218, 3) := by decide +kernel
theorem dX7_draught_37 : decode cX7_draught 37 = .ok (.ireturn, 1) := by decide +kernel
theorem dX7_crate_0 : decode cX7_crate 0 = .ok (.iload_n 1, 1) := by decide +kernel
theorem dX7_crate_1 : decode cX7_crate 1 = .ok (.iconst 1, 1) := by decide +kernel
theorem dX7_crate_2 : decode cX7_crate 2 = .ok (.ldc 222, 2) := by decide +kernel
theorem dX7_crate_4 : decode cX7_crate 4 = .ok (.invokestatic 76, 3) := by decide +kernel
theorem dX7_crate_7 : decode cX7_crate 7 = .ok (.iload_n 2, 1) := by decide +kernel
theorem dX7_crate_8 : decode cX7_crate 8 = .ok (.iconst 1, 1) := by decide +kernel
theorem dX7_crate_9 : decode cX7_crate 9 = .ok (.sipush 9999, 3) := by decide +kernel
theorem dX7_crate_12 : decode cX7_crate 12 = .ok (.invokestatic 76, 3) := by decide +kernel
theorem dX7_crate_15 : decode cX7_crate 15 = .ok (.aload_n 0, 1) := by decide +kernel
theorem dX7_crate_16 : decode cX7_crate 16 = .ok (.getfield 12, 3) := by decide +kernel
theorem dX7_crate_19 : decode cX7_crate 19 = .ok (.getfield 223, 3) := by decide +kernel
theorem dX7_crate_22 : decode cX7_crate 22 = .ok (.iload_n 1, 1) := by decide +kernel
theorem dX7_crate_23 : decode cX7_crate 23 = .ok (.iload_n 2, 1) := by decide +kernel
theorem dX7_crate_24 : decode cX7_crate 24 = .ok (.iconst 0, 1) := by decide +kernel
theorem dX7_crate_25 : decode cX7_crate 25 = .ok (.invokevirtual 218, 3) := by decide +kernel
theorem dX7_crate_28 : decode cX7_crate 28 = .ok (.ireturn, 1) := by decide +kernel
theorem dX7_still_0 : decode cX7_still 0 = .ok (.aload_n 0, 1) := by decide +kernel
theorem dX7_still_1 : decode cX7_still 1 = .ok (.getfield 12, 3) := by decide +kernel
theorem dX7_still_4 : decode cX7_still 4 = .ok (.getfield 215, 3) := by decide +kernel
theorem dX7_still_7 : decode cX7_still 7 = .ok (.getfield 130, 3) := by decide +kernel
theorem dX7_still_10 : decode cX7_still 10 = .ok (.aload_n 0, 1) := by decide +kernel
theorem dX7_still_11 : decode cX7_still 11 = .ok (.getfield 12, 3) := by decide +kernel
theorem dX7_still_14 : decode cX7_still 14 = .ok (.getfield 223, 3) := by decide +kernel
theorem dX7_still_17 : decode cX7_still 17 = .ok (.getfield 130, 3) := by decide +kernel
theorem dX7_still_20 : decode cX7_still 20 = .ok (.iadd, 1) := by decide +kernel
theorem dX7_still_21 : decode cX7_still 21 = .ok (.istore_n 1, 1) := by decide +kernel
theorem dX7_still_22 : decode cX7_still 22 = .ok (.aload_n 0, 1) := by decide +kernel
theorem dX7_still_23 : decode cX7_still 23 = .ok (.getfield 12, 3) := by decide +kernel
theorem dX7_still_26 : decode cX7_still 26 = .ok (.getfield 215, 3) := by decide +kernel
theorem dX7_still_29 : decode cX7_still 29 = .ok (.iconst 0, 1) := by decide +kernel
theorem dX7_still_30 : decode cX7_still 30 = .ok (.putfield 130, 3) := by decide +kernel
theorem dX7_still_33 : decode cX7_still 33 = .ok (.aload_n 0, 1) := by decide +kernel
theorem dX7_still_34 : decode cX7_still 34 = .ok (.getfield 12, 3) := by decide +kernel
theorem dX7_still_37 : decode cX7_still 37 = .ok (.getfield 223, 3) := by decide +kernel
theorem dX7_still_40 : decode cX7_still 40 = .ok (.iconst 0, 1) := by decide +kernel
theorem dX7_still_41 : decode cX7_still 41 = .ok (.putfield 130, 3) := by decide +kernel
theorem dX7_still_44 : decode cX7_still 44 = .ok (.iload_n 1, 1) := by decide +kernel
theorem dX7_still_45 : decode cX7_still 45 = .ok (.ireturn, 1) := by decide +kernel
theorem dX7_damp_0 : decode cX7_damp 0 = .ok (.iload_n 1, 1) := by decide +kernel
theorem dX7_damp_1 : decode cX7_damp 1 = .ok (.iconst 0, 1) := by decide +kernel
theorem dX7_damp_2 : decode cX7_damp 2 = .ok (.bipush 50, 2) := by decide +kernel
theorem dX7_damp_4 : decode cX7_damp 4 = .ok (.invokestatic 76, 3) := by decide +kernel
theorem dX7_damp_7 : decode cX7_damp 7 = .ok (.aload_n 0, 1) := by decide +kernel
theorem dX7_damp_8 : decode cX7_damp 8 = .ok (.getfield 12, 3) := by decide +kernel
theorem dX7_damp_11 : decode cX7_damp 11 = .ok (.getfield 226, 3) := by decide +kernel
theorem dX7_damp_14 : decode cX7_damp 14 = .ok (.istore_n 2, 1) := by decide +kernel
theorem dX7_damp_15 : decode cX7_damp 15 = .ok (.aload_n 0, 1) := by decide +kernel
theorem dX7_damp_16 : decode cX7_damp 16 = .ok (.getfield 12, 3) := by decide +kernel
theorem dX7_damp_19 : decode cX7_damp 19 = .ok (.iload_n 1, 1) := by decide +kernel
theorem dX7_damp_20 : decode cX7_damp 20 = .ok (.putfield 226, 3) := by decide +kernel
theorem dX7_damp_23 : decode cX7_damp 23 = .ok (.iload_n 2, 1) := by decide +kernel
theorem dX7_damp_24 : decode cX7_damp 24 = .ok (.ireturn, 1) := by decide +kernel
theorem dX7_slant_0 : decode cX7_slant 0 = .ok (.aload_n 0, 1) := by decide +kernel
theorem dX7_slant_1 : decode cX7_slant 1 = .ok (.aload_n 0, 1) := by decide +kernel
theorem dX7_slant_2 : decode cX7_slant 2 = .ok (.iload_n 1, 1) := by decide +kernel
theorem dX7_slant_3 : decode cX7_slant 3 = .ok (.invokevirtual 126, 3) := by decide +kernel
theorem dX7_slant_6 : decode cX7_slant 6 = .ok (.invokevirtual 140, 3) := by decide +kernel
theorem dX7_slant_9 : decode cX7_slant 9 = .ok (.iload_n 2, 1) := by decide +kernel
theorem dX7_slant_10 : decode cX7_slant 10 = .ok (.invokestatic 229, 3) := by decide +kernel
theorem dX7_slant_13 : decode cX7_slant 13 = .ok (.iload_n 3, 1) := by decide +kernel
theorem dX7_slant_14 : decode cX7_slant 14 = .ok (.bipush 10, 2) := by decide +kernel
theorem dX7_slant_16 : decode cX7_slant 16 = .ok (.sipush 999, 3) := by decide +kernel
theorem dX7_slant_19 : decode cX7_slant 19 = .ok (.invokestatic 76, 3) := by decide +kernel
theorem dX7_slant_22 : decode cX7_slant 22 = .ok (.bipush (-16), 2) := by decide +kernel
theorem dX7_slant_24 : decode cX7_slant 24 = .ok (.istore 5, 2) := by decide +kernel
theorem dX7_slant_26 : decode cX7_slant 26 = .ok (.iconst 0, 1) := by decide +kernel
theorem dX7_slant_27 : decode cX7_slant 27 = .ok (.istore 6, 2) := by decide +kernel
theorem dX7_slant_29 : decode cX7_slant 29 = .ok (.bipush (-16), 2) := by decide +kernel
theorem dX7_slant_31 : decode cX7_slant 31 = .ok (.istore 7, 2) := by decide +kernel
theorem dX7_slant_33 : decode cX7_slant 33 = .ok (.iload 7, 2) := by decide +kernel
theorem dX7_slant_35 : decode cX7_slant 35 = .ok (.bipush 16, 2) := by decide +kernel
theorem dX7_slant_37 : decode cX7_slant 37 = .ok (.if_icmp .gt 53, 3) := by decide +kernel
theorem dX7_slant_40 : decode cX7_slant 40 = .ok (.aload_n 0, 1) := by decide +kernel
theorem dX7_slant_41 : decode cX7_slant 41 = .ok (.getfield 48, 3) := by decide +kernel
theorem dX7_slant_44 : decode cX7_slant 44 = .ok (.iload_n 2, 1) := by decide +kernel
theorem dX7_slant_45 : decode cX7_slant 45 = .ok (.iload_n 3, 1) := by decide +kernel
theorem dX7_slant_46 : decode cX7_slant 46 = .ok (.iload 7, 2) := by decide +kernel
theorem dX7_slant_48 : decode cX7_slant 48 = .ok (.invokevirtual 168, 3) := by decide +kernel
theorem dX7_slant_51 : decode cX7_slant 51 = .ok (.aload_n 0, 1) := by decide +kernel
theorem dX7_slant_52 : decode cX7_slant 52 = .ok (.getfield 48, 3) := by decide +kernel
theorem dX7_slant_55 : decode cX7_slant 55 = .ok (.iload 4, 2) := by decide +kernel
theorem dX7_slant_57 : decode cX7_slant 57 = .ok (.invokevirtual 232, 3) := by decide +kernel
theorem dX7_slant_60 : decode cX7_slant 60 = .ok (.istore 8, 2) := by decide +kernel
theorem dX7_slant_62 : decode cX7_slant 62 = .ok (.iload 7, 2) := by decide +kernel
theorem dX7_slant_64 : decode cX7_slant 64 = .ok (.bipush (-16), 2) := by decide +kernel
theorem dX7_slant_66 : decode cX7_slant 66 = .ok (.if_icmp .eq 10, 3) := by decide +kernel
theorem dX7_slant_69 : decode cX7_slant 69 = .ok (.iload 8, 2) := by decide +kernel
theorem dX7_slant_71 : decode cX7_slant 71 = .ok (.iload 6, 2) := by decide +kernel
theorem dX7_slant_73 : decode cX7_slant 73 = .ok (.if_icmp .le 11, 3) := by decide +kernel
theorem dX7_slant_76 : decode cX7_slant 76 = .ok (.iload 8, 2) := by decide +kernel
theorem dX7_slant_78 : decode cX7_slant 78 = .ok (.istore 6, 2) := by decide +kernel
theorem dX7_slant_80 : decode cX7_slant 80 = .ok (.iload 7, 2) := by decide +kernel
theorem dX7_slant_82 : decode cX7_slant 82 = .ok (.istore 5, 2) := by decide +kernel
theorem dX7_slant_84 : decode cX7_slant 84 = .ok (.iinc 7 1, 3) := by decide +kernel
theorem dX7_slant_87 : decode cX7_slant 87 = .ok (.goto (-54), 3) := by decide +kernel
theorem dX7_slant_90 : decode cX7_slant 90 = .ok (.iload 5, 2) := by decide +kernel
theorem dX7_slant_92 : decode cX7_slant 92 = .ok (.ireturn, 1) := by decide +kernel
theorem dX7_rest_0 : decode cX7_rest 0 = .ok (.aload_n 0, 1) := by decide +kernel
theorem dX7_rest_1 : decode cX7_rest 1 = .ok (.aload_n 0, 1) := by decide +kernel
theorem dX7_rest_2 : decode cX7_rest 2 = .ok (.iload_n 1, 1) := by decide +kernel
theorem dX7_rest_3 : decode cX7_rest 3 = .ok (.invokevirtual 126, 3) := by decide +kernel
theorem dX7_rest_6 : decode cX7_rest 6 = .ok (.invokevirtual 140, 3) := by decide +kernel
theorem dX7_rest_9 : decode cX7_rest 9 = .ok (.iload_n 2, 1) := by decide +kernel
theorem dX7_rest_10 : decode cX7_rest 10 = .ok (.invokestatic 229, 3) := by decide +kernel
theorem dX7_rest_13 : decode cX7_rest 13 = .ok (.iconst 0, 1) := by decide +kernel
theorem dX7_rest_14 : decode cX7_rest 14 = .ok (.istore 4, 2) := by decide +kernel
theorem dX7_rest_16 : decode cX7_rest 16 = .ok (.bipush (-8), 2) := by decide +kernel
theorem dX7_rest_18 : decode cX7_rest 18 = .ok (.istore 5, 2) := by decide +kernel
theorem dX7_rest_20 : decode cX7_rest 20 = .ok (.iload 5, 2) := by decide +kernel
theorem dX7_rest_22 : decode cX7_rest 22 = .ok (.bipush 8, 2) := by decide +kernel
theorem dX7_rest_24 : decode cX7_rest 24 = .ok (.if_icmp .gt 34, 3) := by decide +kernel
theorem dX7_rest_27 : decode cX7_rest 27 = .ok (.aload_n 0, 1) := by decide +kernel
theorem dX7_rest_28 : decode cX7_rest 28 = .ok (.iload_n 2, 1) := by decide +kernel
theorem dX7_rest_29 : decode cX7_rest 29 = .ok (.iload 5, 2) := by decide +kernel
theorem dX7_rest_31 : decode cX7_rest 31 = .ok (.invokevirtual 236, 3) := by decide +kernel
theorem dX7_rest_34 : decode cX7_rest 34 = .ok (.ifCond .eq 18, 3) := by decide +kernel
theorem dX7_rest_37 : decode cX7_rest 37 = .ok (.iload 4, 2) := by decide +kernel
theorem dX7_rest_39 : decode cX7_rest 39 = .ok (.iload_n 3, 1) := by decide +kernel
theorem dX7_rest_40 : decode cX7_rest 40 = .ok (.if_icmp .ne 9, 3) := by decide +kernel
theorem dX7_rest_43 : decode cX7_rest 43 = .ok (.iload 5, 2) := by decide +kernel
theorem dX7_rest_45 : decode cX7_rest 45 = .ok (.bipush 100, 2) := by decide +kernel
theorem dX7_rest_47 : decode cX7_rest 47 = .ok (.iadd, 1) := by decide +kernel
theorem dX7_rest_48 : decode cX7_rest 48 = .ok (.ireturn, 1) := by decide +kernel
theorem dX7_rest_49 : decode cX7_rest 49 = .ok (.iinc 4 1, 3) := by decide +kernel
theorem dX7_rest_52 : decode cX7_rest 52 = .ok (.iinc 5 1, 3) := by decide +kernel
theorem dX7_rest_55 : decode cX7_rest 55 = .ok (.goto (-35), 3) := by decide +kernel
theorem dX7_rest_58 : decode cX7_rest 58 = .ok (.iload_n 3, 1) := by decide +kernel
theorem dX7_rest_59 : decode cX7_rest 59 = .ok (.iconst (-1), 1) := by decide +kernel
theorem dX7_rest_60 : decode cX7_rest 60 = .ok (.if_icmp .ne 8, 3) := by decide +kernel
theorem dX7_rest_63 : decode cX7_rest 63 = .ok (.iload 4, 2) := by decide +kernel
theorem dX7_rest_65 : decode cX7_rest 65 = .ok (.goto 4, 3) := by decide +kernel
theorem dX7_rest_68 : decode cX7_rest 68 = .ok (.iconst (-1), 1) := by decide +kernel
theorem dX7_rest_69 : decode cX7_rest 69 = .ok (.ireturn, 1) := by decide +kernel
theorem dX7_why_0 : decode cX7_why 0 = .ok (.aload_n 0, 1) := by decide +kernel
theorem dX7_why_1 : decode cX7_why 1 = .ok (.aload_n 0, 1) := by decide +kernel
theorem dX7_why_2 : decode cX7_why 2 = .ok (.iload_n 1, 1) := by decide +kernel
theorem dX7_why_3 : decode cX7_why 3 = .ok (.invokevirtual 126, 3) := by decide +kernel
theorem dX7_why_6 : decode cX7_why 6 = .ok (.invokevirtual 140, 3) := by decide +kernel
theorem dX7_why_9 : decode cX7_why 9 = .ok (.iload_n 2, 1) := by decide +kernel
theorem dX7_why_10 : decode cX7_why 10 = .ok (.invokestatic 229, 3) := by decide +kernel
theorem dX7_why_13 : decode cX7_why 13 = .ok (.iconst 0, 1) := by decide +kernel
theorem dX7_why_14 : decode cX7_why 14 = .ok (.istore_n 3, 1) := by decide +kernel
theorem dX7_why_15 : decode cX7_why 15 = .ok (.iconst 0, 1) := by decide +kernel
theorem dX7_why_16 : decode cX7_why 16 = .ok (.istore 4, 2) := by decide +kernel
theorem dX7_why_18 : decode cX7_why 18 = .ok (.bipush (-8), 2) := by decide +kernel
theorem dX7_why_20 : decode cX7_why 20 = .ok (.istore 5, 2) := by decide +kernel
theorem dX7_why_22 : decode cX7_why 22 = .ok (.iload 5, 2) := by decide +kernel
theorem dX7_why_24 : decode cX7_why 24 = .ok (.bipush 8, 2) := by decide +kernel
theorem dX7_why_26 : decode cX7_why 26 = .ok (.if_icmp .gt 40, 3) := by decide +kernel
theorem dX7_why_29 : decode cX7_why 29 = .ok (.aload_n 0, 1) := by decide +kernel
theorem dX7_why_30 : decode cX7_why 30 = .ok (.iload_n 2, 1) := by decide +kernel
theorem dX7_why_31 : decode cX7_why 31 = .ok (.iload 5, 2) := by decide +kernel
theorem dX7_why_33 : decode cX7_why 33 = .ok (.invokevirtual 236, 3) := by decide +kernel
theorem dX7_why_36 : decode cX7_why 36 = .ok (.ifCond .eq 5, 3) := by decide +kernel
theorem dX7_why_39 : decode cX7_why 39 = .ok (.iconst 0, 1) := by decide +kernel
theorem dX7_why_40 : decode cX7_why 40 = .ok (.ireturn, 1) := by decide +kernel
theorem dX7_why_41 : decode cX7_why 41 = .ok (.aload_n 0, 1) := by decide +kernel
theorem dX7_why_42 : decode cX7_why 42 = .ok (.iload_n 2, 1) := by decide +kernel
theorem dX7_why_43 : decode cX7_why 43 = .ok (.iload 5, 2) := by decide +kernel
theorem dX7_why_45 : decode cX7_why 45 = .ok (.invokevirtual 240, 3) := by decide +kernel
theorem dX7_why_48 : decode cX7_why 48 = .ok (.ifCond .ge 9, 3) := by decide +kernel
theorem dX7_why_51 : decode cX7_why 51 = .ok (.iinc 3 1, 3) := by decide +kernel
theorem dX7_why_54 : decode cX7_why 54 = .ok (.goto 6, 3) := by decide +kernel
theorem dX7_why_57 : decode cX7_why 57 = .ok (.iinc 4 1, 3) := by decide +kernel
theorem dX7_why_60 : decode cX7_why 60 = .ok (.iinc 5 1, 3) := by decide +kernel
theorem dX7_why_63 : decode cX7_why 63 = .ok (.goto (-41), 3) := by decide +kernel
theorem dX7_why_66 : decode cX7_why 66 = .ok (.iload 4, 2) := by decide +kernel
theorem dX7_why_68 : decode cX7_why 68 = .ok (.ifCond .ne 5, 3) := by decide +kernel
theorem dX7_why_71 : decode cX7_why 71 = .ok (.iconst 1, 1) := by decide +kernel
theorem dX7_why_72 : decode cX7_why 72 = .ok (.ireturn, 1) := by decide +kernel
theorem dX7_why_73 : decode cX7_why 73 = .ok (.iload_n 3, 1) := by decide +kernel
theorem dX7_why_74 : decode cX7_why 74 = .ok (.ifCond .ne 7, 3) := by decide +kernel
theorem dX7_why_77 : decode cX7_why 77 = .ok (.iconst 2, 1) := by decide +kernel
theorem dX7_why_78 : decode cX7_why 78 = .ok (.goto 4, 3) := by decide +kernel
theorem dX7_why_81 : decode cX7_why 81 = .ok (.iconst 3, 1) := by decide +kernel
theorem dX7_why_82 : decode cX7_why 82 = .ok (.ireturn, 1) := by decide +kernel
theorem dX7_hand_0 : decode cX7_hand 0 = .ok (.aload_n 0, 1) := by decide +kernel
theorem dX7_hand_1 : decode cX7_hand 1 = .ok (.getfield 12, 3) := by decide +kernel
theorem dX7_hand_4 : decode cX7_hand 4 = .ok (.invokevirtual 243, 3) := by decide +kernel
theorem dX7_hand_7 : decode cX7_hand 7 = .ok (.ireturn, 1) := by decide +kernel
theorem dX7_toss_0 : decode cX7_toss 0 = .ok (.aload_n 0, 1) := by decide +kernel
theorem dX7_toss_1 : decode cX7_toss 1 = .ok (.iload_n 1, 1) := by decide +kernel
theorem dX7_toss_2 : decode cX7_toss 2 = .ok (.invokevirtual 246, 3) := by decide +kernel
theorem dX7_toss_5 : decode cX7_toss 5 = .ok (.astore 5, 2) := by decide +kernel
theorem dX7_toss_7 : decode cX7_toss 7 = .ok (.iload_n 2, 1) := by decide +kernel
theorem dX7_toss_8 : decode cX7_toss 8 = .ok (.i2l, 1) := by decide +kernel
theorem dX7_toss_9 : decode cX7_toss 9 = .ok (.iload_n 3, 1) := by decide +kernel
theorem dX7_toss_10 : decode cX7_toss 10 = .ok (.i2l, 1) := by decide +kernel
theorem dX7_toss_11 : decode cX7_toss 11 = .ok (.iload 4, 2) := by decide +kernel
theorem dX7_toss_13 : decode cX7_toss 13 = .ok (.i2l, 1) := by decide +kernel
theorem dX7_toss_14 : decode cX7_toss 14 = .ok (.invokestatic 249, 3) := by decide +kernel
theorem dX7_toss_17 : decode cX7_toss 17 = .ok (.ifCond .ne 13, 3) := by decide +kernel
theorem dX7_toss_20 : decode cX7_toss 20 = .ok (.new 253, 3) := by decide +kernel
theorem dX7_toss_23 : decode cX7_toss 23 = .ok (.dup, 1) := by decide +kernel
theorem dX7_toss_24 : decode cX7_toss 24 = .ok (.ldc 255, 2) := by decide +kernel
theorem dX7_toss_26 : decode cX7_toss 26 = .ok (.invokespecial 257, 3) := by decide +kernel
theorem dX7_toss_29 : decode cX7_toss 29 = .ok (.athrow, 1) := by decide +kernel
theorem dX7_toss_30 : decode cX7_toss 30 = .ok (.aload 5, 2) := by decide +kernel
theorem dX7_toss_32 : decode cX7_toss 32 = .ok (.iload_n 2, 1) := by decide +kernel
theorem dX7_toss_33 : decode cX7_toss 33 = .ok (.iload_n 3, 1) := by decide +kernel
theorem dX7_toss_34 : decode cX7_toss 34 = .ok (.iload 4, 2) := by decide +kernel
theorem dX7_toss_36 : decode cX7_toss 36 = .ok (.invokevirtual 218, 3) := by decide +kernel
theorem dX7_toss_39 : decode cX7_toss 39 = .ok (.iconst (-1), 1) := by decide +kernel
theorem dX7_toss_40 : decode cX7_toss 40 = .ok (.if_icmp .ne 7, 3) := by decide +kernel
theorem dX7_toss_43 : decode cX7_toss 43 = .ok (.iconst (-1), 1) := by decide +kernel
theorem dX7_toss_44 : decode cX7_toss 44 = .ok (.goto 8, 3) := by decide +kernel
theorem dX7_toss_47 : decode cX7_toss 47 = .ok (.aload 5, 2) := by decide +kernel
theorem dX7_toss_49 : decode cX7_toss 49 = .ok (.getfield 130, 3) := by decide +kernel
theorem dX7_toss_52 : decode cX7_toss 52 = .ok (.ireturn, 1) := by decide +kernel
theorem dX7_reach_0 : decode cX7_reach 0 = .ok (.aload_n 0, 1) := by decide +kernel
theorem dX7_reach_1 : decode cX7_reach 1 = .ok (.iload_n 1, 1) := by decide +kernel
theorem dX7_reach_2 : decode cX7_reach 2 = .ok (.invokevirtual 126, 3) := by decide +kernel
theorem dX7_reach_5 : decode cX7_reach 5 = .ok (.astore 5, 2) := by decide +kernel
theorem dX7_reach_7 : decode cX7_reach 7 = .ok (.aload_n 0, 1) := by decide +kernel
theorem dX7_reach_8 : decode cX7_reach 8 = .ok (.iload_n 3, 1) := by decide +kernel
theorem dX7_reach_9 : decode cX7_reach 9 = .ok (.invokevirtual 246, 3) := by decide +kernel
theorem dX7_reach_12 : decode cX7_reach 12 = .ok (.astore 6, 2) := by decide +kernel
theorem dX7_reach_14 : decode cX7_reach 14 = .ok (.aload_n 0, 1) := by decide +kernel
theorem dX7_reach_15 : decode cX7_reach 15 = .ok (.aload 5, 2) := by decide +kernel
theorem dX7_reach_17 : decode cX7_reach 17 = .ok (.invokevirtual 140, 3) := by decide +kernel
theorem dX7_reach_20 : decode cX7_reach 20 = .ok (.iload_n 2, 1) := by decide +kernel
theorem dX7_reach_21 : decode cX7_reach 21 = .ok (.invokestatic 229, 3) := by decide +kernel
theorem dX7_reach_24 : decode cX7_reach 24 = .ok (.aload_n 0, 1) := by decide +kernel
theorem dX7_reach_25 : decode cX7_reach 25 = .ok (.aload 6, 2) := by decide +kernel
theorem dX7_reach_27 : decode cX7_reach 27 = .ok (.iload_n 2, 1) := by decide +kernel
theorem dX7_reach_28 : decode cX7_reach 28 = .ok (.iload 4, 2) := by decide +kernel
theorem dX7_reach_30 : decode cX7_reach 30 = .ok (.invokevirtual 260, 3) := by decide +kernel
theorem dX7_reach_33 : decode cX7_reach 33 = .ok (.lreturn, 1) := by decide +kernel
theorem dX7_ears_0 : decode cX7_ears 0 = .ok (.aload_n 0, 1) := by decide +kernel
theorem dX7_ears_1 : decode cX7_ears 1 = .ok (.iload_n 1, 1) := by decide +kernel
theorem dX7_ears_2 : decode cX7_ears 2 = .ok (.invokevirtual 126, 3) := by decide +kernel
theorem dX7_ears_5 : decode cX7_ears 5 = .ok (.astore 4, 2) := by decide +kernel
theorem dX7_ears_7 : decode cX7_ears 7 = .ok (.aload_n 0, 1) := by decide +kernel
theorem dX7_ears_8 : decode cX7_ears 8 = .ok (.iload_n 2, 1) := by decide +kernel
theorem dX7_ears_9 : decode cX7_ears 9 = .ok (.invokevirtual 246, 3) := by decide +kernel
theorem dX7_ears_12 : decode cX7_ears 12 = .ok (.astore 5, 2) := by decide +kernel
theorem dX7_ears_14 : decode cX7_ears 14 = .ok (.aload_n 0, 1) := by decide +kernel
theorem dX7_ears_15 : decode cX7_ears 15 = .ok (.aload 4, 2) := by decide +kernel
theorem dX7_ears_17 : decode cX7_ears 17 = .ok (.invokevirtual 140, 3) := by decide +kernel
theorem dX7_ears_20 : decode cX7_ears 20 = .ok (.aload_n 0, 1) := by decide +kernel
theorem dX7_ears_21 : decode cX7_ears 21 = .ok (.aload 5, 2) := by decide +kernel
theorem dX7_ears_23 : decode cX7_ears 23 = .ok (.iload_n 3, 1) := by decide +kernel
theorem dX7_ears_24 : decode cX7_ears 24 = .ok (.invokevirtual 264, 3) := by decide +kernel
theorem dX7_ears_27 : decode cX7_ears 27 = .ok (.ireturn, 1) := by decide +kernel
theorem dX7_best_0 : decode cX7_best 0 = .ok (.aload_n 0, 1) := by decide +kernel
theorem dX7_best_1 : decode cX7_best 1 = .ok (.iload_n 1, 1) := by decide +kernel
theorem dX7_best_2 : decode cX7_best 2 = .ok (.invokevirtual 246, 3) := by decide +kernel
theorem dX7_best_5 : decode cX7_best 5 = .ok (.astore_n 3, 1) := by decide +kernel
theorem dX7_best_6 : decode cX7_best 6 = .ok (.iconst (-1), 1) := by decide +kernel
theorem dX7_best_7 : decode cX7_best 7 = .ok (.istore 4, 2) := by decide +kernel
theorem dX7_best_9 : decode cX7_best 9 = .ok (.lconst 0, 1) := by decide +kernel
theorem dX7_best_10 : decode cX7_best 10 = .ok (.lstore 5, 2) := by decide +kernel
theorem dX7_best_12 : decode cX7_best 12 = .ok (.iconst 0, 1) := by decide +kernel
theorem dX7_best_13 : decode cX7_best 13 = .ok (.istore 7, 2) := by decide +kernel
theorem dX7_best_15 : decode cX7_best 15 = .ok (.iload 7, 2) := by decide +kernel
theorem dX7_best_17 : decode cX7_best 17 = .ok (.aload_n 0, 1) := by decide +kernel
theorem dX7_best_18 : decode cX7_best 18 = .ok (.getfield 12, 3) := by decide +kernel
theorem dX7_best_21 : decode cX7_best 21 = .ok (.getfield 93, 3) := by decide +kernel
theorem dX7_best_24 : decode cX7_best 24 = .ok (.if_icmp .ge 74, 3) := by decide +kernel
theorem dX7_best_27 : decode cX7_best 27 = .ok (.aload_n 0, 1) := by decide +kernel
theorem dX7_best_28 : decode cX7_best 28 = .ok (.getfield 12, 3) := by decide +kernel
theorem dX7_best_31 : decode cX7_best 31 = .ok (.iload 7, 2) := by decide +kernel
theorem dX7_best_33 : decode cX7_best 33 = .ok (.invokevirtual 268, 3) := by decide +kernel
theorem dX7_best_36 : decode cX7_best 36 = .ok (.astore 8, 2) := by decide +kernel
theorem dX7_best_38 : decode cX7_best 38 = .ok (.aload 8, 2) := by decide +kernel
theorem dX7_best_40 : decode cX7_best 40 = .ok (.ifnull 52, 3) := by decide +kernel
theorem dX7_best_43 : decode cX7_best 43 = .ok (.aload_n 0, 1) := by decide +kernel
theorem dX7_best_44 : decode cX7_best 44 = .ok (.aload 8, 2) := by decide +kernel
theorem dX7_best_46 : decode cX7_best 46 = .ok (.invokevirtual 137, 3) := by decide +kernel
theorem dX7_best_49 : decode cX7_best 49 = .ok (.iconst (-1), 1) := by decide +kernel
theorem dX7_best_50 : decode cX7_best 50 = .ok (.if_icmp .eq 6, 3) := by decide +kernel
theorem dX7_best_53 : decode cX7_best 53 = .ok (.goto 39, 3) := by decide +kernel
theorem dX7_best_56 : decode cX7_best 56 = .ok (.aload_n 0, 1) := by decide +kernel
theorem dX7_best_57 : decode cX7_best 57 = .ok (.aload_n 3, 1) := by decide +kernel
theorem dX7_best_58 : decode cX7_best 58 = .ok (.aload_n 0, 1) := by decide +kernel
theorem dX7_best_59 : decode cX7_best 59 = .ok (.aload_n 3, 1) := by decide +kernel
theorem dX7_best_60 : decode cX7_best 60 = .ok (.iload_n 2, 1) := by decide +kernel
theorem dX7_best_61 : decode cX7_best 61 = .ok (.invokevirtual 264, 3) := by decide +kernel
theorem dX7_best_64 : decode cX7_best 64 = .ok (.iload_n 2, 1) := by decide +kernel
theorem dX7_best_65 : decode cX7_best 65 = .ok (.invokevirtual 260, 3) := by decide +kernel
theorem dX7_best_68 : decode cX7_best 68 = .ok (.lstore 9, 2) := by decide +kernel
theorem dX7_best_70 : decode cX7_best 70 = .ok (.iload 4, 2) := by decide +kernel
theorem dX7_best_72 : decode cX7_best 72 = .ok (.iconst (-1), 1) := by decide +kernel
theorem dX7_best_73 : decode cX7_best 73 = .ok (.if_icmp .eq 11, 3) := by decide +kernel
theorem dX7_best_76 : decode cX7_best 76 = .ok (.lload 9, 2) := by decide +kernel
theorem dX7_best_78 : decode cX7_best 78 = .ok (.lload 5, 2) := by decide +kernel
theorem dX7_best_80 : decode cX7_best 80 = .ok (.lcmp, 1) := by decide +kernel
theorem dX7_best_81 : decode cX7_best 81 = .ok (.ifCond .le 11, 3) := by decide +kernel
theorem dX7_best_84 : decode cX7_best 84 = .ok (.iload 7, 2) := by decide +kernel
theorem dX7_best_86 : decode cX7_best 86 = .ok (.istore 4, 2) := by decide +kernel
theorem dX7_best_88 : decode cX7_best 88 = .ok (.lload 9, 2) := by decide +kernel
theorem dX7_best_90 : decode cX7_best 90 = .ok (.lstore 5, 2) := by decide +kernel
theorem dX7_best_92 : decode cX7_best 92 = .ok (.iinc 7 1, 3) := by decide +kernel
theorem dX7_best_95 : decode cX7_best 95 = .ok (.goto (-80), 3) := by decide +kernel
theorem dX7_best_98 : decode cX7_best 98 = .ok (.iload 4, 2) := by decide +kernel
theorem dX7_best_100 : decode cX7_best 100 = .ok (.ireturn, 1) := by decide +kernel
theorem dX7_change_0 : decode cX7_change 0 = .ok (.aload_n 0, 1) := by decide +kernel
theorem dX7_change_1 : decode cX7_change 1 = .ok (.iload_n 1, 1) := by decide +kernel
theorem dX7_change_2 : decode cX7_change 2 = .ok (.invokevirtual 126, 3) := by decide +kernel
theorem dX7_change_5 : decode cX7_change 5 = .ok (.astore 6, 2) := by decide +kernel
theorem dX7_change_7 : decode cX7_change 7 = .ok (.aload_n 0, 1) := by decide +kernel
theorem dX7_change_8 : decode cX7_change 8 = .ok (.iload_n 3, 1) := by decide +kernel
theorem dX7_change_9 : decode cX7_change 9 = .ok (.invokevirtual 246, 3) := by decide +kernel
theorem dX7_change_12 : decode cX7_change 12 = .ok (.astore 7, 2) := by decide +kernel
theorem dX7_change_14 : decode cX7_change 14 = .ok (.aload_n 0, 1) := by decide +kernel
theorem dX7_change_15 : decode cX7_change 15 = .ok (.aload 6, 2) := by decide +kernel
theorem dX7_change_17 : decode cX7_change 17 = .ok (.invokevirtual 140, 3) := by decide +kernel
theorem dX7_change_20 : decode cX7_change 20 = .ok (.iload_n 2, 1) := by decide +kernel
theorem dX7_change_21 : decode cX7_change 21 = .ok (.invokestatic 229, 3) := by decide +kernel
theorem dX7_change_24 : decode cX7_change 24 = .ok (.iload 5, 2) := by decide +kernel
theorem dX7_change_26 : decode cX7_change 26 = .ok (.iconst 0, 1) := by decide +kernel
theorem dX7_change_27 : decode cX7_change 27 = .ok (.iconst 2, 1) := by decide +kernel
theorem dX7_change_28 : decode cX7_change 28 = .ok (.invokestatic 76, 3) := by decide +kernel
theorem dX7_change_31 : decode cX7_change 31 = .ok (.aload_n 0, 1) := by decide +kernel
theorem dX7_change_32 : decode cX7_change 32 = .ok (.aload 6, 2) := by decide +kernel
theorem dX7_change_34 : decode cX7_change 34 = .ok (.aload 7, 2) := by decide +kernel
theorem dX7_change_36 : decode cX7_change 36 = .ok (.iload_n 2, 1) := by decide +kernel
theorem dX7_change_37 : decode cX7_change 37 = .ok (.iload 4, 2) := by decide +kernel
theorem dX7_change_39 : decode cX7_change 39 = .ok (.invokevirtual 271, 3) := by decide +kernel
theorem dX7_change_42 : decode cX7_change 42 = .ok (.aload_n 0, 1) := by decide +kernel
theorem dX7_change_43 : decode cX7_change 43 = .ok (.getfield 68, 3) := by decide +kernel
theorem dX7_change_46 : decode cX7_change 46 = .ok (.getfield 275, 3) := by decide +kernel
theorem dX7_change_49 : decode cX7_change 49 = .ok (.iconst (-1), 1) := by decide +kernel
theorem dX7_change_50 : decode cX7_change 50 = .ok (.if_icmp .ne 7, 3) := by decide +kernel
theorem dX7_change_53 : decode cX7_change 53 = .ok (.ldc2_w 278, 3) := by decide +kernel
theorem dX7_change_56 : decode cX7_change 56 = .ok (.lreturn, 1) := by decide +kernel
theorem dX7_change_57 : decode cX7_change 57 = .ok (.iload 5, 2) := by decide +kernel
theorem dX7_change_59 : decode cX7_change 59 = .ok (.lookupswitch 54 #[(0, 25), (1, 34)], 25) := by decide +kernel
theorem dX7_change_84 : decode cX7_change 84 = .ok (.aload_n 0, 1) := by decide +kernel
theorem dX7_change_85 : decode cX7_change 85 = .ok (.getfield 68, 3) := by decide +kernel
theorem dX7_change_88 : decode cX7_change 88 = .ok (.getfield 275, 3) := by decide +kernel
theorem dX7_change_91 : decode cX7_change 91 = .ok (.i2l, 1) := by decide +kernel
theorem dX7_change_92 : decode cX7_change 92 = .ok (.lreturn, 1) := by decide +kernel
theorem dX7_change_93 : decode cX7_change 93 = .ok (.bipush 100, 2) := by decide +kernel
theorem dX7_change_95 : decode cX7_change 95 = .ok (.aload_n 0, 1) := by decide +kernel
theorem dX7_change_96 : decode cX7_change 96 = .ok (.getfield 68, 3) := by decide +kernel
theorem dX7_change_99 : decode cX7_change 99 = .ok (.getfield 280, 3) := by decide +kernel
theorem dX7_change_102 : decode cX7_change 102 = .ok (.imul, 1) := by decide +kernel
theorem dX7_change_103 : decode cX7_change 103 = .ok (.aload_n 0, 1) := by decide +kernel
theorem dX7_change_104 : decode cX7_change 104 = .ok (.getfield 68, 3) := by decide +kernel
theorem dX7_change_107 : decode cX7_change 107 = .ok (.getfield 283, 3) := by decide +kernel
theorem dX7_change_110 : decode cX7_change 110 = .ok (.iadd, 1) := by decide +kernel
theorem dX7_change_111 : decode cX7_change 111 = .ok (.i2l, 1) := by decide +kernel
theorem dX7_change_112 : decode cX7_change 112 = .ok (.lreturn, 1) := by decide +kernel
theorem dX7_change_113 : decode cX7_change 113 = .ok (.aload_n 0, 1) := by decide +kernel
theorem dX7_change_114 : decode cX7_change 114 = .ok (.getfield 68, 3) := by decide +kernel
theorem dX7_change_117 : decode cX7_change 117 = .ok (.getfield 286, 3) := by decide +kernel
theorem dX7_change_120 : decode cX7_change 120 = .ok (.lreturn, 1) := by decide +kernel
theorem dX7_mend_0 : decode cX7_mend 0 = .ok (.aload_n 0, 1) := by decide +kernel
theorem dX7_mend_1 : decode cX7_mend 1 = .ok (.iload_n 1, 1) := by decide +kernel
theorem dX7_mend_2 : decode cX7_mend 2 = .ok (.invokevirtual 126, 3) := by decide +kernel
theorem dX7_mend_5 : decode cX7_mend 5 = .ok (.astore 5, 2) := by decide +kernel
theorem dX7_mend_7 : decode cX7_mend 7 = .ok (.aload_n 0, 1) := by decide +kernel
theorem dX7_mend_8 : decode cX7_mend 8 = .ok (.iload_n 3, 1) := by decide +kernel
theorem dX7_mend_9 : decode cX7_mend 9 = .ok (.invokevirtual 246, 3) := by decide +kernel
theorem dX7_mend_12 : decode cX7_mend 12 = .ok (.astore 6, 2) := by decide +kernel
theorem dX7_mend_14 : decode cX7_mend 14 = .ok (.aload_n 0, 1) := by decide +kernel
theorem dX7_mend_15 : decode cX7_mend 15 = .ok (.aload 5, 2) := by decide +kernel
theorem dX7_mend_17 : decode cX7_mend 17 = .ok (.invokevirtual 140, 3) := by decide +kernel
theorem dX7_mend_20 : decode cX7_mend 20 = .ok (.iload_n 2, 1) := by decide +kernel
theorem dX7_mend_21 : decode cX7_mend 21 = .ok (.invokestatic 229, 3) := by decide +kernel
theorem dX7_mend_24 : decode cX7_mend 24 = .ok (.aload_n 0, 1) := by decide +kernel
theorem dX7_mend_25 : decode cX7_mend 25 = .ok (.aload 6, 2) := by decide +kernel
theorem dX7_mend_27 : decode cX7_mend 27 = .ok (.iload_n 2, 1) := by decide +kernel
theorem dX7_mend_28 : decode cX7_mend 28 = .ok (.iload 4, 2) := by decide +kernel
theorem dX7_mend_30 : decode cX7_mend 30 = .ok (.invokevirtual 260, 3) := by decide +kernel
theorem dX7_mend_33 : decode cX7_mend 33 = .ok (.lstore 7, 2) := by decide +kernel
theorem dX7_mend_35 : decode cX7_mend 35 = .ok (.iconst 0, 1) := by decide +kernel
theorem dX7_mend_36 : decode cX7_mend 36 = .ok (.istore 9, 2) := by decide +kernel
theorem dX7_mend_38 : decode cX7_mend 38 = .ok (.iload 9, 2) := by decide +kernel
theorem dX7_mend_40 : decode cX7_mend 40 = .ok (.iconst 4, 1) := by decide +kernel
theorem dX7_mend_41 : decode cX7_mend 41 = .ok (.if_icmp .ge 82, 3) := by decide +kernel
theorem dX7_mend_44 : decode cX7_mend 44 = .ok (.aload_n 0, 1) := by decide +kernel
theorem dX7_mend_45 : decode cX7_mend 45 = .ok (.aload 5, 2) := by decide +kernel
theorem dX7_mend_47 : decode cX7_mend 47 = .ok (.aload 6, 2) := by decide +kernel
theorem dX7_mend_49 : decode cX7_mend 49 = .ok (.iload_n 2, 1) := by decide +kernel
theorem dX7_mend_50 : decode cX7_mend 50 = .ok (.iload 4, 2) := by decide +kernel
theorem dX7_mend_52 : decode cX7_mend 52 = .ok (.invokevirtual 271, 3) := by decide +kernel
theorem dX7_mend_55 : decode cX7_mend 55 = .ok (.aload_n 0, 1) := by decide +kernel
theorem dX7_mend_56 : decode cX7_mend 56 = .ok (.getfield 68, 3) := by decide +kernel
theorem dX7_mend_59 : decode cX7_mend 59 = .ok (.getfield 275, 3) := by decide +kernel
theorem dX7_mend_62 : decode cX7_mend 62 = .ok (.iconst (-1), 1) := by decide +kernel
theorem dX7_mend_63 : decode cX7_mend 63 = .ok (.if_icmp .eq 60, 3) := by decide +kernel
theorem dX7_mend_66 : decode cX7_mend 66 = .ok (.aload_n 0, 1) := by decide +kernel
theorem dX7_mend_67 : decode cX7_mend 67 = .ok (.getfield 68, 3) := by decide +kernel
theorem dX7_mend_70 : decode cX7_mend 70 = .ok (.getfield 286, 3) := by decide +kernel
theorem dX7_mend_73 : decode cX7_mend 73 = .ok (.lload 7, 2) := by decide +kernel
theorem dX7_mend_75 : decode cX7_mend 75 = .ok (.lcmp, 1) := by decide +kernel
theorem dX7_mend_76 : decode cX7_mend 76 = .ok (.ifCond .gt 6, 3) := by decide +kernel
theorem dX7_mend_79 : decode cX7_mend 79 = .ok (.goto 44, 3) := by decide +kernel
theorem dX7_mend_82 : decode cX7_mend 82 = .ok (.aload_n 0, 1) := by decide +kernel
theorem dX7_mend_83 : decode cX7_mend 83 = .ok (.getfield 68, 3) := by decide +kernel
theorem dX7_mend_86 : decode cX7_mend 86 = .ok (.getfield 286, 3) := by decide +kernel
theorem dX7_mend_89 : decode cX7_mend 89 = .ok (.lstore 7, 2) := by decide +kernel
theorem dX7_mend_91 : decode cX7_mend 91 = .ok (.aload 5, 2) := by decide +kernel
theorem dX7_mend_93 : decode cX7_mend 93 = .ok (.aload_n 0, 1) := by decide +kernel
theorem dX7_mend_94 : decode cX7_mend 94 = .ok (.getfield 68, 3) := by decide +kernel
theorem dX7_mend_97 : decode cX7_mend 97 = .ok (.getfield 275, 3) := by decide +kernel
theorem dX7_mend_100 : decode cX7_mend 100 = .ok (.aload_n 0, 1) := by decide +kernel
theorem dX7_mend_101 : decode cX7_mend 101 = .ok (.getfield 68, 3) := by decide +kernel
theorem dX7_mend_104 : decode cX7_mend 104 = .ok (.getfield 280, 3) := by decide +kernel
theorem dX7_mend_107 : decode cX7_mend 107 = .ok (.aload_n 0, 1) := by decide +kernel
theorem dX7_mend_108 : decode cX7_mend 108 = .ok (.getfield 68, 3) := by decide +kernel
theorem dX7_mend_111 : decode cX7_mend 111 = .ok (.getfield 283, 3) := by decide +kernel
theorem dX7_mend_114 : decode cX7_mend 114 = .ok (.invokevirtual 290, 3) := by decide +kernel
theorem dX7_mend_117 : decode cX7_mend 117 = .ok (.iinc 9 1, 3) := by decide +kernel
theorem dX7_mend_120 : decode cX7_mend 120 = .ok (.goto (-82), 3) := by decide +kernel
theorem dX7_mend_123 : decode cX7_mend 123 = .ok (.iload 9, 2) := by decide +kernel
theorem dX7_mend_125 : decode cX7_mend 125 = .ok (.ireturn, 1) := by decide +kernel
theorem dX7_hoop_0 : decode cX7_hoop 0 = .ok (.aload_n 0, 1) := by decide +kernel
theorem dX7_hoop_1 : decode cX7_hoop 1 = .ok (.aload_n 0, 1) := by decide +kernel
theorem dX7_hoop_2 : decode cX7_hoop 2 = .ok (.iload_n 1, 1) := by decide +kernel
theorem dX7_hoop_3 : decode cX7_hoop 3 = .ok (.invokevirtual 126, 3) := by decide +kernel
theorem dX7_hoop_6 : decode cX7_hoop 6 = .ok (.invokevirtual 140, 3) := by decide +kernel
theorem dX7_hoop_9 : decode cX7_hoop 9 = .ok (.iload_n 2, 1) := by decide +kernel
theorem dX7_hoop_10 : decode cX7_hoop 10 = .ok (.iload_n 3, 1) := by decide +kernel
theorem dX7_hoop_11 : decode cX7_hoop 11 = .ok (.iload 4, 2) := by decide +kernel
theorem dX7_hoop_13 : decode cX7_hoop 13 = .ok (.invokestatic 165, 3) := by decide +kernel
theorem dX7_hoop_16 : decode cX7_hoop 16 = .ok (.iload 5, 2) := by decide +kernel
theorem dX7_hoop_18 : decode cX7_hoop 18 = .ok (.iload 6, 2) := by decide +kernel
theorem dX7_hoop_20 : decode cX7_hoop 20 = .ok (.iload 7, 2) := by decide +kernel
theorem dX7_hoop_22 : decode cX7_hoop 22 = .ok (.invokestatic 293, 3) := by decide +kernel
theorem dX7_hoop_25 : decode cX7_hoop 25 = .ok (.aload_n 0, 1) := by decide +kernel
theorem dX7_hoop_26 : decode cX7_hoop 26 = .ok (.getfield 48, 3) := by decide +kernel
theorem dX7_hoop_29 : decode cX7_hoop 29 = .ok (.iload_n 2, 1) := by decide +kernel
theorem dX7_hoop_30 : decode cX7_hoop 30 = .ok (.iload_n 3, 1) := by decide +kernel
theorem dX7_hoop_31 : decode cX7_hoop 31 = .ok (.iload 4, 2) := by decide +kernel
theorem dX7_hoop_33 : decode cX7_hoop 33 = .ok (.invokevirtual 190, 3) := by decide +kernel
theorem dX7_hoop_36 : decode cX7_hoop 36 = .ok (.aload_n 0, 1) := by decide +kernel
theorem dX7_hoop_37 : decode cX7_hoop 37 = .ok (.getfield 48, 3) := by decide +kernel
theorem dX7_hoop_40 : decode cX7_hoop 40 = .ok (.iload 5, 2) := by decide +kernel
theorem dX7_hoop_42 : decode cX7_hoop 42 = .ok (.iload 6, 2) := by decide +kernel
theorem dX7_hoop_44 : decode cX7_hoop 44 = .ok (.iload 7, 2) := by decide +kernel
theorem dX7_hoop_46 : decode cX7_hoop 46 = .ok (.invokevirtual 296, 3) := by decide +kernel
theorem dX7_hoop_49 : decode cX7_hoop 49 = .ok (.ireturn, 1) := by decide +kernel
theorem dX7_odds_0 : decode cX7_odds 0 = .ok (.aload_n 0, 1) := by decide +kernel
theorem dX7_odds_1 : decode cX7_odds 1 = .ok (.iload_n 1, 1) := by decide +kernel
theorem dX7_odds_2 : decode cX7_odds 2 = .ok (.invokevirtual 126, 3) := by decide +kernel
theorem dX7_odds_5 : decode cX7_odds 5 = .ok (.astore 8, 2) := by decide +kernel
theorem dX7_odds_7 : decode cX7_odds 7 = .ok (.aload_n 0, 1) := by decide +kernel
theorem dX7_odds_8 : decode cX7_odds 8 = .ok (.iload_n 3, 1) := by decide +kernel
theorem dX7_odds_9 : decode cX7_odds 9 = .ok (.invokevirtual 246, 3) := by decide +kernel
theorem dX7_odds_12 : decode cX7_odds 12 = .ok (.astore 9, 2) := by decide +kernel
theorem dX7_odds_14 : decode cX7_odds 14 = .ok (.aload_n 0, 1) := by decide +kernel
theorem dX7_odds_15 : decode cX7_odds 15 = .ok (.aload 8, 2) := by decide +kernel
theorem dX7_odds_17 : decode cX7_odds 17 = .ok (.invokevirtual 140, 3) := by decide +kernel
theorem dX7_odds_20 : decode cX7_odds 20 = .ok (.iload_n 2, 1) := by decide +kernel
theorem dX7_odds_21 : decode cX7_odds 21 = .ok (.invokestatic 229, 3) := by decide +kernel
theorem dX7_odds_24 : decode cX7_odds 24 = .ok (.iload 4, 2) := by decide +kernel
theorem dX7_odds_26 : decode cX7_odds 26 = .ok (.iconst 1, 1) := by decide +kernel
theorem dX7_odds_27 : decode cX7_odds 27 = .ok (.iconst 4, 1) := by decide +kernel
theorem dX7_odds_28 : decode cX7_odds 28 = .ok (.invokestatic 76, 3) := by decide +kernel
theorem dX7_odds_31 : decode cX7_odds 31 = .ok (.iload 5, 2) := by decide +kernel
theorem dX7_odds_33 : decode cX7_odds 33 = .ok (.iload 6, 2) := by decide +kernel
theorem dX7_odds_35 : decode cX7_odds 35 = .ok (.iload 7, 2) := by decide +kernel
theorem dX7_odds_37 : decode cX7_odds 37 = .ok (.invokestatic 293, 3) := by decide +kernel
theorem dX7_odds_40 : decode cX7_odds 40 = .ok (.lconst 0, 1) := by decide +kernel
theorem dX7_odds_41 : decode cX7_odds 41 = .ok (.lstore 10, 2) := by decide +kernel
theorem dX7_odds_43 : decode cX7_odds 43 = .ok (.lconst 0, 1) := by decide +kernel
theorem dX7_odds_44 : decode cX7_odds 44 = .ok (.lstore 12, 2) := by decide +kernel
theorem dX7_odds_46 : decode cX7_odds 46 = .ok (.iconst 0, 1) := by decide +kernel
theorem dX7_odds_47 : decode cX7_odds 47 = .ok (.istore 14, 2) := by decide +kernel
theorem dX7_odds_49 : decode cX7_odds 49 = .ok (.iload 14, 2) := by decide +kernel
theorem dX7_odds_51 : decode cX7_odds 51 = .ok (.aload 9, 2) := by decide +kernel
theorem dX7_odds_53 : decode cX7_odds 53 = .ok (.getfield 130, 3) := by decide +kernel
theorem dX7_odds_56 : decode cX7_odds 56 = .ok (.if_icmp .ge 75, 3) := by decide +kernel
theorem dX7_odds_59 : decode cX7_odds 59 = .ok (.aload 9, 2) := by decide +kernel
theorem dX7_odds_61 : decode cX7_odds 61 = .ok (.iload 14, 2) := by decide +kernel
theorem dX7_odds_63 : decode cX7_odds 63 = .ok (.iconst 2, 1) := by decide +kernel
theorem dX7_odds_64 : decode cX7_odds 64 = .ok (.invokevirtual 300, 3) := by decide +kernel
theorem dX7_odds_67 : decode cX7_odds 67 = .ok (.istore 15, 2) := by decide +kernel
theorem dX7_odds_69 : decode cX7_odds 69 = .ok (.lload 10, 2) := by decide +kernel
theorem dX7_odds_71 : decode cX7_odds 71 = .ok (.iload 15, 2) := by decide +kernel
theorem dX7_odds_73 : decode cX7_odds 73 = .ok (.i2l, 1) := by decide +kernel
theorem dX7_odds_74 : decode cX7_odds 74 = .ok (.ladd, 1) := by decide +kernel
theorem dX7_odds_75 : decode cX7_odds 75 = .ok (.lstore 10, 2) := by decide +kernel
theorem dX7_odds_77 : decode cX7_odds 77 = .ok (.aload_n 0, 1) := by decide +kernel
theorem dX7_odds_78 : decode cX7_odds 78 = .ok (.getfield 48, 3) := by decide +kernel
theorem dX7_odds_81 : decode cX7_odds 81 = .ok (.iload_n 2, 1) := by decide +kernel
theorem dX7_odds_82 : decode cX7_odds 82 = .ok (.aload 9, 2) := by decide +kernel
theorem dX7_odds_84 : decode cX7_odds 84 = .ok (.iload 14, 2) := by decide +kernel
theorem dX7_odds_86 : decode cX7_odds 86 = .ok (.iconst 0, 1) := by decide +kernel
theorem dX7_odds_87 : decode cX7_odds 87 = .ok (.invokevirtual 300, 3) := by decide +kernel
theorem dX7_odds_90 : decode cX7_odds 90 = .ok (.aload 9, 2) := by decide +kernel
theorem dX7_odds_92 : decode cX7_odds 92 = .ok (.iload 14, 2) := by decide +kernel
theorem dX7_odds_94 : decode cX7_odds 94 = .ok (.iconst 1, 1) := by decide +kernel
theorem dX7_odds_95 : decode cX7_odds 95 = .ok (.invokevirtual 300, 3) := by decide +kernel
theorem dX7_odds_98 : decode cX7_odds 98 = .ok (.invokevirtual 190, 3) := by decide +kernel
theorem dX7_odds_101 : decode cX7_odds 101 = .ok (.aload_n 0, 1) := by decide +kernel
theorem dX7_odds_102 : decode cX7_odds 102 = .ok (.getfield 48, 3) := by decide +kernel
theorem dX7_odds_105 : decode cX7_odds 105 = .ok (.iload 5, 2) := by decide +kernel
theorem dX7_odds_107 : decode cX7_odds 107 = .ok (.iload 6, 2) := by decide +kernel
theorem dX7_odds_109 : decode cX7_odds 109 = .ok (.iload 7, 2) := by decide +kernel
theorem dX7_odds_111 : decode cX7_odds 111 = .ok (.invokevirtual 296, 3) := by decide +kernel
theorem dX7_odds_114 : decode cX7_odds 114 = .ok (.ifCond .ne 11, 3) := by decide +kernel
theorem dX7_odds_117 : decode cX7_odds 117 = .ok (.lload 12, 2) := by decide +kernel
theorem dX7_odds_119 : decode cX7_odds 119 = .ok (.iload 15, 2) := by decide +kernel
theorem dX7_odds_121 : decode cX7_odds 121 = .ok (.i2l, 1) := by decide +kernel
theorem dX7_odds_122 : decode cX7_odds 122 = .ok (.ladd, 1) := by decide +kernel
theorem dX7_odds_123 : decode cX7_odds 123 = .ok (.lstore 12, 2) := by decide +kernel
theorem dX7_odds_125 : decode cX7_odds 125 = .ok (.iinc 14 1, 3) := by decide +kernel
theorem dX7_odds_128 : decode cX7_odds 128 = .ok (.goto (-79), 3) := by decide +kernel
theorem dX7_odds_131 : decode cX7_odds 131 = .ok (.lload 10, 2) := by decide +kernel
theorem dX7_odds_133 : decode cX7_odds 133 = .ok (.iload 4, 2) := by decide +kernel
theorem dX7_odds_135 : decode cX7_odds 135 = .ok (.invokestatic 303, 3) := by decide +kernel
theorem dX7_odds_138 : decode cX7_odds 138 = .ok (.lload 12, 2) := by decide +kernel
theorem dX7_odds_140 : decode cX7_odds 140 = .ok (.iload 4, 2) := by decide +kernel
theorem dX7_odds_142 : decode cX7_odds 142 = .ok (.invokestatic 303, 3) := by decide +kernel
theorem dX7_odds_145 : decode cX7_odds 145 = .ok (.lsub, 1) := by decide +kernel
theorem dX7_odds_146 : decode cX7_odds 146 = .ok (.lreturn, 1) := by decide +kernel
theorem dX7_enter_0 : decode cX7_enter 0 = .ok (.aload_n 0, 1) := by decide +kernel
theorem dX7_enter_1 : decode cX7_enter 1 = .ok (.iload_n 1, 1) := by decide +kernel
theorem dX7_enter_2 : decode cX7_enter 2 = .ok (.invokevirtual 126, 3) := by decide +kernel
theorem dX7_enter_5 : decode cX7_enter 5 = .ok (.pop, 1) := by decide +kernel
theorem dX7_enter_6 : decode cX7_enter 6 = .ok (.aload_n 0, 1) := by decide +kernel
theorem dX7_enter_7 : decode cX7_enter 7 = .ok (.iload_n 3, 1) := by decide +kernel
theorem dX7_enter_8 : decode cX7_enter 8 = .ok (.invokevirtual 246, 3) := by decide +kernel
theorem dX7_enter_11 : decode cX7_enter 11 = .ok (.pop, 1) := by decide +kernel
theorem dX7_enter_12 : decode cX7_enter 12 = .ok (.iload_n 2, 1) := by decide +kernel
theorem dX7_enter_13 : decode cX7_enter 13 = .ok (.invokestatic 229, 3) := by decide +kernel
theorem dX7_enter_16 : decode cX7_enter 16 = .ok (.aload_n 0, 1) := by decide +kernel
theorem dX7_enter_17 : decode cX7_enter 17 = .ok (.getfield 12, 3) := by decide +kernel
theorem dX7_enter_20 : decode cX7_enter 20 = .ok (.getfield 307, 3) := by decide +kernel
theorem dX7_enter_23 : decode cX7_enter 23 = .ok (.iload_n 1, 1) := by decide +kernel
theorem dX7_enter_24 : decode cX7_enter 24 = .ok (.iload_n 2, 1) := by decide +kernel
theorem dX7_enter_25 : decode cX7_enter 25 = .ok (.iload_n 3, 1) := by decide +kernel
theorem dX7_enter_26 : decode cX7_enter 26 = .ok (.invokevirtual 218, 3) := by decide +kernel
theorem dX7_enter_29 : decode cX7_enter 29 = .ok (.ireturn, 1) := by decide +kernel
theorem dX7_wins_0 : decode cX7_wins 0 = .ok (.iload_n 1, 1) := by decide +kernel
theorem dX7_wins_1 : decode cX7_wins 1 = .ok (.ifCond .lt 17, 3) := by decide +kernel
theorem dX7_wins_4 : decode cX7_wins 4 = .ok (.iload_n 1, 1) := by decide +kernel
theorem dX7_wins_5 : decode cX7_wins 5 = .ok (.aload_n 0, 1) := by decide +kernel
theorem dX7_wins_6 : decode cX7_wins 6 = .ok (.getfield 12, 3) := by decide +kernel
theorem dX7_wins_9 : decode cX7_wins 9 = .ok (.getfield 307, 3) := by decide +kernel
theorem dX7_wins_12 : decode cX7_wins 12 = .ok (.getfield 130, 3) := by decide +kernel
theorem dX7_wins_15 : decode cX7_wins 15 = .ok (.if_icmp .lt 14, 3) := by decide +kernel
theorem dX7_wins_18 : decode cX7_wins 18 = .ok (.new 310, 3) := by decide +kernel
theorem dX7_wins_21 : decode cX7_wins 21 = .ok (.dup, 1) := by decide +kernel
theorem dX7_wins_22 : decode cX7_wins 22 = .ok (.ldc_w 312, 3) := by decide +kernel
theorem dX7_wins_25 : decode cX7_wins 25 = .ok (.invokespecial 314, 3) := by decide +kernel
theorem dX7_wins_28 : decode cX7_wins 28 = .ok (.athrow, 1) := by decide +kernel
theorem dX7_wins_29 : decode cX7_wins 29 = .ok (.aload_n 0, 1) := by decide +kernel
theorem dX7_wins_30 : decode cX7_wins 30 = .ok (.invokevirtual 315, 3) := by decide +kernel
theorem dX7_wins_33 : decode cX7_wins 33 = .ok (.ifCond .ne 5, 3) := by decide +kernel
theorem dX7_wins_36 : decode cX7_wins 36 = .ok (.lconst 0, 1) := by decide +kernel
theorem dX7_wins_37 : decode cX7_wins 37 = .ok (.lreturn, 1) := by decide +kernel
theorem dX7_wins_38 : decode cX7_wins 38 = .ok (.aload_n 0, 1) := by decide +kernel
theorem dX7_wins_39 : decode cX7_wins 39 = .ok (.getfield 12, 3) := by decide +kernel
theorem dX7_wins_42 : decode cX7_wins 42 = .ok (.aload_n 0, 1) := by decide +kernel
theorem dX7_wins_43 : decode cX7_wins 43 = .ok (.getfield 12, 3) := by decide +kernel
theorem dX7_wins_46 : decode cX7_wins 46 = .ok (.getfield 307, 3) := by decide +kernel
theorem dX7_wins_49 : decode cX7_wins 49 = .ok (.iload_n 1, 1) := by decide +kernel
theorem dX7_wins_50 : decode cX7_wins 50 = .ok (.iconst 2, 1) := by decide +kernel
theorem dX7_wins_51 : decode cX7_wins 51 = .ok (.invokevirtual 300, 3) := by decide +kernel
theorem dX7_wins_54 : decode cX7_wins 54 = .ok (.invokevirtual 318, 3) := by decide +kernel
theorem dX7_wins_57 : decode cX7_wins 57 = .ok (.astore_n 2, 1) := by decide +kernel
theorem dX7_wins_58 : decode cX7_wins 58 = .ok (.aload_n 2, 1) := by decide +kernel
theorem dX7_wins_59 : decode cX7_wins 59 = .ok (.ifnonnull 5, 3) := by decide +kernel
theorem dX7_wins_62 : decode cX7_wins 62 = .ok (.lconst 0, 1) := by decide +kernel
theorem dX7_wins_63 : decode cX7_wins 63 = .ok (.lreturn, 1) := by decide +kernel
theorem dX7_wins_64 : decode cX7_wins 64 = .ok (.lconst 0, 1) := by decide +kernel
theorem dX7_wins_65 : decode cX7_wins 65 = .ok (.lstore_n 3, 1) := by decide +kernel
theorem dX7_wins_66 : decode cX7_wins 66 = .ok (.iconst 0, 1) := by decide +kernel
theorem dX7_wins_67 : decode cX7_wins 67 = .ok (.istore 5, 2) := by decide +kernel
theorem dX7_wins_69 : decode cX7_wins 69 = .ok (.iload 5, 2) := by decide +kernel
theorem dX7_wins_71 : decode cX7_wins 71 = .ok (.aload_n 2, 1) := by decide +kernel
theorem dX7_wins_72 : decode cX7_wins 72 = .ok (.getfield 130, 3) := by decide +kernel
theorem dX7_wins_75 : decode cX7_wins 75 = .ok (.if_icmp .ge 33, 3) := by decide +kernel
theorem dX7_wins_78 : decode cX7_wins 78 = .ok (.lload_n 3, 1) := by decide +kernel
theorem dX7_wins_79 : decode cX7_wins 79 = .ok (.aload_n 2, 1) := by decide +kernel
theorem dX7_wins_80 : decode cX7_wins 80 = .ok (.iload 5, 2) := by decide +kernel
theorem dX7_wins_82 : decode cX7_wins 82 = .ok (.iconst 2, 1) := by decide +kernel
theorem dX7_wins_83 : decode cX7_wins 83 = .ok (.invokevirtual 300, 3) := by decide +kernel
theorem dX7_wins_86 : decode cX7_wins 86 = .ok (.i2l, 1) := by decide +kernel
theorem dX7_wins_87 : decode cX7_wins 87 = .ok (.aload_n 0, 1) := by decide +kernel
theorem dX7_wins_88 : decode cX7_wins 88 = .ok (.iload_n 1, 1) := by decide +kernel
theorem dX7_wins_89 : decode cX7_wins 89 = .ok (.aload_n 0, 1) := by decide +kernel
theorem dX7_wins_90 : decode cX7_wins 90 = .ok (.iload_n 1, 1) := by decide +kernel
theorem dX7_wins_91 : decode cX7_wins 91 = .ok (.iload 5, 2) := by decide +kernel
theorem dX7_wins_93 : decode cX7_wins 93 = .ok (.invokevirtual 321, 3) := by decide +kernel
theorem dX7_wins_96 : decode cX7_wins 96 = .ok (.invokevirtual 324, 3) := by decide +kernel
theorem dX7_wins_99 : decode cX7_wins 99 = .ok (.lmul, 1) := by decide +kernel
theorem dX7_wins_100 : decode cX7_wins 100 = .ok (.ladd, 1) := by decide +kernel
theorem dX7_wins_101 : decode cX7_wins 101 = .ok (.lstore_n 3, 1) := by decide +kernel
theorem dX7_wins_102 : decode cX7_wins 102 = .ok (.iinc 5 1, 3) := by decide +kernel
theorem dX7_wins_105 : decode cX7_wins 105 = .ok (.goto (-36), 3) := by decide +kernel
theorem dX7_wins_108 : decode cX7_wins 108 = .ok (.lload_n 3, 1) := by decide +kernel
theorem dX7_wins_109 : decode cX7_wins 109 = .ok (.lreturn, 1) := by decide +kernel
theorem dX7_hours_0 : decode cX7_hours 0 = .ok (.aload_n 0, 1) := by decide +kernel
theorem dX7_hours_1 : decode cX7_hours 1 = .ok (.iload_n 1, 1) := by decide +kernel
theorem dX7_hours_2 : decode cX7_hours 2 = .ok (.invokevirtual 126, 3) := by decide +kernel
theorem dX7_hours_5 : decode cX7_hours 5 = .ok (.astore 7, 2) := by decide +kernel
theorem dX7_hours_7 : decode cX7_hours 7 = .ok (.aload_n 0, 1) := by decide +kernel
theorem dX7_hours_8 : decode cX7_hours 8 = .ok (.iload_n 3, 1) := by decide +kernel
theorem dX7_hours_9 : decode cX7_hours 9 = .ok (.invokevirtual 246, 3) := by decide +kernel
theorem dX7_hours_12 : decode cX7_hours 12 = .ok (.astore 8, 2) := by decide +kernel
theorem dX7_hours_14 : decode cX7_hours 14 = .ok (.aload_n 0, 1) := by decide +kernel
theorem dX7_hours_15 : decode cX7_hours 15 = .ok (.aload 7, 2) := by decide +kernel
theorem dX7_hours_17 : decode cX7_hours 17 = .ok (.invokevirtual 140, 3) := by decide +kernel
theorem dX7_hours_20 : decode cX7_hours 20 = .ok (.iload_n 2, 1) := by decide +kernel
theorem dX7_hours_21 : decode cX7_hours 21 = .ok (.invokestatic 229, 3) := by decide +kernel
theorem dX7_hours_24 : decode cX7_hours 24 = .ok (.iconst 0, 1) := by decide +kernel
theorem dX7_hours_25 : decode cX7_hours 25 = .ok (.istore 9, 2) := by decide +kernel
theorem dX7_hours_27 : decode cX7_hours 27 = .ok (.iload 9, 2) := by decide +kernel
theorem dX7_hours_29 : decode cX7_hours 29 = .ok (.bipush 18, 2) := by decide +kernel
theorem dX7_hours_31 : decode cX7_hours 31 = .ok (.if_icmp .gt 53, 3) := by decide +kernel
theorem dX7_hours_34 : decode cX7_hours 34 = .ok (.iload_n 2, 1) := by decide +kernel
theorem dX7_hours_35 : decode cX7_hours 35 = .ok (.invokestatic 328, 3) := by decide +kernel
theorem dX7_hours_38 : decode cX7_hours 38 = .ok (.iload 9, 2) := by decide +kernel
theorem dX7_hours_40 : decode cX7_hours 40 = .ok (.iconst 2, 1) := by decide +kernel
theorem dX7_hours_41 : decode cX7_hours 41 = .ok (.idiv, 1) := by decide +kernel
theorem dX7_hours_42 : decode cX7_hours 42 = .ok (.isub, 1) := by decide +kernel
theorem dX7_hours_43 : decode cX7_hours 43 = .ok (.iconst 0, 1) := by decide +kernel
theorem dX7_hours_44 : decode cX7_hours 44 = .ok (.invokestatic 334, 3) := by decide +kernel
theorem dX7_hours_47 : decode cX7_hours 47 = .ok (.istore 10, 2) := by decide +kernel
theorem dX7_hours_49 : decode cX7_hours 49 = .ok (.aload_n 0, 1) := by decide +kernel
theorem dX7_hours_50 : decode cX7_hours 50 = .ok (.aload 8, 2) := by decide +kernel
theorem dX7_hours_52 : decode cX7_hours 52 = .ok (.iload_n 2, 1) := by decide +kernel
theorem dX7_hours_53 : decode cX7_hours 53 = .ok (.ifCond .ge 9, 3) := by decide +kernel
theorem dX7_hours_56 : decode cX7_hours 56 = .ok (.iload 10, 2) := by decide +kernel
theorem dX7_hours_58 : decode cX7_hours 58 = .ok (.ineg, 1) := by decide +kernel
theorem dX7_hours_59 : decode cX7_hours 59 = .ok (.goto 5, 3) := by decide +kernel
theorem dX7_hours_62 : decode cX7_hours 62 = .ok (.iload 10, 2) := by decide +kernel
theorem dX7_hours_64 : decode cX7_hours 64 = .ok (.iload 4, 2) := by decide +kernel
theorem dX7_hours_66 : decode cX7_hours 66 = .ok (.invokevirtual 260, 3) := by decide +kernel
theorem dX7_hours_69 : decode cX7_hours 69 = .ok (.lload 5, 2) := by decide +kernel
theorem dX7_hours_71 : decode cX7_hours 71 = .ok (.lcmp, 1) := by decide +kernel
theorem dX7_hours_72 : decode cX7_hours 72 = .ok (.ifCond .ge 6, 3) := by decide +kernel
theorem dX7_hours_75 : decode cX7_hours 75 = .ok (.iload 9, 2) := by decide +kernel
theorem dX7_hours_77 : decode cX7_hours 77 = .ok (.ireturn, 1) := by decide +kernel
theorem dX7_hours_78 : decode cX7_hours 78 = .ok (.iinc 9 2, 3) := by decide +kernel
theorem dX7_hours_81 : decode cX7_hours 81 = .ok (.goto (-54), 3) := by decide +kernel
theorem dX7_hours_84 : decode cX7_hours 84 = .ok (.iconst (-1), 1) := by decide +kernel
theorem dX7_hours_85 : decode cX7_hours 85 = .ok (.ireturn, 1) := by decide +kernel
theorem dX7_seen_0 : decode cX7_seen 0 = .ok (.aload_n 0, 1) := by decide +kernel
theorem dX7_seen_1 : decode cX7_seen 1 = .ok (.aload_n 0, 1) := by decide +kernel
theorem dX7_seen_2 : decode cX7_seen 2 = .ok (.iload_n 1, 1) := by decide +kernel
theorem dX7_seen_3 : decode cX7_seen 3 = .ok (.invokevirtual 126, 3) := by decide +kernel
theorem dX7_seen_6 : decode cX7_seen 6 = .ok (.invokevirtual 140, 3) := by decide +kernel
theorem dX7_seen_9 : decode cX7_seen 9 = .ok (.iload_n 2, 1) := by decide +kernel
theorem dX7_seen_10 : decode cX7_seen 10 = .ok (.bipush 10, 2) := by decide +kernel
theorem dX7_seen_12 : decode cX7_seen 12 = .ok (.sipush 999, 3) := by decide +kernel
theorem dX7_seen_15 : decode cX7_seen 15 = .ok (.invokestatic 76, 3) := by decide +kernel
theorem dX7_seen_18 : decode cX7_seen 18 = .ok (.iload_n 3, 1) := by decide +kernel
theorem dX7_seen_19 : decode cX7_seen 19 = .ok (.bipush (-16), 2) := by decide +kernel
theorem dX7_seen_21 : decode cX7_seen 21 = .ok (.bipush 16, 2) := by decide +kernel
theorem dX7_seen_23 : decode cX7_seen 23 = .ok (.invokestatic 76, 3) := by decide +kernel
theorem dX7_seen_26 : decode cX7_seen 26 = .ok (.iconst 0, 1) := by decide +kernel
theorem dX7_seen_27 : decode cX7_seen 27 = .ok (.istore 6, 2) := by decide +kernel
theorem dX7_seen_29 : decode cX7_seen 29 = .ok (.bipush (-9), 2) := by decide +kernel
theorem dX7_seen_31 : decode cX7_seen 31 = .ok (.istore 7, 2) := by decide +kernel
theorem dX7_seen_33 : decode cX7_seen 33 = .ok (.iload 7, 2) := by decide +kernel
theorem dX7_seen_35 : decode cX7_seen 35 = .ok (.bipush 9, 2) := by decide +kernel
theorem dX7_seen_37 : decode cX7_seen 37 = .ok (.if_icmp .gt 56, 3) := by decide +kernel
theorem dX7_seen_40 : decode cX7_seen 40 = .ok (.aload_n 0, 1) := by decide +kernel
theorem dX7_seen_41 : decode cX7_seen 41 = .ok (.getfield 48, 3) := by decide +kernel
theorem dX7_seen_44 : decode cX7_seen 44 = .ok (.iload 7, 2) := by decide +kernel
theorem dX7_seen_46 : decode cX7_seen 46 = .ok (.iload_n 2, 1) := by decide +kernel
theorem dX7_seen_47 : decode cX7_seen 47 = .ok (.iload_n 3, 1) := by decide +kernel
theorem dX7_seen_48 : decode cX7_seen 48 = .ok (.invokevirtual 168, 3) := by decide +kernel
theorem dX7_seen_51 : decode cX7_seen 51 = .ok (.aload_n 0, 1) := by decide +kernel
theorem dX7_seen_52 : decode cX7_seen 52 = .ok (.getfield 48, 3) := by decide +kernel
theorem dX7_seen_55 : decode cX7_seen 55 = .ok (.getfield 171, 3) := by decide +kernel
theorem dX7_seen_58 : decode cX7_seen 58 = .ok (.iload 4, 2) := by decide +kernel
theorem dX7_seen_60 : decode cX7_seen 60 = .ok (.if_icmp .ne 27, 3) := by decide +kernel
theorem dX7_seen_63 : decode cX7_seen 63 = .ok (.aload_n 0, 1) := by decide +kernel
theorem dX7_seen_64 : decode cX7_seen 64 = .ok (.getfield 48, 3) := by decide +kernel
theorem dX7_seen_67 : decode cX7_seen 67 = .ok (.getfield 174, 3) := by decide +kernel
theorem dX7_seen_70 : decode cX7_seen 70 = .ok (.iload 5, 2) := by decide +kernel
theorem dX7_seen_72 : decode cX7_seen 72 = .ok (.if_icmp .ne 15, 3) := by decide +kernel
theorem dX7_seen_75 : decode cX7_seen 75 = .ok (.iload 6, 2) := by decide +kernel
theorem dX7_seen_77 : decode cX7_seen 77 = .ok (.iconst 1, 1) := by decide +kernel
theorem dX7_seen_78 : decode cX7_seen 78 = .ok (.iload 7, 2) := by decide +kernel
theorem dX7_seen_80 : decode cX7_seen 80 = .ok (.bipush 9, 2) := by decide +kernel
theorem dX7_seen_82 : decode cX7_seen 82 = .ok (.iadd, 1) := by decide +kernel
theorem dX7_seen_83 : decode cX7_seen 83 = .ok (.ishl, 1) := by decide +kernel
theorem dX7_seen_84 : decode cX7_seen 84 = .ok (.ior, 1) := by decide +kernel
theorem dX7_seen_85 : decode cX7_seen 85 = .ok (.istore 6, 2) := by decide +kernel
theorem dX7_seen_87 : decode cX7_seen 87 = .ok (.iinc 7 1, 3) := by decide +kernel
theorem dX7_seen_90 : decode cX7_seen 90 = .ok (.goto (-57), 3) := by decide +kernel
theorem dX7_seen_93 : decode cX7_seen 93 = .ok (.iload 6, 2) := by decide +kernel
theorem dX7_seen_95 : decode cX7_seen 95 = .ok (.ireturn, 1) := by decide +kernel
theorem dX7_found_0 : decode cX7_found 0 = .ok (.aload_n 0, 1) := by decide +kernel
theorem dX7_found_1 : decode cX7_found 1 = .ok (.iload_n 1, 1) := by decide +kernel
theorem dX7_found_2 : decode cX7_found 2 = .ok (.iload_n 2, 1) := by decide +kernel
theorem dX7_found_3 : decode cX7_found 3 = .ok (.invokevirtual 337, 3) := by decide +kernel
theorem dX7_found_6 : decode cX7_found 6 = .ok (.ifCond .ne 23, 3) := by decide +kernel
theorem dX7_found_9 : decode cX7_found 9 = .ok (.aload_n 0, 1) := by decide +kernel
theorem dX7_found_10 : decode cX7_found 10 = .ok (.iload_n 1, 1) := by decide +kernel
theorem dX7_found_11 : decode cX7_found 11 = .ok (.iload_n 2, 1) := by decide +kernel
theorem dX7_found_12 : decode cX7_found 12 = .ok (.invokevirtual 340, 3) := by decide +kernel
theorem dX7_found_15 : decode cX7_found 15 = .ok (.ifCond .ne 14, 3) := by decide +kernel
theorem dX7_found_18 : decode cX7_found 18 = .ok (.aload_n 0, 1) := by decide +kernel
theorem dX7_found_19 : decode cX7_found 19 = .ok (.iload_n 1, 1) := by decide +kernel
theorem dX7_found_20 : decode cX7_found 20 = .ok (.iload_n 2, 1) := by decide +kernel
theorem dX7_found_21 : decode cX7_found 21 = .ok (.invokevirtual 343, 3) := by decide +kernel
theorem dX7_found_24 : decode cX7_found 24 = .ok (.ifCond .ne 5, 3) := by decide +kernel
theorem dX7_found_27 : decode cX7_found 27 = .ok (.iconst (-1), 1) := by decide +kernel
theorem dX7_found_28 : decode cX7_found 28 = .ok (.ireturn, 1) := by decide +kernel
theorem dX7_found_29 : decode cX7_found 29 = .ok (.iload_n 3, 1) := by decide +kernel
theorem dX7_found_30 : decode cX7_found 30 = .ok (.iconst (-1), 1) := by decide +kernel
theorem dX7_found_31 : decode cX7_found 31 = .ok (.if_icmp .ne 13, 3) := by decide +kernel
theorem dX7_found_34 : decode cX7_found 34 = .ok (.aload_n 0, 1) := by decide +kernel
theorem dX7_found_35 : decode cX7_found 35 = .ok (.getfield 57, 3) := by decide +kernel
theorem dX7_found_38 : decode cX7_found 38 = .ok (.getfield 130, 3) := by decide +kernel
theorem dX7_found_41 : decode cX7_found 41 = .ok (.goto 11, 3) := by decide +kernel
theorem dX7_found_44 : decode cX7_found 44 = .ok (.aload_n 0, 1) := by decide +kernel
theorem dX7_found_45 : decode cX7_found 45 = .ok (.getfield 57, 3) := by decide +kernel
theorem dX7_found_48 : decode cX7_found 48 = .ok (.iload_n 3, 1) := by decide +kernel
theorem dX7_found_49 : decode cX7_found 49 = .ok (.invokestatic 133, 3) := by decide +kernel
theorem dX7_found_52 : decode cX7_found 52 = .ok (.ireturn, 1) := by decide +kernel
theorem dX7_tray_0 : decode cX7_tray 0 = .ok (.aload_n 0, 1) := by decide +kernel
theorem dX7_tray_1 : decode cX7_tray 1 = .ok (.iload_n 1, 1) := by decide +kernel
theorem dX7_tray_2 : decode cX7_tray 2 = .ok (.invokevirtual 346, 3) := by decide +kernel
theorem dX7_tray_5 : decode cX7_tray 5 = .ok (.astore 4, 2) := by decide +kernel
theorem dX7_tray_7 : decode cX7_tray 7 = .ok (.iload_n 2, 1) := by decide +kernel
theorem dX7_tray_8 : decode cX7_tray 8 = .ok (.iconst 0, 1) := by decide +kernel
theorem dX7_tray_9 : decode cX7_tray 9 = .ok (.iconst 3, 1) := by decide +kernel
theorem dX7_tray_10 : decode cX7_tray 10 = .ok (.invokestatic 76, 3) := by decide +kernel
theorem dX7_tray_13 : decode cX7_tray 13 = .ok (.iload_n 3, 1) := by decide +kernel
theorem dX7_tray_14 : decode cX7_tray 14 = .ok (.iconst 0, 1) := by decide +kernel
theorem dX7_tray_15 : decode cX7_tray 15 = .ok (.bipush 12, 2) := by decide +kernel
theorem dX7_tray_17 : decode cX7_tray 17 = .ok (.invokestatic 76, 3) := by decide +kernel
theorem dX7_tray_20 : decode cX7_tray 20 = .ok (.aload 4, 2) := by decide +kernel
theorem dX7_tray_22 : decode cX7_tray 22 = .ok (.iload_n 2, 1) := by decide +kernel
theorem dX7_tray_23 : decode cX7_tray 23 = .ok (.iload_n 3, 1) := by decide +kernel
theorem dX7_tray_24 : decode cX7_tray 24 = .ok (.invokevirtual 350, 3) := by decide +kernel
theorem dX7_tray_27 : decode cX7_tray 27 = .ok (.return_, 1) := by decide +kernel
theorem dX7_write_0 : decode cX7_write 0 = .ok (.aload_n 0, 1) := by decide +kernel
theorem dX7_write_1 : decode cX7_write 1 = .ok (.iload_n 1, 1) := by decide +kernel
theorem dX7_write_2 : decode cX7_write 2 = .ok (.invokevirtual 346, 3) := by decide +kernel
theorem dX7_write_5 : decode cX7_write 5 = .ok (.astore 5, 2) := by decide +kernel
theorem dX7_write_7 : decode cX7_write 7 = .ok (.aload 5, 2) := by decide +kernel
theorem dX7_write_9 : decode cX7_write 9 = .ok (.invokestatic 354, 3) := by decide +kernel
theorem dX7_write_12 : decode cX7_write 12 = .ok (.iload_n 2, 1) := by decide +kernel
theorem dX7_write_13 : decode cX7_write 13 = .ok (.ifCond .lt 12, 3) := by decide +kernel
theorem dX7_write_16 : decode cX7_write 16 = .ok (.iload_n 2, 1) := by decide +kernel
theorem dX7_write_17 : decode cX7_write 17 = .ok (.aload 5, 2) := by decide +kernel
theorem dX7_write_19 : decode cX7_write 19 = .ok (.getfield 358, 3) := by decide +kernel
theorem dX7_write_22 : decode cX7_write 22 = .ok (.if_icmp .lt 14, 3) := by decide +kernel
theorem dX7_write_25 : decode cX7_write 25 = .ok (.new 359, 3) := by decide +kernel
theorem dX7_write_28 : decode cX7_write 28 = .ok (.dup, 1) := by decide +kernel
theorem dX7_write_29 : decode cX7_write 29 = .ok (.ldc_w 361, 3) := by decide +kernel
theorem dX7_write_32 : decode cX7_write 32 = .ok (.invokespecial 363, 3) := by decide +kernel
theorem dX7_write_35 : decode cX7_write 35 = .ok (.athrow, 1) := by decide +kernel
theorem dX7_write_36 : decode cX7_write 36 = .ok (.aload 5, 2) := by decide +kernel
theorem dX7_write_38 : decode cX7_write 38 = .ok (.iload_n 2, 1) := by decide +kernel
theorem dX7_write_39 : decode cX7_write 39 = .ok (.lload_n 3, 1) := by decide +kernel
theorem dX7_write_40 : decode cX7_write 40 = .ok (.invokevirtual 364, 3) := by decide +kernel
theorem dX7_write_43 : decode cX7_write 43 = .ok (.lreturn, 1) := by decide +kernel
theorem dX7_take_0 : decode cX7_take 0 = .ok (.aload_n 0, 1) := by decide +kernel
theorem dX7_take_1 : decode cX7_take 1 = .ok (.iload_n 1, 1) := by decide +kernel
theorem dX7_take_2 : decode cX7_take 2 = .ok (.invokevirtual 346, 3) := by decide +kernel
theorem dX7_take_5 : decode cX7_take 5 = .ok (.astore_n 3, 1) := by decide +kernel
theorem dX7_take_6 : decode cX7_take 6 = .ok (.aload_n 0, 1) := by decide +kernel
theorem dX7_take_7 : decode cX7_take 7 = .ok (.iload_n 2, 1) := by decide +kernel
theorem dX7_take_8 : decode cX7_take 8 = .ok (.invokevirtual 246, 3) := by decide +kernel
theorem dX7_take_11 : decode cX7_take 11 = .ok (.astore 4, 2) := by decide +kernel
theorem dX7_take_13 : decode cX7_take 13 = .ok (.aload_n 3, 1) := by decide +kernel
theorem dX7_take_14 : decode cX7_take 14 = .ok (.invokestatic 354, 3) := by decide +kernel
theorem dX7_take_17 : decode cX7_take 17 = .ok (.aload_n 3, 1) := by decide +kernel
theorem dX7_take_18 : decode cX7_take 18 = .ok (.getfield 358, 3) := by decide +kernel
theorem dX7_take_21 : decode cX7_take 21 = .ok (.iconst 3, 1) := by decide +kernel
theorem dX7_take_22 : decode cX7_take 22 = .ok (.irem, 1) := by decide +kernel
theorem dX7_take_23 : decode cX7_take 23 = .ok (.ifCond .eq 14, 3) := by decide +kernel
theorem dX7_take_26 : decode cX7_take 26 = .ok (.new 359, 3) := by decide +kernel
theorem dX7_take_29 : decode cX7_take 29 = .ok (.dup, 1) := by decide +kernel
theorem dX7_take_30 : decode cX7_take 30 = .ok (.ldc_w 368, 3) := by decide +kernel
theorem dX7_take_33 : decode cX7_take 33 = .ok (.invokespecial 363, 3) := by decide +kernel
theorem dX7_take_36 : decode cX7_take 36 = .ok (.athrow, 1) := by decide +kernel
theorem dX7_take_37 : decode cX7_take 37 = .ok (.iconst 0, 1) := by decide +kernel
theorem dX7_take_38 : decode cX7_take 38 = .ok (.istore 5, 2) := by decide +kernel
theorem dX7_take_40 : decode cX7_take 40 = .ok (.iload 5, 2) := by decide +kernel
theorem dX7_take_42 : decode cX7_take 42 = .ok (.aload_n 3, 1) := by decide +kernel
theorem dX7_take_43 : decode cX7_take 43 = .ok (.getfield 358, 3) := by decide +kernel
theorem dX7_take_46 : decode cX7_take 46 = .ok (.if_icmp .ge 48, 3) := by decide +kernel
theorem dX7_take_49 : decode cX7_take 49 = .ok (.aload_n 3, 1) := by decide +kernel
theorem dX7_take_50 : decode cX7_take 50 = .ok (.iload 5, 2) := by decide +kernel
theorem dX7_take_52 : decode cX7_take 52 = .ok (.invokevirtual 370, 3) := by decide +kernel
theorem dX7_take_55 : decode cX7_take 55 = .ok (.aload_n 3, 1) := by decide +kernel
theorem dX7_take_56 : decode cX7_take 56 = .ok (.iload 5, 2) := by decide +kernel
theorem dX7_take_58 : decode cX7_take 58 = .ok (.iconst 1, 1) := by decide +kernel
theorem dX7_take_59 : decode cX7_take 59 = .ok (.iadd, 1) := by decide +kernel
theorem dX7_take_60 : decode cX7_take 60 = .ok (.invokevirtual 370, 3) := by decide +kernel
theorem dX7_take_63 : decode cX7_take 63 = .ok (.aload_n 3, 1) := by decide +kernel
theorem dX7_take_64 : decode cX7_take 64 = .ok (.iload 5, 2) := by decide +kernel
theorem dX7_take_66 : decode cX7_take 66 = .ok (.iconst 2, 1) := by decide +kernel
theorem dX7_take_67 : decode cX7_take 67 = .ok (.iadd, 1) := by decide +kernel
theorem dX7_take_68 : decode cX7_take 68 = .ok (.invokevirtual 370, 3) := by decide +kernel
theorem dX7_take_71 : decode cX7_take 71 = .ok (.invokestatic 249, 3) := by decide +kernel
theorem dX7_take_74 : decode cX7_take 74 = .ok (.ifCond .ne 14, 3) := by decide +kernel
theorem dX7_take_77 : decode cX7_take 77 = .ok (.new 253, 3) := by decide +kernel
theorem dX7_take_80 : decode cX7_take 80 = .ok (.dup, 1) := by decide +kernel
theorem dX7_take_81 : decode cX7_take 81 = .ok (.ldc_w 373, 3) := by decide +kernel
theorem dX7_take_84 : decode cX7_take 84 = .ok (.invokespecial 257, 3) := by decide +kernel
theorem dX7_take_87 : decode cX7_take 87 = .ok (.athrow, 1) := by decide +kernel
theorem dX7_take_88 : decode cX7_take 88 = .ok (.iinc 5 3, 3) := by decide +kernel
theorem dX7_take_91 : decode cX7_take 91 = .ok (.goto (-51), 3) := by decide +kernel
theorem dX7_take_94 : decode cX7_take 94 = .ok (.aload 4, 2) := by decide +kernel
theorem dX7_take_96 : decode cX7_take 96 = .ok (.iconst 0, 1) := by decide +kernel
theorem dX7_take_97 : decode cX7_take 97 = .ok (.putfield 130, 3) := by decide +kernel
theorem dX7_take_100 : decode cX7_take 100 = .ok (.iconst 0, 1) := by decide +kernel
theorem dX7_take_101 : decode cX7_take 101 = .ok (.istore 5, 2) := by decide +kernel
theorem dX7_take_103 : decode cX7_take 103 = .ok (.iload 5, 2) := by decide +kernel
theorem dX7_take_105 : decode cX7_take 105 = .ok (.aload_n 3, 1) := by decide +kernel
theorem dX7_take_106 : decode cX7_take 106 = .ok (.getfield 358, 3) := by decide +kernel
theorem dX7_take_109 : decode cX7_take 109 = .ok (.if_icmp .ge 40, 3) := by decide +kernel
theorem dX7_take_112 : decode cX7_take 112 = .ok (.aload 4, 2) := by decide +kernel
theorem dX7_take_114 : decode cX7_take 114 = .ok (.aload_n 3, 1) := by decide +kernel
theorem dX7_take_115 : decode cX7_take 115 = .ok (.iload 5, 2) := by decide +kernel
theorem dX7_take_117 : decode cX7_take 117 = .ok (.invokevirtual 370, 3) := by decide +kernel
theorem dX7_take_120 : decode cX7_take 120 = .ok (.l2i, 1) := by decide +kernel
theorem dX7_take_121 : decode cX7_take 121 = .ok (.aload_n 3, 1) := by decide +kernel
theorem dX7_take_122 : decode cX7_take 122 = .ok (.iload 5, 2) := by decide +kernel
theorem dX7_take_124 : decode cX7_take 124 = .ok (.iconst 1, 1) := by decide +kernel
theorem dX7_take_125 : decode cX7_take 125 = .ok (.iadd, 1) := by decide +kernel
theorem dX7_take_126 : decode cX7_take 126 = .ok (.invokevirtual 370, 3) := by decide +kernel
theorem dX7_take_129 : decode cX7_take 129 = .ok (.l2i, 1) := by decide +kernel
theorem dX7_take_130 : decode cX7_take 130 = .ok (.aload_n 3, 1) := by decide +kernel
theorem dX7_take_131 : decode cX7_take 131 = .ok (.iload 5, 2) := by decide +kernel
theorem dX7_take_133 : decode cX7_take 133 = .ok (.iconst 2, 1) := by decide +kernel
theorem dX7_take_134 : decode cX7_take 134 = .ok (.iadd, 1) := by decide +kernel
theorem dX7_take_135 : decode cX7_take 135 = .ok (.invokevirtual 370, 3) := by decide +kernel
theorem dX7_take_138 : decode cX7_take 138 = .ok (.l2i, 1) := by decide +kernel
theorem dX7_take_139 : decode cX7_take 139 = .ok (.invokevirtual 218, 3) := by decide +kernel
theorem dX7_take_142 : decode cX7_take 142 = .ok (.pop, 1) := by decide +kernel
theorem dX7_take_143 : decode cX7_take 143 = .ok (.iinc 5 3, 3) := by decide +kernel
theorem dX7_take_146 : decode cX7_take 146 = .ok (.goto (-43), 3) := by decide +kernel
theorem dX7_take_149 : decode cX7_take 149 = .ok (.aload 4, 2) := by decide +kernel
theorem dX7_take_151 : decode cX7_take 151 = .ok (.getfield 130, 3) := by decide +kernel
theorem dX7_take_154 : decode cX7_take 154 = .ok (.ireturn, 1) := by decide +kernel
theorem dX7_image_0 : decode cX7_image 0 = .ok (.iload_n 1, 1) := by decide +kernel
theorem dX7_image_1 : decode cX7_image 1 = .ok (.invokestatic 375, 3) := by decide +kernel
theorem dX7_image_4 : decode cX7_image 4 = .ok (.aload_n 0, 1) := by decide +kernel
theorem dX7_image_5 : decode cX7_image 5 = .ok (.getfield 16, 3) := by decide +kernel
theorem dX7_image_8 : decode cX7_image 8 = .ok (.iload_n 1, 1) := by decide +kernel
theorem dX7_image_9 : decode cX7_image 9 = .ok (.aaload, 1) := by decide +kernel
theorem dX7_image_10 : decode cX7_image 10 = .ok (.astore_n 2, 1) := by decide +kernel
theorem dX7_image_11 : decode cX7_image 11 = .ok (.aload_n 2, 1) := by decide +kernel
theorem dX7_image_12 : decode cX7_image 12 = .ok (.ifnonnull 18, 3) := by decide +kernel
theorem dX7_image_15 : decode cX7_image 15 = .ok (.new 9, 3) := by decide +kernel
theorem dX7_image_18 : decode cX7_image 18 = .ok (.dup, 1) := by decide +kernel
theorem dX7_image_19 : decode cX7_image 19 = .ok (.invokespecial 11, 3) := by decide +kernel
theorem dX7_image_22 : decode cX7_image 22 = .ok (.astore_n 2, 1) := by decide +kernel
theorem dX7_image_23 : decode cX7_image 23 = .ok (.aload_n 0, 1) := by decide +kernel
theorem dX7_image_24 : decode cX7_image 24 = .ok (.getfield 16, 3) := by decide +kernel
theorem dX7_image_27 : decode cX7_image 27 = .ok (.iload_n 1, 1) := by decide +kernel
theorem dX7_image_28 : decode cX7_image 28 = .ok (.aload_n 2, 1) := by decide +kernel
theorem dX7_image_29 : decode cX7_image 29 = .ok (.aastore, 1) := by decide +kernel
theorem dX7_image_30 : decode cX7_image 30 = .ok (.aload_n 2, 1) := by decide +kernel
theorem dX7_image_31 : decode cX7_image 31 = .ok (.aload_n 0, 1) := by decide +kernel
theorem dX7_image_32 : decode cX7_image 32 = .ok (.getfield 12, 3) := by decide +kernel
theorem dX7_image_35 : decode cX7_image 35 = .ok (.invokevirtual 378, 3) := by decide +kernel
theorem dX7_image_38 : decode cX7_image 38 = .ok (.return_, 1) := by decide +kernel
theorem dX7_restore_0 : decode cX7_restore 0 = .ok (.iload_n 1, 1) := by decide +kernel
theorem dX7_restore_1 : decode cX7_restore 1 = .ok (.invokestatic 375, 3) := by decide +kernel
theorem dX7_restore_4 : decode cX7_restore 4 = .ok (.aload_n 0, 1) := by decide +kernel
theorem dX7_restore_5 : decode cX7_restore 5 = .ok (.getfield 16, 3) := by decide +kernel
theorem dX7_restore_8 : decode cX7_restore 8 = .ok (.iload_n 1, 1) := by decide +kernel
theorem dX7_restore_9 : decode cX7_restore 9 = .ok (.aaload, 1) := by decide +kernel
theorem dX7_restore_10 : decode cX7_restore 10 = .ok (.astore_n 2, 1) := by decide +kernel
theorem dX7_restore_11 : decode cX7_restore 11 = .ok (.aload_n 2, 1) := by decide +kernel
theorem dX7_restore_12 : decode cX7_restore 12 = .ok (.ifnonnull 14, 3) := by decide +kernel
theorem dX7_restore_15 : decode cX7_restore 15 = .ok (.new 382, 3) := by decide +kernel
theorem dX7_restore_18 : decode cX7_restore 18 = .ok (.dup, 1) := by decide +kernel
theorem dX7_restore_19 : decode cX7_restore 19 = .ok (.ldc_w 384, 3) := by decide +kernel
theorem dX7_restore_22 : decode cX7_restore 22 = .ok (.invokespecial 386, 3) := by decide +kernel
theorem dX7_restore_25 : decode cX7_restore 25 = .ok (.athrow, 1) := by decide +kernel
theorem dX7_restore_26 : decode cX7_restore 26 = .ok (.aload_n 0, 1) := by decide +kernel
theorem dX7_restore_27 : decode cX7_restore 27 = .ok (.getfield 12, 3) := by decide +kernel
theorem dX7_restore_30 : decode cX7_restore 30 = .ok (.aload_n 2, 1) := by decide +kernel
theorem dX7_restore_31 : decode cX7_restore 31 = .ok (.invokevirtual 378, 3) := by decide +kernel
theorem dX7_restore_34 : decode cX7_restore 34 = .ok (.return_, 1) := by decide +kernel
theorem dX7_count_0 : decode cX7_count 0 = .ok (.iload_n 1, 1) := by decide +kernel
theorem dX7_count_1 : decode cX7_count 1 = .ok (.tableswitch 207 0 13 #[71, 79, 87, 95, 103, 111, 122, 133, 144, 155, 166, 177, 188, 199], 71) := by decide +kernel
theorem dX7_count_72 : decode cX7_count 72 = .ok (.aload_n 0, 1) := by decide +kernel
theorem dX7_count_73 : decode cX7_count 73 = .ok (.getfield 12, 3) := by decide +kernel
theorem dX7_count_76 : decode cX7_count 76 = .ok (.getfield 93, 3) := by decide +kernel
theorem dX7_count_79 : decode cX7_count 79 = .ok (.ireturn, 1) := by decide +kernel
theorem dX7_count_80 : decode cX7_count 80 = .ok (.aload_n 0, 1) := by decide +kernel
theorem dX7_count_81 : decode cX7_count 81 = .ok (.getfield 12, 3) := by decide +kernel
theorem dX7_count_84 : decode cX7_count 84 = .ok (.getfield 387, 3) := by decide +kernel
theorem dX7_count_87 : decode cX7_count 87 = .ok (.ireturn, 1) := by decide +kernel
theorem dX7_count_88 : decode cX7_count 88 = .ok (.aload_n 0, 1) := by decide +kernel
theorem dX7_count_89 : decode cX7_count 89 = .ok (.getfield 12, 3) := by decide +kernel
theorem dX7_count_92 : decode cX7_count 92 = .ok (.getfield 80, 3) := by decide +kernel
theorem dX7_count_95 : decode cX7_count 95 = .ok (.ireturn, 1) := by decide +kernel
theorem dX7_count_96 : decode cX7_count 96 = .ok (.aload_n 0, 1) := by decide +kernel
theorem dX7_count_97 : decode cX7_count 97 = .ok (.getfield 12, 3) := by decide +kernel
theorem dX7_count_100 : decode cX7_count 100 = .ok (.getfield 84, 3) := by decide +kernel
theorem dX7_count_103 : decode cX7_count 103 = .ok (.ireturn, 1) := by decide +kernel
theorem dX7_count_104 : decode cX7_count 104 = .ok (.aload_n 0, 1) := by decide +kernel
theorem dX7_count_105 : decode cX7_count 105 = .ok (.getfield 23, 3) := by decide +kernel
theorem dX7_count_108 : decode cX7_count 108 = .ok (.getfield 87, 3) := by decide +kernel
theorem dX7_count_111 : decode cX7_count 111 = .ok (.ireturn, 1) := by decide +kernel
