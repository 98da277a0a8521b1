theorem dX3_init_0 : decode cX3_init 0 = .ok (.aload_n 0, 1) := by decide +kernel
theorem dX3_init_1 : decode cX3_init 1 = .ok (.invokespecial 3, 3) := by decide +kernel
theorem dX3_init_4 : decode cX3_init 4 = .ok (.aload_n 0, 1) := by decide +kernel
theorem dX3_init_5 : decode cX3_init 5 = .ok (.sipush 400, 3) := by decide +kernel
theorem dX3_init_8 : decode cX3_init 8 = .ok (.newarray .int, 2) := by decide +kernel
theorem dX3_init_10 : decode cX3_init 10 = .ok (.putfield 9, 3) := by decide +kernel
theorem dX3_init_13 : decode cX3_init 13 = .ok (.aload_n 0, 1) := by decide +kernel
theorem dX3_init_14 : decode cX3_init 14 = .ok (.iconst (-1), 1) := by decide +kernel
theorem dX3_init_15 : decode cX3_init 15 = .ok (.putfield 15, 3) := by decide +kernel
theorem dX3_init_18 : decode cX3_init 18 = .ok (.return_, 1) := by decide +kernel
theorem dX3_append_0 : decode cX3_append 0 = .ok (.bipush 24, 2) := by decide +kernel
theorem dX3_append_2 : decode cX3_append 2 = .ok (.istore_n 2, 1) := by decide +kernel
theorem dX3_append_3 : decode cX3_append 3 = .ok (.iload_n 2, 1) := by decide +kernel
theorem dX3_append_4 : decode cX3_append 4 = .ok (.ifCond .lt 45, 3) := by decide +kernel
theorem dX3_append_7 : decode cX3_append 7 = .ok (.aload_n 0, 1) := by decide +kernel
theorem dX3_append_8 : decode cX3_append 8 = .ok (.getfield 19, 3) := by decide +kernel
theorem dX3_append_11 : decode cX3_append 11 = .ok (.sipush 400, 3) := by decide +kernel
theorem dX3_append_14 : decode cX3_append 14 = .ok (.if_icmp .ge 35, 3) := by decide +kernel
theorem dX3_append_17 : decode cX3_append 17 = .ok (.aload_n 0, 1) := by decide +kernel
theorem dX3_append_18 : decode cX3_append 18 = .ok (.getfield 9, 3) := by decide +kernel
theorem dX3_append_21 : decode cX3_append 21 = .ok (.aload_n 0, 1) := by decide +kernel
theorem dX3_append_22 : decode cX3_append 22 = .ok (.getfield 19, 3) := by decide +kernel
theorem dX3_append_25 : decode cX3_append 25 = .ok (.iload_n 1, 1) := by decide +kernel
theorem dX3_append_26 : decode cX3_append 26 = .ok (.iload_n 2, 1) := by decide +kernel
theorem dX3_append_27 : decode cX3_append 27 = .ok (.ishr, 1) := by decide +kernel
theorem dX3_append_28 : decode cX3_append 28 = .ok (.sipush 255, 3) := by decide +kernel
theorem dX3_append_31 : decode cX3_append 31 = .ok (.iand, 1) := by decide +kernel
theorem dX3_append_32 : decode cX3_append 32 = .ok (.iastore, 1) := by decide +kernel
theorem dX3_append_33 : decode cX3_append 33 = .ok (.aload_n 0, 1) := by decide +kernel
theorem dX3_append_34 : decode cX3_append 34 = .ok (.dup, 1) := by decide +kernel
theorem dX3_append_35 : decode cX3_append 35 = .ok (.getfield 19, 3) := by decide +kernel
theorem dX3_append_38 : decode cX3_append 38 = .ok (.iconst 1, 1) := by decide +kernel
theorem dX3_append_39 : decode cX3_append 39 = .ok (.iadd, 1) := by decide +kernel
theorem dX3_append_40 : decode cX3_append 40 = .ok (.putfield 19, 3) := by decide +kernel
theorem dX3_append_43 : decode cX3_append 43 = .ok (.iinc 2 (-8), 3) := by decide +kernel
theorem dX3_append_46 : decode cX3_append 46 = .ok (.goto (-43), 3) := by decide +kernel
theorem dX3_append_49 : decode cX3_append 49 = .ok (.return_, 1) := by decide +kernel
theorem dX3_readWay_0 : decode cX3_readWay 0 = .ok (.aload_n 0, 1) := by decide +kernel
theorem dX3_readWay_1 : decode cX3_readWay 1 = .ok (.iload_n 1, 1) := by decide +kernel
theorem dX3_readWay_2 : decode cX3_readWay 2 = .ok (.invokevirtual 22, 3) := by decide +kernel
theorem dX3_readWay_5 : decode cX3_readWay 5 = .ok (.aload_n 2, 1) := by decide +kernel
theorem dX3_readWay_6 : decode cX3_readWay 6 = .ok (.iconst 0, 1) := by decide +kernel
theorem dX3_readWay_7 : decode cX3_readWay 7 = .ok (.putfield 26, 3) := by decide +kernel
theorem dX3_readWay_10 : decode cX3_readWay 10 = .ok (.iconst 0, 1) := by decide +kernel
theorem dX3_readWay_11 : decode cX3_readWay 11 = .ok (.istore_n 3, 1) := by decide +kernel
theorem dX3_readWay_12 : decode cX3_readWay 12 = .ok (.iload_n 3, 1) := by decide +kernel
theorem dX3_readWay_13 : decode cX3_readWay 13 = .ok (.sipush 400, 3) := by decide +kernel
theorem dX3_readWay_16 : decode cX3_readWay 16 = .ok (.if_icmp .gt 28, 3) := by decide +kernel
theorem dX3_readWay_19 : decode cX3_readWay 19 = .ok (.aload_n 0, 1) := by decide +kernel
theorem dX3_readWay_20 : decode cX3_readWay 20 = .ok (.getfield 31, 3) := by decide +kernel
theorem dX3_readWay_23 : decode cX3_readWay 23 = .ok (.ifCond .ne 21, 3) := by decide +kernel
theorem dX3_readWay_26 : decode cX3_readWay 26 = .ok (.aload_n 0, 1) := by decide +kernel
theorem dX3_readWay_27 : decode cX3_readWay 27 = .ok (.getfield 34, 3) := by decide +kernel
theorem dX3_readWay_30 : decode cX3_readWay 30 = .ok (.ifCond .eq 14, 3) := by decide +kernel
theorem dX3_readWay_33 : decode cX3_readWay 33 = .ok (.aload_n 0, 1) := by decide +kernel
theorem dX3_readWay_34 : decode cX3_readWay 34 = .ok (.aload_n 2, 1) := by decide +kernel
theorem dX3_readWay_35 : decode cX3_readWay 35 = .ok (.invokevirtual 37, 3) := by decide +kernel
theorem dX3_readWay_38 : decode cX3_readWay 38 = .ok (.iinc 3 1, 3) := by decide +kernel
theorem dX3_readWay_41 : decode cX3_readWay 41 = .ok (.goto (-29), 3) := by decide +kernel
theorem dX3_readWay_44 : decode cX3_readWay 44 = .ok (.aload_n 0, 1) := by decide +kernel
theorem dX3_readWay_45 : decode cX3_readWay 45 = .ok (.getfield 31, 3) := by decide +kernel
theorem dX3_readWay_48 : decode cX3_readWay 48 = .ok (.ifCond .ne 7, 3) := by decide +kernel
theorem dX3_readWay_51 : decode cX3_readWay 51 = .ok (.iconst 1, 1) := by decide +kernel
theorem dX3_readWay_52 : decode cX3_readWay 52 = .ok (.goto 4, 3) := by decide +kernel
theorem dX3_readWay_55 : decode cX3_readWay 55 = .ok (.iconst 0, 1) := by decide +kernel
theorem dX3_readWay_56 : decode cX3_readWay 56 = .ok (.ireturn, 1) := by decide +kernel
theorem dX3_readFold_0 : decode cX3_readFold 0 = .ok (.aload_n 0, 1) := by decide +kernel
theorem dX3_readFold_1 : decode cX3_readFold 1 = .ok (.invokevirtual 41, 3) := by decide +kernel
theorem dX3_readFold_4 : decode cX3_readFold 4 = .ok (.istore_n 2, 1) := by decide +kernel
theorem dX3_readFold_5 : decode cX3_readFold 5 = .ok (.iload_n 2, 1) := by decide +kernel
theorem dX3_readFold_6 : decode cX3_readFold 6 = .ok (.iconst (-1), 1) := by decide +kernel
theorem dX3_readFold_7 : decode cX3_readFold 7 = .ok (.if_icmp .ne 8, 3) := by decide +kernel
theorem dX3_readFold_10 : decode cX3_readFold 10 = .ok (.aload_n 0, 1) := by decide +kernel
theorem dX3_readFold_11 : decode cX3_readFold 11 = .ok (.invokevirtual 45, 3) := by decide +kernel
theorem dX3_readFold_14 : decode cX3_readFold 14 = .ok (.return_, 1) := by decide +kernel
theorem dX3_readFold_15 : decode cX3_readFold 15 = .ok (.aload_n 1, 1) := by decide +kernel
theorem dX3_readFold_16 : decode cX3_readFold 16 = .ok (.getfield 26, 3) := by decide +kernel
theorem dX3_readFold_19 : decode cX3_readFold 19 = .ok (.bipush 11, 2) := by decide +kernel
theorem dX3_readFold_21 : decode cX3_readFold 21 = .ok (.if_icmp .lt 9, 3) := by decide +kernel
theorem dX3_readFold_24 : decode cX3_readFold 24 = .ok (.aload_n 0, 1) := by decide +kernel
theorem dX3_readFold_25 : decode cX3_readFold 25 = .ok (.iconst 4, 1) := by decide +kernel
theorem dX3_readFold_26 : decode cX3_readFold 26 = .ok (.invokevirtual 48, 3) := by decide +kernel
theorem dX3_readFold_29 : decode cX3_readFold 29 = .ok (.return_, 1) := by decide +kernel
theorem dX3_readFold_30 : decode cX3_readFold 30 = .ok (.aload_n 0, 1) := by decide +kernel
theorem dX3_readFold_31 : decode cX3_readFold 31 = .ok (.invokevirtual 51, 3) := by decide +kernel
theorem dX3_readFold_34 : decode cX3_readFold 34 = .ok (.aload_n 0, 1) := by decide +kernel
theorem dX3_readFold_35 : decode cX3_readFold 35 = .ok (.iconst 1, 1) := by decide +kernel
theorem dX3_readFold_36 : decode cX3_readFold 36 = .ok (.bipush 12, 2) := by decide +kernel
theorem dX3_readFold_38 : decode cX3_readFold 38 = .ok (.invokevirtual 54, 3) := by decide +kernel
theorem dX3_readFold_41 : decode cX3_readFold 41 = .ok (.istore_n 3, 1) := by decide +kernel
theorem dX3_readFold_42 : decode cX3_readFold 42 = .ok (.aload_n 0, 1) := by decide +kernel
theorem dX3_readFold_43 : decode cX3_readFold 43 = .ok (.invokevirtual 58, 3) := by decide +kernel
theorem dX3_readFold_46 : decode cX3_readFold 46 = .ok (.aload_n 0, 1) := by decide +kernel
theorem dX3_readFold_47 : decode cX3_readFold 47 = .ok (.getfield 31, 3) := by decide +kernel
theorem dX3_readFold_50 : decode cX3_readFold 50 = .ok (.ifCond .ne 11, 3) := by decide +kernel
theorem dX3_readFold_53 : decode cX3_readFold 53 = .ok (.aload_n 1, 1) := by decide +kernel
theorem dX3_readFold_54 : decode cX3_readFold 54 = .ok (.iload_n 2, 1) := by decide +kernel
theorem dX3_readFold_55 : decode cX3_readFold 55 = .ok (.iload_n 3, 1) := by decide +kernel
theorem dX3_readFold_56 : decode cX3_readFold 56 = .ok (.iconst 0, 1) := by decide +kernel
theorem dX3_readFold_57 : decode cX3_readFold 57 = .ok (.invokevirtual 61, 3) := by decide +kernel
theorem dX3_readFold_60 : decode cX3_readFold 60 = .ok (.pop, 1) := by decide +kernel
theorem dX3_readFold_61 : decode cX3_readFold 61 = .ok (.return_, 1) := by decide +kernel
theorem dX3_readLaw_0 : decode cX3_readLaw 0 = .ok (.aload_n 0, 1) := by decide +kernel
theorem dX3_readLaw_1 : decode cX3_readLaw 1 = .ok (.iload_n 1, 1) := by decide +kernel
theorem dX3_readLaw_2 : decode cX3_readLaw 2 = .ok (.invokevirtual 22, 3) := by decide +kernel
theorem dX3_readLaw_5 : decode cX3_readLaw 5 = .ok (.iconst 0, 1) := by decide +kernel
theorem dX3_readLaw_6 : decode cX3_readLaw 6 = .ok (.istore_n 3, 1) := by decide +kernel
theorem dX3_readLaw_7 : decode cX3_readLaw 7 = .ok (.iconst 0, 1) := by decide +kernel
theorem dX3_readLaw_8 : decode cX3_readLaw 8 = .ok (.istore 4, 2) := by decide +kernel
theorem dX3_readLaw_10 : decode cX3_readLaw 10 = .ok (.iload 4, 2) := by decide +kernel
theorem dX3_readLaw_12 : decode cX3_readLaw 12 = .ok (.sipush 400, 3) := by decide +kernel
theorem dX3_readLaw_15 : decode cX3_readLaw 15 = .ok (.if_icmp .gt 31, 3) := by decide +kernel
theorem dX3_readLaw_18 : decode cX3_readLaw 18 = .ok (.aload_n 0, 1) := by decide +kernel
theorem dX3_readLaw_19 : decode cX3_readLaw 19 = .ok (.getfield 31, 3) := by decide +kernel
theorem dX3_readLaw_22 : decode cX3_readLaw 22 = .ok (.ifCond .ne 24, 3) := by decide +kernel
theorem dX3_readLaw_25 : decode cX3_readLaw 25 = .ok (.aload_n 0, 1) := by decide +kernel
theorem dX3_readLaw_26 : decode cX3_readLaw 26 = .ok (.getfield 34, 3) := by decide +kernel
theorem dX3_readLaw_29 : decode cX3_readLaw 29 = .ok (.ifCond .eq 17, 3) := by decide +kernel
theorem dX3_readLaw_32 : decode cX3_readLaw 32 = .ok (.aload_n 0, 1) := by decide +kernel
theorem dX3_readLaw_33 : decode cX3_readLaw 33 = .ok (.aload_n 2, 1) := by decide +kernel
theorem dX3_readLaw_34 : decode cX3_readLaw 34 = .ok (.invokevirtual 65, 3) := by decide +kernel
theorem dX3_readLaw_37 : decode cX3_readLaw 37 = .ok (.iinc 3 1, 3) := by decide +kernel
theorem dX3_readLaw_40 : decode cX3_readLaw 40 = .ok (.iinc 4 1, 3) := by decide +kernel
theorem dX3_readLaw_43 : decode cX3_readLaw 43 = .ok (.goto (-33), 3) := by decide +kernel
theorem dX3_readLaw_46 : decode cX3_readLaw 46 = .ok (.aload_n 0, 1) := by decide +kernel
theorem dX3_readLaw_47 : decode cX3_readLaw 47 = .ok (.getfield 31, 3) := by decide +kernel
theorem dX3_readLaw_50 : decode cX3_readLaw 50 = .ok (.ifCond .ne 7, 3) := by decide +kernel
theorem dX3_readLaw_53 : decode cX3_readLaw 53 = .ok (.iload_n 3, 1) := by decide +kernel
theorem dX3_readLaw_54 : decode cX3_readLaw 54 = .ok (.goto 4, 3) := by decide +kernel
theorem dX3_readLaw_57 : decode cX3_readLaw 57 = .ok (.iconst (-1), 1) := by decide +kernel
theorem dX3_readLaw_58 : decode cX3_readLaw 58 = .ok (.ireturn, 1) := by decide +kernel
theorem dX3_readLine_0 : decode cX3_readLine 0 = .ok (.aload_n 0, 1) := by decide +kernel
theorem dX3_readLine_1 : decode cX3_readLine 1 = .ok (.invokevirtual 69, 3) := by decide +kernel
theorem dX3_readLine_4 : decode cX3_readLine 4 = .ok (.istore_n 2, 1) := by decide +kernel
theorem dX3_readLine_5 : decode cX3_readLine 5 = .ok (.iload_n 2, 1) := by decide +kernel
theorem dX3_readLine_6 : decode cX3_readLine 6 = .ok (.ifCond .lt 9, 3) := by decide +kernel
theorem dX3_readLine_9 : decode cX3_readLine 9 = .ok (.iload_n 2, 1) := by decide +kernel
theorem dX3_readLine_10 : decode cX3_readLine 10 = .ok (.bipush 7, 2) := by decide +kernel
theorem dX3_readLine_12 : decode cX3_readLine 12 = .ok (.if_icmp .lt 8, 3) := by decide +kernel
theorem dX3_readLine_15 : decode cX3_readLine 15 = .ok (.aload_n 0, 1) := by decide +kernel
theorem dX3_readLine_16 : decode cX3_readLine 16 = .ok (.invokevirtual 45, 3) := by decide +kernel
theorem dX3_readLine_19 : decode cX3_readLine 19 = .ok (.return_, 1) := by decide +kernel
theorem dX3_readLine_20 : decode cX3_readLine 20 = .ok (.aload_n 0, 1) := by decide +kernel
theorem dX3_readLine_21 : decode cX3_readLine 21 = .ok (.invokevirtual 51, 3) := by decide +kernel
theorem dX3_readLine_24 : decode cX3_readLine 24 = .ok (.iconst 0, 1) := by decide +kernel
theorem dX3_readLine_25 : decode cX3_readLine 25 = .ok (.istore_n 3, 1) := by decide +kernel
theorem dX3_readLine_26 : decode cX3_readLine 26 = .ok (.iload_n 3, 1) := by decide +kernel
theorem dX3_readLine_27 : decode cX3_readLine 27 = .ok (.getstatic 72, 3) := by decide +kernel
theorem dX3_readLine_30 : decode cX3_readLine 30 = .ok (.iload_n 2, 1) := by decide +kernel
theorem dX3_readLine_31 : decode cX3_readLine 31 = .ok (.iaload, 1) := by decide +kernel
theorem dX3_readLine_32 : decode cX3_readLine 32 = .ok (.if_icmp .ge 54, 3) := by decide +kernel
theorem dX3_readLine_35 : decode cX3_readLine 35 = .ok (.aload_n 0, 1) := by decide +kernel
theorem dX3_readLine_36 : decode cX3_readLine 36 = .ok (.getfield 31, 3) := by decide +kernel
theorem dX3_readLine_39 : decode cX3_readLine 39 = .ok (.ifCond .ne 47, 3) := by decide +kernel
theorem dX3_readLine_42 : decode cX3_readLine 42 = .ok (.getstatic 75, 3) := by decide +kernel
theorem dX3_readLine_45 : decode cX3_readLine 45 = .ok (.iload_n 2, 1) := by decide +kernel
theorem dX3_readLine_46 : decode cX3_readLine 46 = .ok (.iaload, 1) := by decide +kernel
theorem dX3_readLine_47 : decode cX3_readLine 47 = .ok (.iload_n 3, 1) := by decide +kernel
theorem dX3_readLine_48 : decode cX3_readLine 48 = .ok (.iadd, 1) := by decide +kernel
theorem dX3_readLine_49 : decode cX3_readLine 49 = .ok (.istore 4, 2) := by decide +kernel
theorem dX3_readLine_51 : decode cX3_readLine 51 = .ok (.aload_n 0, 1) := by decide +kernel
theorem dX3_readLine_52 : decode cX3_readLine 52 = .ok (.getstatic 78, 3) := by decide +kernel
theorem dX3_readLine_55 : decode cX3_readLine 55 = .ok (.iload_n 2, 1) := by decide +kernel
theorem dX3_readLine_56 : decode cX3_readLine 56 = .ok (.iaload, 1) := by decide +kernel
theorem dX3_readLine_57 : decode cX3_readLine 57 = .ok (.getstatic 81, 3) := by decide +kernel
theorem dX3_readLine_60 : decode cX3_readLine 60 = .ok (.iload_n 2, 1) := by decide +kernel
theorem dX3_readLine_61 : decode cX3_readLine 61 = .ok (.iaload, 1) := by decide +kernel
theorem dX3_readLine_62 : decode cX3_readLine 62 = .ok (.invokevirtual 54, 3) := by decide +kernel
theorem dX3_readLine_65 : decode cX3_readLine 65 = .ok (.istore 5, 2) := by decide +kernel
theorem dX3_readLine_67 : decode cX3_readLine 67 = .ok (.iload 4, 2) := by decide +kernel
theorem dX3_readLine_69 : decode cX3_readLine 69 = .ok (.aload_n 1, 1) := by decide +kernel
theorem dX3_readLine_70 : decode cX3_readLine 70 = .ok (.arraylength, 1) := by decide +kernel
theorem dX3_readLine_71 : decode cX3_readLine 71 = .ok (.if_icmp .ge 9, 3) := by decide +kernel
theorem dX3_readLine_74 : decode cX3_readLine 74 = .ok (.aload_n 1, 1) := by decide +kernel
theorem dX3_readLine_75 : decode cX3_readLine 75 = .ok (.iload 4, 2) := by decide +kernel
theorem dX3_readLine_77 : decode cX3_readLine 77 = .ok (.iload 5, 2) := by decide +kernel
theorem dX3_readLine_79 : decode cX3_readLine 79 = .ok (.iastore, 1) := by decide +kernel
theorem dX3_readLine_80 : decode cX3_readLine 80 = .ok (.iinc 3 1, 3) := by decide +kernel
theorem dX3_readLine_83 : decode cX3_readLine 83 = .ok (.goto (-57), 3) := by decide +kernel
theorem dX3_readLine_86 : decode cX3_readLine 86 = .ok (.aload_n 0, 1) := by decide +kernel
theorem dX3_readLine_87 : decode cX3_readLine 87 = .ok (.invokevirtual 58, 3) := by decide +kernel
theorem dX3_readLine_90 : decode cX3_readLine 90 = .ok (.return_, 1) := by decide +kernel
theorem dX3_begin_0 : decode cX3_begin 0 = .ok (.aload_n 0, 1) := by decide +kernel
theorem dX3_begin_1 : decode cX3_begin 1 = .ok (.iload_n 1, 1) := by decide +kernel
theorem dX3_begin_2 : decode cX3_begin 2 = .ok (.aload_n 0, 1) := by decide +kernel
theorem dX3_begin_3 : decode cX3_begin 3 = .ok (.getfield 19, 3) := by decide +kernel
theorem dX3_begin_6 : decode cX3_begin 6 = .ok (.invokestatic 84, 3) := by decide +kernel
theorem dX3_begin_9 : decode cX3_begin 9 = .ok (.putfield 89, 3) := by decide +kernel
theorem dX3_begin_12 : decode cX3_begin 12 = .ok (.aload_n 0, 1) := by decide +kernel
theorem dX3_begin_13 : decode cX3_begin 13 = .ok (.iconst 0, 1) := by decide +kernel
theorem dX3_begin_14 : decode cX3_begin 14 = .ok (.putfield 19, 3) := by decide +kernel
theorem dX3_begin_17 : decode cX3_begin 17 = .ok (.aload_n 0, 1) := by decide +kernel
theorem dX3_begin_18 : decode cX3_begin 18 = .ok (.iconst 0, 1) := by decide +kernel
theorem dX3_begin_19 : decode cX3_begin 19 = .ok (.putfield 92, 3) := by decide +kernel
theorem dX3_begin_22 : decode cX3_begin 22 = .ok (.aload_n 0, 1) := by decide +kernel
theorem dX3_begin_23 : decode cX3_begin 23 = .ok (.iconst 0, 1) := by decide +kernel
theorem dX3_begin_24 : decode cX3_begin 24 = .ok (.putfield 31, 3) := by decide +kernel
theorem dX3_begin_27 : decode cX3_begin 27 = .ok (.aload_n 0, 1) := by decide +kernel
theorem dX3_begin_28 : decode cX3_begin 28 = .ok (.iconst (-1), 1) := by decide +kernel
theorem dX3_begin_29 : decode cX3_begin 29 = .ok (.putfield 15, 3) := by decide +kernel
theorem dX3_begin_32 : decode cX3_begin 32 = .ok (.aload_n 0, 1) := by decide +kernel
theorem dX3_begin_33 : decode cX3_begin 33 = .ok (.invokevirtual 51, 3) := by decide +kernel
theorem dX3_begin_36 : decode cX3_begin 36 = .ok (.return_, 1) := by decide +kernel
theorem dX3_readNumber_0 : decode cX3_readNumber 0 = .ok (.aload_n 0, 1) := by decide +kernel
theorem dX3_readNumber_1 : decode cX3_readNumber 1 = .ok (.getfield 31, 3) := by decide +kernel
theorem dX3_readNumber_4 : decode cX3_readNumber 4 = .ok (.ifCond .eq 5, 3) := by decide +kernel
theorem dX3_readNumber_7 : decode cX3_readNumber 7 = .ok (.iconst 0, 1) := by decide +kernel
theorem dX3_readNumber_8 : decode cX3_readNumber 8 = .ok (.ireturn, 1) := by decide +kernel
theorem dX3_readNumber_9 : decode cX3_readNumber 9 = .ok (.aload_n 0, 1) := by decide +kernel
theorem dX3_readNumber_10 : decode cX3_readNumber 10 = .ok (.getfield 34, 3) := by decide +kernel
theorem dX3_readNumber_13 : decode cX3_readNumber 13 = .ok (.iconst 2, 1) := by decide +kernel
theorem dX3_readNumber_14 : decode cX3_readNumber 14 = .ok (.if_icmp .eq 9, 3) := by decide +kernel
theorem dX3_readNumber_17 : decode cX3_readNumber 17 = .ok (.aload_n 0, 1) := by decide +kernel
theorem dX3_readNumber_18 : decode cX3_readNumber 18 = .ok (.invokevirtual 45, 3) := by decide +kernel
theorem dX3_readNumber_21 : decode cX3_readNumber 21 = .ok (.iconst 0, 1) := by decide +kernel
theorem dX3_readNumber_22 : decode cX3_readNumber 22 = .ok (.ireturn, 1) := by decide +kernel
theorem dX3_readNumber_23 : decode cX3_readNumber 23 = .ok (.aload_n 0, 1) := by decide +kernel
theorem dX3_readNumber_24 : decode cX3_readNumber 24 = .ok (.getfield 95, 3) := by decide +kernel
theorem dX3_readNumber_27 : decode cX3_readNumber 27 = .ok (.iload_n 1, 1) := by decide +kernel
theorem dX3_readNumber_28 : decode cX3_readNumber 28 = .ok (.if_icmp .lt 11, 3) := by decide +kernel
theorem dX3_readNumber_31 : decode cX3_readNumber 31 = .ok (.aload_n 0, 1) := by decide +kernel
theorem dX3_readNumber_32 : decode cX3_readNumber 32 = .ok (.getfield 95, 3) := by decide +kernel
theorem dX3_readNumber_35 : decode cX3_readNumber 35 = .ok (.iload_n 2, 1) := by decide +kernel
theorem dX3_readNumber_36 : decode cX3_readNumber 36 = .ok (.if_icmp .le 10, 3) := by decide +kernel
theorem dX3_readNumber_39 : decode cX3_readNumber 39 = .ok (.aload_n 0, 1) := by decide +kernel
theorem dX3_readNumber_40 : decode cX3_readNumber 40 = .ok (.iconst 3, 1) := by decide +kernel
theorem dX3_readNumber_41 : decode cX3_readNumber 41 = .ok (.invokevirtual 48, 3) := by decide +kernel
theorem dX3_readNumber_44 : decode cX3_readNumber 44 = .ok (.iconst 0, 1) := by decide +kernel
theorem dX3_readNumber_45 : decode cX3_readNumber 45 = .ok (.ireturn, 1) := by decide +kernel
theorem dX3_readNumber_46 : decode cX3_readNumber 46 = .ok (.aload_n 0, 1) := by decide +kernel
theorem dX3_readNumber_47 : decode cX3_readNumber 47 = .ok (.getfield 95, 3) := by decide +kernel
theorem dX3_readNumber_50 : decode cX3_readNumber 50 = .ok (.istore_n 3, 1) := by decide +kernel
theorem dX3_readNumber_51 : decode cX3_readNumber 51 = .ok (.aload_n 0, 1) := by decide +kernel
theorem dX3_readNumber_52 : decode cX3_readNumber 52 = .ok (.invokevirtual 51, 3) := by decide +kernel
theorem dX3_readNumber_55 : decode cX3_readNumber 55 = .ok (.iload_n 3, 1) := by decide +kernel
theorem dX3_readNumber_56 : decode cX3_readNumber 56 = .ok (.ireturn, 1) := by decide +kernel
theorem dX3_readStop_0 : decode cX3_readStop 0 = .ok (.aload_n 0, 1) := by decide +kernel
theorem dX3_readStop_1 : decode cX3_readStop 1 = .ok (.getfield 31, 3) := by decide +kernel
theorem dX3_readStop_4 : decode cX3_readStop 4 = .ok (.ifCond .eq 4, 3) := by decide +kernel
theorem dX3_readStop_7 : decode cX3_readStop 7 = .ok (.return_, 1) := by decide +kernel
theorem dX3_readStop_8 : decode cX3_readStop 8 = .ok (.aload_n 0, 1) := by decide +kernel
theorem dX3_readStop_9 : decode cX3_readStop 9 = .ok (.getfield 34, 3) := by decide +kernel
theorem dX3_readStop_12 : decode cX3_readStop 12 = .ok (.iconst 3, 1) := by decide +kernel
theorem dX3_readStop_13 : decode cX3_readStop 13 = .ok (.if_icmp .ne 10, 3) := by decide +kernel
theorem dX3_readStop_16 : decode cX3_readStop 16 = .ok (.aload_n 0, 1) := by decide +kernel
theorem dX3_readStop_17 : decode cX3_readStop 17 = .ok (.invokevirtual 51, 3) := by decide +kernel
theorem dX3_readStop_20 : decode cX3_readStop 20 = .ok (.goto 7, 3) := by decide +kernel
theorem dX3_readStop_23 : decode cX3_readStop 23 = .ok (.aload_n 0, 1) := by decide +kernel
theorem dX3_readStop_24 : decode cX3_readStop 24 = .ok (.invokevirtual 45, 3) := by decide +kernel
theorem dX3_readStop_27 : decode cX3_readStop 27 = .ok (.return_, 1) := by decide +kernel
theorem dX3_refuse_0 : decode cX3_refuse 0 = .ok (.aload_n 0, 1) := by decide +kernel
theorem dX3_refuse_1 : decode cX3_refuse 1 = .ok (.aload_n 0, 1) := by decide +kernel
theorem dX3_refuse_2 : decode cX3_refuse 2 = .ok (.getfield 34, 3) := by decide +kernel
theorem dX3_refuse_5 : decode cX3_refuse 5 = .ok (.iconst 4, 1) := by decide +kernel
theorem dX3_refuse_6 : decode cX3_refuse 6 = .ok (.if_icmp .ne 7, 3) := by decide +kernel
theorem dX3_refuse_9 : decode cX3_refuse 9 = .ok (.iconst 1, 1) := by decide +kernel
theorem dX3_refuse_10 : decode cX3_refuse 10 = .ok (.goto 4, 3) := by decide +kernel
theorem dX3_refuse_13 : decode cX3_refuse 13 = .ok (.iconst 2, 1) := by decide +kernel
theorem dX3_refuse_14 : decode cX3_refuse 14 = .ok (.invokevirtual 48, 3) := by decide +kernel
theorem dX3_refuse_17 : decode cX3_refuse 17 = .ok (.return_, 1) := by decide +kernel
theorem dX3_fail_0 : decode cX3_fail 0 = .ok (.aload_n 0, 1) := by decide +kernel
theorem dX3_fail_1 : decode cX3_fail 1 = .ok (.iload_n 1, 1) := by decide +kernel
theorem dX3_fail_2 : decode cX3_fail 2 = .ok (.putfield 31, 3) := by decide +kernel
theorem dX3_fail_5 : decode cX3_fail 5 = .ok (.aload_n 0, 1) := by decide +kernel
theorem dX3_fail_6 : decode cX3_fail 6 = .ok (.aload_n 0, 1) := by decide +kernel
theorem dX3_fail_7 : decode cX3_fail 7 = .ok (.getfield 98, 3) := by decide +kernel
theorem dX3_fail_10 : decode cX3_fail 10 = .ok (.putfield 15, 3) := by decide +kernel
theorem dX3_fail_13 : decode cX3_fail 13 = .ok (.return_, 1) := by decide +kernel
theorem dX3_kindOfWord_0 : decode cX3_kindOfWord 0 = .ok (.iconst 0, 1) := by decide +kernel
theorem dX3_kindOfWord_1 : decode cX3_kindOfWord 1 = .ok (.istore_n 1, 1) := by decide +kernel
theorem dX3_kindOfWord_2 : decode cX3_kindOfWord 2 = .ok (.iload_n 1, 1) := by decide +kernel
theorem dX3_kindOfWord_3 : decode cX3_kindOfWord 3 = .ok (.iconst 3, 1) := by decide +kernel
theorem dX3_kindOfWord_4 : decode cX3_kindOfWord 4 = .ok (.if_icmp .ge 22, 3) := by decide +kernel
theorem dX3_kindOfWord_7 : decode cX3_kindOfWord 7 = .ok (.aload_n 0, 1) := by decide +kernel
theorem dX3_kindOfWord_8 : decode cX3_kindOfWord 8 = .ok (.iload_n 1, 1) := by decide +kernel
theorem dX3_kindOfWord_9 : decode cX3_kindOfWord 9 = .ok (.invokestatic 101, 3) := by decide +kernel
theorem dX3_kindOfWord_12 : decode cX3_kindOfWord 12 = .ok (.invokevirtual 105, 3) := by decide +kernel
theorem dX3_kindOfWord_15 : decode cX3_kindOfWord 15 = .ok (.ifCond .eq 5, 3) := by decide +kernel
theorem dX3_kindOfWord_18 : decode cX3_kindOfWord 18 = .ok (.iload_n 1, 1) := by decide +kernel
theorem dX3_kindOfWord_19 : decode cX3_kindOfWord 19 = .ok (.ireturn, 1) := by decide +kernel
theorem dX3_kindOfWord_20 : decode cX3_kindOfWord 20 = .ok (.iinc 1 1, 3) := by decide +kernel
theorem dX3_kindOfWord_23 : decode cX3_kindOfWord 23 = .ok (.goto (-21), 3) := by decide +kernel
theorem dX3_kindOfWord_26 : decode cX3_kindOfWord 26 = .ok (.iconst (-1), 1) := by decide +kernel
theorem dX3_kindOfWord_27 : decode cX3_kindOfWord 27 = .ok (.ireturn, 1) := by decide +kernel
theorem dX3_lineOfWord_0 : decode cX3_lineOfWord 0 = .ok (.iconst 0, 1) := by decide +kernel
theorem dX3_lineOfWord_1 : decode cX3_lineOfWord 1 = .ok (.istore_n 1, 1) := by decide +kernel
theorem dX3_lineOfWord_2 : decode cX3_lineOfWord 2 = .ok (.iload_n 1, 1) := by decide +kernel
theorem dX3_lineOfWord_3 : decode cX3_lineOfWord 3 = .ok (.bipush 7, 2) := by decide +kernel
theorem dX3_lineOfWord_5 : decode cX3_lineOfWord 5 = .ok (.if_icmp .ge 22, 3) := by decide +kernel
theorem dX3_lineOfWord_8 : decode cX3_lineOfWord 8 = .ok (.aload_n 0, 1) := by decide +kernel
theorem dX3_lineOfWord_9 : decode cX3_lineOfWord 9 = .ok (.iload_n 1, 1) := by decide +kernel
theorem dX3_lineOfWord_10 : decode cX3_lineOfWord 10 = .ok (.invokestatic 109, 3) := by decide +kernel
theorem dX3_lineOfWord_13 : decode cX3_lineOfWord 13 = .ok (.invokevirtual 105, 3) := by decide +kernel
theorem dX3_lineOfWord_16 : decode cX3_lineOfWord 16 = .ok (.ifCond .eq 5, 3) := by decide +kernel
theorem dX3_lineOfWord_19 : decode cX3_lineOfWord 19 = .ok (.iload_n 1, 1) := by decide +kernel
theorem dX3_lineOfWord_20 : decode cX3_lineOfWord 20 = .ok (.ireturn, 1) := by decide +kernel
theorem dX3_lineOfWord_21 : decode cX3_lineOfWord 21 = .ok (.iinc 1 1, 3) := by decide +kernel
theorem dX3_lineOfWord_24 : decode cX3_lineOfWord 24 = .ok (.goto (-22), 3) := by decide +kernel
theorem dX3_lineOfWord_27 : decode cX3_lineOfWord 27 = .ok (.iconst (-1), 1) := by decide +kernel
theorem dX3_lineOfWord_28 : decode cX3_lineOfWord 28 = .ok (.ireturn, 1) := by decide +kernel
theorem dX3_foldWord_0 : decode cX3_foldWord 0 = .ok (.iload_n 0, 1) := by decide +kernel
theorem dX3_foldWord_1 : decode cX3_foldWord 1 = .ok (.lookupswitch 33 #[(0, 27), (1, 30)], 27) := by decide +kernel
theorem dX3_foldWord_28 : decode cX3_foldWord 28 = .ok (.ldc 112, 2) := by decide +kernel
theorem dX3_foldWord_30 : decode cX3_foldWord 30 = .ok (.areturn, 1) := by decide +kernel
theorem dX3_foldWord_31 : decode cX3_foldWord 31 = .ok (.ldc 114, 2) := by decide +kernel
theorem dX3_foldWord_33 : decode cX3_foldWord 33 = .ok (.areturn, 1) := by decide +kernel
theorem dX3_foldWord_34 : decode cX3_foldWord 34 = .ok (.ldc 116, 2) := by decide +kernel
theorem dX3_foldWord_36 : decode cX3_foldWord 36 = .ok (.areturn, 1) := by decide +kernel
theorem dX3_lineWord_0 : decode cX3_lineWord 0 = .ok (.iload_n 0, 1) := by decide +kernel
theorem dX3_lineWord_1 : decode cX3_lineWord 1 = .ok (.tableswitch 57 0 5 #[39, 42, 45, 48, 51, 54], 39) := by decide +kernel
theorem dX3_lineWord_40 : decode cX3_lineWord 40 = .ok (.ldc 118, 2) := by decide +kernel
theorem dX3_lineWord_42 : decode cX3_lineWord 42 = .ok (.areturn, 1) := by decide +kernel
theorem dX3_lineWord_43 : decode cX3_lineWord 43 = .ok (.ldc 120, 2) := by decide +kernel
theorem dX3_lineWord_45 : decode cX3_lineWord 45 = .ok (.areturn, 1) := by decide +kernel
theorem dX3_lineWord_46 : decode cX3_lineWord 46 = .ok (.ldc 122, 2) := by decide +kernel
theorem dX3_lineWord_48 : decode cX3_lineWord 48 = .ok (.areturn, 1) := by decide +kernel
theorem dX3_lineWord_49 : decode cX3_lineWord 49 = .ok (.ldc 124, 2) := by decide +kernel
theorem dX3_lineWord_51 : decode cX3_lineWord 51 = .ok (.areturn, 1) := by decide +kernel
theorem dX3_lineWord_52 : decode cX3_lineWord 52 = .ok (.ldc 126, 2) := by decide +kernel
theorem dX3_lineWord_54 : decode cX3_lineWord 54 = .ok (.areturn, 1) := by decide +kernel
theorem dX3_lineWord_55 : decode cX3_lineWord 55 = .ok (.ldc 128, 2) := by decide +kernel
theorem dX3_lineWord_57 : decode cX3_lineWord 57 = .ok (.areturn, 1) := by decide +kernel
theorem dX3_lineWord_58 : decode cX3_lineWord 58 = .ok (.ldc 130, 2) := by decide +kernel
theorem dX3_lineWord_60 : decode cX3_lineWord 60 = .ok (.areturn, 1) := by decide +kernel
theorem dX3_isWord_0 : decode cX3_isWord 0 = .ok (.aload_n 0, 1) := by decide +kernel
theorem dX3_isWord_1 : decode cX3_isWord 1 = .ok (.getfield 34, 3) := by decide +kernel
theorem dX3_isWord_4 : decode cX3_isWord 4 = .ok (.iconst 1, 1) := by decide +kernel
theorem dX3_isWord_5 : decode cX3_isWord 5 = .ok (.if_icmp .ne 19, 3) := by decide +kernel
theorem dX3_isWord_8 : decode cX3_isWord 8 = .ok (.aload_n 0, 1) := by decide +kernel
theorem dX3_isWord_9 : decode cX3_isWord 9 = .ok (.getfield 92, 3) := by decide +kernel
theorem dX3_isWord_12 : decode cX3_isWord 12 = .ok (.aload_n 0, 1) := by decide +kernel
theorem dX3_isWord_13 : decode cX3_isWord 13 = .ok (.getfield 98, 3) := by decide +kernel
theorem dX3_isWord_16 : decode cX3_isWord 16 = .ok (.isub, 1) := by decide +kernel
theorem dX3_isWord_17 : decode cX3_isWord 17 = .ok (.aload_n 1, 1) := by decide +kernel
theorem dX3_isWord_18 : decode cX3_isWord 18 = .ok (.invokevirtual 132, 3) := by decide +kernel
theorem dX3_isWord_21 : decode cX3_isWord 21 = .ok (.if_icmp .eq 5, 3) := by decide +kernel
theorem dX3_isWord_24 : decode cX3_isWord 24 = .ok (.iconst 0, 1) := by decide +kernel
theorem dX3_isWord_25 : decode cX3_isWord 25 = .ok (.ireturn, 1) := by decide +kernel
theorem dX3_isWord_26 : decode cX3_isWord 26 = .ok (.iconst 0, 1) := by decide +kernel
theorem dX3_isWord_27 : decode cX3_isWord 27 = .ok (.istore_n 2, 1) := by decide +kernel
theorem dX3_isWord_28 : decode cX3_isWord 28 = .ok (.iload_n 2, 1) := by decide +kernel
theorem dX3_isWord_29 : decode cX3_isWord 29 = .ok (.aload_n 1, 1) := by decide +kernel
theorem dX3_isWord_30 : decode cX3_isWord 30 = .ok (.invokevirtual 132, 3) := by decide +kernel
theorem dX3_isWord_33 : decode cX3_isWord 33 = .ok (.if_icmp .ge 29, 3) := by decide +kernel
theorem dX3_isWord_36 : decode cX3_isWord 36 = .ok (.aload_n 0, 1) := by decide +kernel
theorem dX3_isWord_37 : decode cX3_isWord 37 = .ok (.aload_n 0, 1) := by decide +kernel
theorem dX3_isWord_38 : decode cX3_isWord 38 = .ok (.getfield 98, 3) := by decide +kernel
theorem dX3_isWord_41 : decode cX3_isWord 41 = .ok (.iload_n 2, 1) := by decide +kernel
theorem dX3_isWord_42 : decode cX3_isWord 42 = .ok (.iadd, 1) := by decide +kernel
theorem dX3_isWord_43 : decode cX3_isWord 43 = .ok (.invokevirtual 136, 3) := by decide +kernel
theorem dX3_isWord_46 : decode cX3_isWord 46 = .ok (.aload_n 1, 1) := by decide +kernel
theorem dX3_isWord_47 : decode cX3_isWord 47 = .ok (.iload_n 2, 1) := by decide +kernel
theorem dX3_isWord_48 : decode cX3_isWord 48 = .ok (.invokevirtual 140, 3) := by decide +kernel
theorem dX3_isWord_51 : decode cX3_isWord 51 = .ok (.if_icmp .eq 5, 3) := by decide +kernel
theorem dX3_isWord_54 : decode cX3_isWord 54 = .ok (.iconst 0, 1) := by decide +kernel
theorem dX3_isWord_55 : decode cX3_isWord 55 = .ok (.ireturn, 1) := by decide +kernel
theorem dX3_isWord_56 : decode cX3_isWord 56 = .ok (.iinc 2 1, 3) := by decide +kernel
theorem dX3_isWord_59 : decode cX3_isWord 59 = .ok (.goto (-31), 3) := by decide +kernel
theorem dX3_isWord_62 : decode cX3_isWord 62 = .ok (.iconst 1, 1) := by decide +kernel
theorem dX3_isWord_63 : decode cX3_isWord 63 = .ok (.ireturn, 1) := by decide +kernel
theorem dX3_byteAt_0 : decode cX3_byteAt 0 = .ok (.iload_n 1, 1) := by decide +kernel
theorem dX3_byteAt_1 : decode cX3_byteAt 1 = .ok (.ifCond .lt 27, 3) := by decide +kernel
theorem dX3_byteAt_4 : decode cX3_byteAt 4 = .ok (.iload_n 1, 1) := by decide +kernel
theorem dX3_byteAt_5 : decode cX3_byteAt 5 = .ok (.aload_n 0, 1) := by decide +kernel
theorem dX3_byteAt_6 : decode cX3_byteAt 6 = .ok (.getfield 89, 3) := by decide +kernel
theorem dX3_byteAt_9 : decode cX3_byteAt 9 = .ok (.if_icmp .ge 19, 3) := by decide +kernel
theorem dX3_byteAt_12 : decode cX3_byteAt 12 = .ok (.iload_n 1, 1) := by decide +kernel
theorem dX3_byteAt_13 : decode cX3_byteAt 13 = .ok (.sipush 400, 3) := by decide +kernel
theorem dX3_byteAt_16 : decode cX3_byteAt 16 = .ok (.if_icmp .ge 12, 3) := by decide +kernel
theorem dX3_byteAt_19 : decode cX3_byteAt 19 = .ok (.aload_n 0, 1) := by decide +kernel
theorem dX3_byteAt_20 : decode cX3_byteAt 20 = .ok (.getfield 9, 3) := by decide +kernel
theorem dX3_byteAt_23 : decode cX3_byteAt 23 = .ok (.iload_n 1, 1) := by decide +kernel
theorem dX3_byteAt_24 : decode cX3_byteAt 24 = .ok (.iaload, 1) := by decide +kernel
theorem dX3_byteAt_25 : decode cX3_byteAt 25 = .ok (.goto 4, 3) := by decide +kernel
theorem dX3_byteAt_28 : decode cX3_byteAt 28 = .ok (.iconst (-1), 1) := by decide +kernel
theorem dX3_byteAt_29 : decode cX3_byteAt 29 = .ok (.ireturn, 1) := by decide +kernel
theorem dX3_advance_0 : decode cX3_advance 0 = .ok (.aload_n 0, 1) := by decide +kernel
theorem dX3_advance_1 : decode cX3_advance 1 = .ok (.getfield 92, 3) := by decide +kernel
theorem dX3_advance_4 : decode cX3_advance 4 = .ok (.istore_n 1, 1) := by decide +kernel
theorem dX3_advance_5 : decode cX3_advance 5 = .ok (.iload_n 1, 1) := by decide +kernel
theorem dX3_advance_6 : decode cX3_advance 6 = .ok (.aload_n 0, 1) := by decide +kernel
theorem dX3_advance_7 : decode cX3_advance 7 = .ok (.getfield 89, 3) := by decide +kernel
theorem dX3_advance_10 : decode cX3_advance 10 = .ok (.if_icmp .ge 20, 3) := by decide +kernel
theorem dX3_advance_13 : decode cX3_advance 13 = .ok (.aload_n 0, 1) := by decide +kernel
theorem dX3_advance_14 : decode cX3_advance 14 = .ok (.iload_n 1, 1) := by decide +kernel
theorem dX3_advance_15 : decode cX3_advance 15 = .ok (.invokevirtual 136, 3) := by decide +kernel
theorem dX3_advance_18 : decode cX3_advance 18 = .ok (.invokestatic 144, 3) := by decide +kernel
theorem dX3_advance_21 : decode cX3_advance 21 = .ok (.ifCond .eq 9, 3) := by decide +kernel
theorem dX3_advance_24 : decode cX3_advance 24 = .ok (.iinc 1 1, 3) := by decide +kernel
theorem dX3_advance_27 : decode cX3_advance 27 = .ok (.goto (-22), 3) := by decide +kernel
theorem dX3_advance_30 : decode cX3_advance 30 = .ok (.aload_n 0, 1) := by decide +kernel
theorem dX3_advance_31 : decode cX3_advance 31 = .ok (.iload_n 1, 1) := by decide +kernel
theorem dX3_advance_32 : decode cX3_advance 32 = .ok (.putfield 98, 3) := by decide +kernel
theorem dX3_advance_35 : decode cX3_advance 35 = .ok (.aload_n 0, 1) := by decide +kernel
theorem dX3_advance_36 : decode cX3_advance 36 = .ok (.iload_n 1, 1) := by decide +kernel
theorem dX3_advance_37 : decode cX3_advance 37 = .ok (.invokevirtual 136, 3) := by decide +kernel
theorem dX3_advance_40 : decode cX3_advance 40 = .ok (.istore_n 2, 1) := by decide +kernel
theorem dX3_advance_41 : decode cX3_advance 41 = .ok (.iload_n 2, 1) := by decide +kernel
theorem dX3_advance_42 : decode cX3_advance 42 = .ok (.iconst (-1), 1) := by decide +kernel
theorem dX3_advance_43 : decode cX3_advance 43 = .ok (.if_icmp .ne 11, 3) := by decide +kernel
theorem dX3_advance_46 : decode cX3_advance 46 = .ok (.aload_n 0, 1) := by decide +kernel
theorem dX3_advance_47 : decode cX3_advance 47 = .ok (.iconst 0, 1) := by decide +kernel
theorem dX3_advance_48 : decode cX3_advance 48 = .ok (.putfield 34, 3) := by decide +kernel
theorem dX3_advance_51 : decode cX3_advance 51 = .ok (.goto 78, 3) := by decide +kernel
theorem dX3_advance_54 : decode cX3_advance 54 = .ok (.iload_n 2, 1) := by decide +kernel
theorem dX3_advance_55 : decode cX3_advance 55 = .ok (.bipush 59, 2) := by decide +kernel
theorem dX3_advance_57 : decode cX3_advance 57 = .ok (.if_icmp .ne 14, 3) := by decide +kernel
theorem dX3_advance_60 : decode cX3_advance 60 = .ok (.aload_n 0, 1) := by decide +kernel
theorem dX3_advance_61 : decode cX3_advance 61 = .ok (.iconst 3, 1) := by decide +kernel
theorem dX3_advance_62 : decode cX3_advance 62 = .ok (.putfield 34, 3) := by decide +kernel
theorem dX3_advance_65 : decode cX3_advance 65 = .ok (.iinc 1 1, 3) := by decide +kernel
theorem dX3_advance_68 : decode cX3_advance 68 = .ok (.goto 61, 3) := by decide +kernel
theorem dX3_advance_71 : decode cX3_advance 71 = .ok (.iload_n 2, 1) := by decide +kernel
theorem dX3_advance_72 : decode cX3_advance 72 = .ok (.invokestatic 148, 3) := by decide +kernel
theorem dX3_advance_75 : decode cX3_advance 75 = .ok (.ifCond .eq 33, 3) := by decide +kernel
theorem dX3_advance_78 : decode cX3_advance 78 = .ok (.aload_n 0, 1) := by decide +kernel
theorem dX3_advance_79 : decode cX3_advance 79 = .ok (.iconst 1, 1) := by decide +kernel
theorem dX3_advance_80 : decode cX3_advance 80 = .ok (.putfield 34, 3) := by decide +kernel
theorem dX3_advance_83 : decode cX3_advance 83 = .ok (.iload_n 1, 1) := by decide +kernel
theorem dX3_advance_84 : decode cX3_advance 84 = .ok (.aload_n 0, 1) := by decide +kernel
theorem dX3_advance_85 : decode cX3_advance 85 = .ok (.getfield 89, 3) := by decide +kernel
theorem dX3_advance_88 : decode cX3_advance 88 = .ok (.if_icmp .ge 41, 3) := by decide +kernel
theorem dX3_advance_91 : decode cX3_advance 91 = .ok (.aload_n 0, 1) := by decide +kernel
theorem dX3_advance_92 : decode cX3_advance 92 = .ok (.iload_n 1, 1) := by decide +kernel
theorem dX3_advance_93 : decode cX3_advance 93 = .ok (.invokevirtual 136, 3) := by decide +kernel
theorem dX3_advance_96 : decode cX3_advance 96 = .ok (.invokestatic 148, 3) := by decide +kernel
theorem dX3_advance_99 : decode cX3_advance 99 = .ok (.ifCond .eq 30, 3) := by decide +kernel
theorem dX3_advance_102 : decode cX3_advance 102 = .ok (.iinc 1 1, 3) := by decide +kernel
theorem dX3_advance_105 : decode cX3_advance 105 = .ok (.goto (-22), 3) := by decide +kernel
theorem dX3_advance_108 : decode cX3_advance 108 = .ok (.iload_n 2, 1) := by decide +kernel
theorem dX3_advance_109 : decode cX3_advance 109 = .ok (.invokestatic 151, 3) := by decide +kernel
theorem dX3_advance_112 : decode cX3_advance 112 = .ok (.ifCond .eq 12, 3) := by decide +kernel
theorem dX3_advance_115 : decode cX3_advance 115 = .ok (.aload_n 0, 1) := by decide +kernel
theorem dX3_advance_116 : decode cX3_advance 116 = .ok (.iload_n 1, 1) := by decide +kernel
theorem dX3_advance_117 : decode cX3_advance 117 = .ok (.invokevirtual 154, 3) := by decide +kernel
theorem dX3_advance_120 : decode cX3_advance 120 = .ok (.istore_n 1, 1) := by decide +kernel
theorem dX3_advance_121 : decode cX3_advance 121 = .ok (.goto 8, 3) := by decide +kernel
theorem dX3_advance_124 : decode cX3_advance 124 = .ok (.aload_n 0, 1) := by decide +kernel
theorem dX3_advance_125 : decode cX3_advance 125 = .ok (.iconst 4, 1) := by decide +kernel
theorem dX3_advance_126 : decode cX3_advance 126 = .ok (.putfield 34, 3) := by decide +kernel
theorem dX3_advance_129 : decode cX3_advance 129 = .ok (.aload_n 0, 1) := by decide +kernel
theorem dX3_advance_130 : decode cX3_advance 130 = .ok (.iload_n 1, 1) := by decide +kernel
theorem dX3_advance_131 : decode cX3_advance 131 = .ok (.putfield 92, 3) := by decide +kernel
theorem dX3_advance_134 : decode cX3_advance 134 = .ok (.return_, 1) := by decide +kernel
theorem dX3_advanceDigits_0 : decode cX3_advanceDigits 0 = .ok (.iload_n 1, 1) := by decide +kernel
theorem dX3_advanceDigits_1 : decode cX3_advanceDigits 1 = .ok (.istore_n 2, 1) := by decide +kernel
theorem dX3_advanceDigits_2 : decode cX3_advanceDigits 2 = .ok (.aload_n 0, 1) := by decide +kernel
theorem dX3_advanceDigits_3 : decode cX3_advanceDigits 3 = .ok (.iconst 0, 1) := by decide +kernel
theorem dX3_advanceDigits_4 : decode cX3_advanceDigits 4 = .ok (.putfield 95, 3) := by decide +kernel
theorem dX3_advanceDigits_7 : decode cX3_advanceDigits 7 = .ok (.iload_n 2, 1) := by decide +kernel
theorem dX3_advanceDigits_8 : decode cX3_advanceDigits 8 = .ok (.aload_n 0, 1) := by decide +kernel
theorem dX3_advanceDigits_9 : decode cX3_advanceDigits 9 = .ok (.getfield 89, 3) := by decide +kernel
theorem dX3_advanceDigits_12 : decode cX3_advanceDigits 12 = .ok (.if_icmp .ge 40, 3) := by decide +kernel
theorem dX3_advanceDigits_15 : decode cX3_advanceDigits 15 = .ok (.aload_n 0, 1) := by decide +kernel
theorem dX3_advanceDigits_16 : decode cX3_advanceDigits 16 = .ok (.iload_n 2, 1) := by decide +kernel
theorem dX3_advanceDigits_17 : decode cX3_advanceDigits 17 = .ok (.invokevirtual 136, 3) := by decide +kernel
theorem dX3_advanceDigits_20 : decode cX3_advanceDigits 20 = .ok (.invokestatic 151, 3) := by decide +kernel
theorem dX3_advanceDigits_23 : decode cX3_advanceDigits 23 = .ok (.ifCond .eq 29, 3) := by decide +kernel
theorem dX3_advanceDigits_26 : decode cX3_advanceDigits 26 = .ok (.aload_n 0, 1) := by decide +kernel
theorem dX3_advanceDigits_27 : decode cX3_advanceDigits 27 = .ok (.bipush 10, 2) := by decide +kernel
theorem dX3_advanceDigits_29 : decode cX3_advanceDigits 29 = .ok (.aload_n 0, 1) := by decide +kernel
theorem dX3_advanceDigits_30 : decode cX3_advanceDigits 30 = .ok (.getfield 95, 3) := by decide +kernel
theorem dX3_advanceDigits_33 : decode cX3_advanceDigits 33 = .ok (.imul, 1) := by decide +kernel
theorem dX3_advanceDigits_34 : decode cX3_advanceDigits 34 = .ok (.aload_n 0, 1) := by decide +kernel
theorem dX3_advanceDigits_35 : decode cX3_advanceDigits 35 = .ok (.iload_n 2, 1) := by decide +kernel
theorem dX3_advanceDigits_36 : decode cX3_advanceDigits 36 = .ok (.invokevirtual 136, 3) := by decide +kernel
theorem dX3_advanceDigits_39 : decode cX3_advanceDigits 39 = .ok (.iadd, 1) := by decide +kernel
theorem dX3_advanceDigits_40 : decode cX3_advanceDigits 40 = .ok (.bipush 48, 2) := by decide +kernel
theorem dX3_advanceDigits_42 : decode cX3_advanceDigits 42 = .ok (.isub, 1) := by decide +kernel
theorem dX3_advanceDigits_43 : decode cX3_advanceDigits 43 = .ok (.putfield 95, 3) := by decide +kernel
theorem dX3_advanceDigits_46 : decode cX3_advanceDigits 46 = .ok (.iinc 2 1, 3) := by decide +kernel
theorem dX3_advanceDigits_49 : decode cX3_advanceDigits 49 = .ok (.goto (-42), 3) := by decide +kernel
theorem dX3_advanceDigits_52 : decode cX3_advanceDigits 52 = .ok (.aload_n 0, 1) := by decide +kernel
theorem dX3_advanceDigits_53 : decode cX3_advanceDigits 53 = .ok (.iload_n 2, 1) := by decide +kernel
theorem dX3_advanceDigits_54 : decode cX3_advanceDigits 54 = .ok (.iload_n 1, 1) := by decide +kernel
theorem dX3_advanceDigits_55 : decode cX3_advanceDigits 55 = .ok (.isub, 1) := by decide +kernel
theorem dX3_advanceDigits_56 : decode cX3_advanceDigits 56 = .ok (.iconst 2, 1) := by decide +kernel
theorem dX3_advanceDigits_57 : decode cX3_advanceDigits 57 = .ok (.if_icmp .gt 7, 3) := by decide +kernel
theorem dX3_advanceDigits_60 : decode cX3_advanceDigits 60 = .ok (.iconst 2, 1) := by decide +kernel
theorem dX3_advanceDigits_61 : decode cX3_advanceDigits 61 = .ok (.goto 4, 3) := by decide +kernel
theorem dX3_advanceDigits_64 : decode cX3_advanceDigits 64 = .ok (.iconst 4, 1) := by decide +kernel
theorem dX3_advanceDigits_65 : decode cX3_advanceDigits 65 = .ok (.putfield 34, 3) := by decide +kernel
theorem dX3_advanceDigits_68 : decode cX3_advanceDigits 68 = .ok (.iload_n 2, 1) := by decide +kernel
theorem dX3_advanceDigits_69 : decode cX3_advanceDigits 69 = .ok (.ireturn, 1) := by decide +kernel
theorem dX3_isBlank_0 : decode cX3_isBlank 0 = .ok (.iload_n 0, 1) := by decide +kernel
theorem dX3_isBlank_1 : decode cX3_isBlank 1 = .ok (.bipush 10, 2) := by decide +kernel
theorem dX3_isBlank_3 : decode cX3_isBlank 3 = .ok (.if_icmp .eq 9, 3) := by decide +kernel
theorem dX3_isBlank_6 : decode cX3_isBlank 6 = .ok (.iload_n 0, 1) := by decide +kernel
theorem dX3_isBlank_7 : decode cX3_isBlank 7 = .ok (.bipush 32, 2) := by decide +kernel
theorem dX3_isBlank_9 : decode cX3_isBlank 9 = .ok (.if_icmp .ne 7, 3) := by decide +kernel
theorem dX3_isBlank_12 : decode cX3_isBlank 12 = .ok (.iconst 1, 1) := by decide +kernel
theorem dX3_isBlank_13 : decode cX3_isBlank 13 = .ok (.goto 4, 3) := by decide +kernel
theorem dX3_isBlank_16 : decode cX3_isBlank 16 = .ok (.iconst 0, 1) := by decide +kernel
theorem dX3_isBlank_17 : decode cX3_isBlank 17 = .ok (.ireturn, 1) := by decide +kernel
theorem dX3_isLetter_0 : decode cX3_isLetter 0 = .ok (.iload_n 0, 1) := by decide +kernel
theorem dX3_isLetter_1 : decode cX3_isLetter 1 = .ok (.bipush 97, 2) := by decide +kernel
theorem dX3_isLetter_3 : decode cX3_isLetter 3 = .ok (.if_icmp .lt 13, 3) := by decide +kernel
theorem dX3_isLetter_6 : decode cX3_isLetter 6 = .ok (.iload_n 0, 1) := by decide +kernel
theorem dX3_isLetter_7 : decode cX3_isLetter 7 = .ok (.bipush 122, 2) := by decide +kernel
theorem dX3_isLetter_9 : decode cX3_isLetter 9 = .ok (.if_icmp .gt 7, 3) := by decide +kernel
theorem dX3_isLetter_12 : decode cX3_isLetter 12 = .ok (.iconst 1, 1) := by decide +kernel
theorem dX3_isLetter_13 : decode cX3_isLetter 13 = .ok (.goto 4, 3) := by decide +kernel
theorem dX3_isLetter_16 : decode cX3_isLetter 16 = .ok (.iconst 0, 1) := by decide +kernel
theorem dX3_isLetter_17 : decode cX3_isLetter 17 = .ok (.ireturn, 1) := by decide +kernel
theorem dX3_isDigit_0 : decode cX3_isDigit 0 = .ok (.iload_n 0, 1) := by decide +kernel
theorem dX3_isDigit_1 : decode cX3_isDigit 1 = .ok (.bipush 48, 2) := by decide +kernel
theorem dX3_isDigit_3 : decode cX3_isDigit 3 = .ok (.if_icmp .lt 13, 3) := by decide +kernel
theorem dX3_isDigit_6 : decode cX3_isDigit 6 = .ok (.iload_n 0, 1) := by decide +kernel
theorem dX3_isDigit_7 : decode cX3_isDigit 7 = .ok (.bipush 57, 2) := by decide +kernel
theorem dX3_isDigit_9 : decode cX3_isDigit 9 = .ok (.if_icmp .gt 7, 3) := by decide +kernel
theorem dX3_isDigit_12 : decode cX3_isDigit 12 = .ok (.iconst 1, 1) := by decide +kernel
theorem dX3_isDigit_13 : decode cX3_isDigit 13 = .ok (.goto 4, 3) := by decide +kernel
theorem dX3_isDigit_16 : decode cX3_isDigit 16 = .ok (.iconst 0, 1) := by decide +kernel
theorem dX3_isDigit_17 : decode cX3_isDigit 17 = .ok (.ireturn, 1) := by decide +kernel
