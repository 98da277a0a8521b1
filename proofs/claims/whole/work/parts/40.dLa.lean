theorem dL_sheet_0 : decode cL_sheet 0 = .ok (.aload_n 0, 1) := by decide +kernel
theorem dL_sheet_1 : decode cL_sheet 1 = .ok (.iload_n 1, 1) := by decide +kernel
theorem dL_sheet_2 : decode cL_sheet 2 = .ok (.iload_n 2, 1) := by decide +kernel
theorem dL_sheet_3 : decode cL_sheet 3 = .ok (.invokevirtual 7, 3) := by decide +kernel
theorem dL_sheet_6 : decode cL_sheet 6 = .ok (.goto 6, 3) := by decide +kernel
theorem dL_sheet_9 : decode cL_sheet 9 = .ok (.astore_n 3, 1) := by decide +kernel
theorem dL_sheet_10 : decode cL_sheet 10 = .ok (.iconst 1, 1) := by decide +kernel
theorem dL_sheet_11 : decode cL_sheet 11 = .ok (.ireturn, 1) := by decide +kernel
theorem dL_sheet_12 : decode cL_sheet 12 = .ok (.iconst 0, 1) := by decide +kernel
theorem dL_sheet_13 : decode cL_sheet 13 = .ok (.ireturn, 1) := by decide +kernel
theorem dL_way_0 : decode cL_way 0 = .ok (.aload_n 2, 1) := by decide +kernel
theorem dL_way_1 : decode cL_way 1 = .ok (.iconst 0, 1) := by decide +kernel
theorem dL_way_2 : decode cL_way 2 = .ok (.aload_n 0, 1) := by decide +kernel
theorem dL_way_3 : decode cL_way 3 = .ok (.iload_n 1, 1) := by decide +kernel
theorem dL_way_4 : decode cL_way 4 = .ok (.invokevirtual 15, 3) := by decide +kernel
theorem dL_way_7 : decode cL_way 7 = .ok (.i2l, 1) := by decide +kernel
theorem dL_way_8 : decode cL_way 8 = .ok (.lastore, 1) := by decide +kernel
theorem dL_way_9 : decode cL_way 9 = .ok (.goto 6, 3) := by decide +kernel
theorem dL_way_12 : decode cL_way 12 = .ok (.astore_n 3, 1) := by decide +kernel
theorem dL_way_13 : decode cL_way 13 = .ok (.iconst 1, 1) := by decide +kernel
theorem dL_way_14 : decode cL_way 14 = .ok (.ireturn, 1) := by decide +kernel
theorem dL_way_15 : decode cL_way 15 = .ok (.iconst 0, 1) := by decide +kernel
theorem dL_way_16 : decode cL_way 16 = .ok (.ireturn, 1) := by decide +kernel
theorem dL_law_0 : decode cL_law 0 = .ok (.aload_n 2, 1) := by decide +kernel
theorem dL_law_1 : decode cL_law 1 = .ok (.iconst 0, 1) := by decide +kernel
theorem dL_law_2 : decode cL_law 2 = .ok (.aload_n 0, 1) := by decide +kernel
theorem dL_law_3 : decode cL_law 3 = .ok (.iload_n 1, 1) := by decide +kernel
theorem dL_law_4 : decode cL_law 4 = .ok (.invokevirtual 19, 3) := by decide +kernel
theorem dL_law_7 : decode cL_law 7 = .ok (.i2l, 1) := by decide +kernel
theorem dL_law_8 : decode cL_law 8 = .ok (.lastore, 1) := by decide +kernel
theorem dL_law_9 : decode cL_law 9 = .ok (.goto 6, 3) := by decide +kernel
theorem dL_law_12 : decode cL_law 12 = .ok (.astore_n 3, 1) := by decide +kernel
theorem dL_law_13 : decode cL_law 13 = .ok (.iconst 1, 1) := by decide +kernel
theorem dL_law_14 : decode cL_law 14 = .ok (.ireturn, 1) := by decide +kernel
theorem dL_law_15 : decode cL_law 15 = .ok (.iconst 0, 1) := by decide +kernel
theorem dL_law_16 : decode cL_law 16 = .ok (.ireturn, 1) := by decide +kernel
theorem dL_fold_0 : decode cL_fold 0 = .ok (.aload_n 3, 1) := by decide +kernel
theorem dL_fold_1 : decode cL_fold 1 = .ok (.iconst 0, 1) := by decide +kernel
theorem dL_fold_2 : decode cL_fold 2 = .ok (.aload_n 0, 1) := by decide +kernel
theorem dL_fold_3 : decode cL_fold 3 = .ok (.iload_n 1, 1) := by decide +kernel
theorem dL_fold_4 : decode cL_fold 4 = .ok (.iload_n 2, 1) := by decide +kernel
theorem dL_fold_5 : decode cL_fold 5 = .ok (.invokevirtual 22, 3) := by decide +kernel
theorem dL_fold_8 : decode cL_fold 8 = .ok (.i2l, 1) := by decide +kernel
theorem dL_fold_9 : decode cL_fold 9 = .ok (.lastore, 1) := by decide +kernel
theorem dL_fold_10 : decode cL_fold 10 = .ok (.goto 7, 3) := by decide +kernel
theorem dL_fold_13 : decode cL_fold 13 = .ok (.astore 4, 2) := by decide +kernel
theorem dL_fold_15 : decode cL_fold 15 = .ok (.iconst 1, 1) := by decide +kernel
theorem dL_fold_16 : decode cL_fold 16 = .ok (.ireturn, 1) := by decide +kernel
theorem dL_fold_17 : decode cL_fold 17 = .ok (.iconst 0, 1) := by decide +kernel
theorem dL_fold_18 : decode cL_fold 18 = .ok (.ireturn, 1) := by decide +kernel
theorem dL_breaks_0 : decode cL_breaks 0 = .ok (.aload_n 2, 1) := by decide +kernel
theorem dL_breaks_1 : decode cL_breaks 1 = .ok (.iconst 0, 1) := by decide +kernel
theorem dL_breaks_2 : decode cL_breaks 2 = .ok (.aload_n 0, 1) := by decide +kernel
theorem dL_breaks_3 : decode cL_breaks 3 = .ok (.iload_n 1, 1) := by decide +kernel
theorem dL_breaks_4 : decode cL_breaks 4 = .ok (.invokevirtual 28, 3) := by decide +kernel
theorem dL_breaks_7 : decode cL_breaks 7 = .ok (.i2l, 1) := by decide +kernel
theorem dL_breaks_8 : decode cL_breaks 8 = .ok (.lastore, 1) := by decide +kernel
theorem dL_breaks_9 : decode cL_breaks 9 = .ok (.goto 6, 3) := by decide +kernel
theorem dL_breaks_12 : decode cL_breaks 12 = .ok (.astore_n 3, 1) := by decide +kernel
theorem dL_breaks_13 : decode cL_breaks 13 = .ok (.iconst 1, 1) := by decide +kernel
theorem dL_breaks_14 : decode cL_breaks 14 = .ok (.ireturn, 1) := by decide +kernel
theorem dL_breaks_15 : decode cL_breaks 15 = .ok (.iconst 0, 1) := by decide +kernel
theorem dL_breaks_16 : decode cL_breaks 16 = .ok (.ireturn, 1) := by decide +kernel
theorem dL_make_0 : decode cL_make 0 = .ok (.aload_n 3, 1) := by decide +kernel
theorem dL_make_1 : decode cL_make 1 = .ok (.iconst 0, 1) := by decide +kernel
theorem dL_make_2 : decode cL_make 2 = .ok (.aload_n 0, 1) := by decide +kernel
theorem dL_make_3 : decode cL_make 3 = .ok (.iload_n 1, 1) := by decide +kernel
theorem dL_make_4 : decode cL_make 4 = .ok (.iload_n 2, 1) := by decide +kernel
theorem dL_make_5 : decode cL_make 5 = .ok (.invokevirtual 31, 3) := by decide +kernel
theorem dL_make_8 : decode cL_make 8 = .ok (.i2l, 1) := by decide +kernel
theorem dL_make_9 : decode cL_make 9 = .ok (.lastore, 1) := by decide +kernel
theorem dL_make_10 : decode cL_make 10 = .ok (.goto 15, 3) := by decide +kernel
theorem dL_make_13 : decode cL_make 13 = .ok (.astore 4, 2) := by decide +kernel
theorem dL_make_15 : decode cL_make 15 = .ok (.iconst 1, 1) := by decide +kernel
theorem dL_make_16 : decode cL_make 16 = .ok (.ireturn, 1) := by decide +kernel
theorem dL_make_17 : decode cL_make 17 = .ok (.astore 4, 2) := by decide +kernel
theorem dL_make_19 : decode cL_make 19 = .ok (.iconst 2, 1) := by decide +kernel
theorem dL_make_20 : decode cL_make 20 = .ok (.ireturn, 1) := by decide +kernel
theorem dL_make_21 : decode cL_make 21 = .ok (.astore 4, 2) := by decide +kernel
theorem dL_make_23 : decode cL_make 23 = .ok (.iconst 3, 1) := by decide +kernel
theorem dL_make_24 : decode cL_make 24 = .ok (.ireturn, 1) := by decide +kernel
theorem dL_make_25 : decode cL_make 25 = .ok (.iconst 0, 1) := by decide +kernel
theorem dL_make_26 : decode cL_make 26 = .ok (.ireturn, 1) := by decide +kernel
theorem dL_layers_0 : decode cL_layers 0 = .ok (.aload 4, 2) := by decide +kernel
theorem dL_layers_2 : decode cL_layers 2 = .ok (.iconst 0, 1) := by decide +kernel
theorem dL_layers_3 : decode cL_layers 3 = .ok (.aload_n 0, 1) := by decide +kernel
theorem dL_layers_4 : decode cL_layers 4 = .ok (.iload_n 1, 1) := by decide +kernel
theorem dL_layers_5 : decode cL_layers 5 = .ok (.iload_n 2, 1) := by decide +kernel
theorem dL_layers_6 : decode cL_layers 6 = .ok (.iload_n 3, 1) := by decide +kernel
theorem dL_layers_7 : decode cL_layers 7 = .ok (.invokevirtual 36, 3) := by decide +kernel
theorem dL_layers_10 : decode cL_layers 10 = .ok (.i2l, 1) := by decide +kernel
theorem dL_layers_11 : decode cL_layers 11 = .ok (.lastore, 1) := by decide +kernel
theorem dL_layers_12 : decode cL_layers 12 = .ok (.goto 11, 3) := by decide +kernel
theorem dL_layers_15 : decode cL_layers 15 = .ok (.astore 5, 2) := by decide +kernel
theorem dL_layers_17 : decode cL_layers 17 = .ok (.iconst 1, 1) := by decide +kernel
theorem dL_layers_18 : decode cL_layers 18 = .ok (.ireturn, 1) := by decide +kernel
theorem dL_layers_19 : decode cL_layers 19 = .ok (.astore 5, 2) := by decide +kernel
theorem dL_layers_21 : decode cL_layers 21 = .ok (.iconst 2, 1) := by decide +kernel
theorem dL_layers_22 : decode cL_layers 22 = .ok (.ireturn, 1) := by decide +kernel
theorem dL_layers_23 : decode cL_layers 23 = .ok (.iconst 0, 1) := by decide +kernel
theorem dL_layers_24 : decode cL_layers 24 = .ok (.ireturn, 1) := by decide +kernel
theorem dL_fly_0 : decode cL_fly 0 = .ok (.aload 6, 2) := by decide +kernel
theorem dL_fly_2 : decode cL_fly 2 = .ok (.iconst 0, 1) := by decide +kernel
theorem dL_fly_3 : decode cL_fly 3 = .ok (.aload_n 0, 1) := by decide +kernel
theorem dL_fly_4 : decode cL_fly 4 = .ok (.iload_n 1, 1) := by decide +kernel
theorem dL_fly_5 : decode cL_fly 5 = .ok (.iload_n 2, 1) := by decide +kernel
theorem dL_fly_6 : decode cL_fly 6 = .ok (.iload_n 3, 1) := by decide +kernel
theorem dL_fly_7 : decode cL_fly 7 = .ok (.iload 4, 2) := by decide +kernel
theorem dL_fly_9 : decode cL_fly 9 = .ok (.iload 5, 2) := by decide +kernel
theorem dL_fly_11 : decode cL_fly 11 = .ok (.invokevirtual 40, 3) := by decide +kernel
theorem dL_fly_14 : decode cL_fly 14 = .ok (.i2l, 1) := by decide +kernel
theorem dL_fly_15 : decode cL_fly 15 = .ok (.lastore, 1) := by decide +kernel
theorem dL_fly_16 : decode cL_fly 16 = .ok (.goto 15, 3) := by decide +kernel
theorem dL_fly_19 : decode cL_fly 19 = .ok (.astore 7, 2) := by decide +kernel
theorem dL_fly_21 : decode cL_fly 21 = .ok (.iconst 1, 1) := by decide +kernel
theorem dL_fly_22 : decode cL_fly 22 = .ok (.ireturn, 1) := by decide +kernel
theorem dL_fly_23 : decode cL_fly 23 = .ok (.astore 7, 2) := by decide +kernel
theorem dL_fly_25 : decode cL_fly 25 = .ok (.iconst 2, 1) := by decide +kernel
theorem dL_fly_26 : decode cL_fly 26 = .ok (.ireturn, 1) := by decide +kernel
theorem dL_fly_27 : decode cL_fly 27 = .ok (.astore 7, 2) := by decide +kernel
theorem dL_fly_29 : decode cL_fly 29 = .ok (.iconst 3, 1) := by decide +kernel
theorem dL_fly_30 : decode cL_fly 30 = .ok (.ireturn, 1) := by decide +kernel
theorem dL_fly_31 : decode cL_fly 31 = .ok (.iconst 0, 1) := by decide +kernel
theorem dL_fly_32 : decode cL_fly 32 = .ok (.ireturn, 1) := by decide +kernel
theorem dL_at_0 : decode cL_at 0 = .ok (.aload 7, 2) := by decide +kernel
theorem dL_at_2 : decode cL_at 2 = .ok (.iconst 0, 1) := by decide +kernel
theorem dL_at_3 : decode cL_at 3 = .ok (.aload_n 0, 1) := by decide +kernel
theorem dL_at_4 : decode cL_at 4 = .ok (.iload_n 1, 1) := by decide +kernel
theorem dL_at_5 : decode cL_at 5 = .ok (.iload_n 2, 1) := by decide +kernel
theorem dL_at_6 : decode cL_at 6 = .ok (.iload_n 3, 1) := by decide +kernel
theorem dL_at_7 : decode cL_at 7 = .ok (.iload 4, 2) := by decide +kernel
theorem dL_at_9 : decode cL_at 9 = .ok (.iload 5, 2) := by decide +kernel
theorem dL_at_11 : decode cL_at 11 = .ok (.iload 6, 2) := by decide +kernel
theorem dL_at_13 : decode cL_at 13 = .ok (.invokevirtual 44, 3) := by decide +kernel
theorem dL_at_16 : decode cL_at 16 = .ok (.i2l, 1) := by decide +kernel
theorem dL_at_17 : decode cL_at 17 = .ok (.lastore, 1) := by decide +kernel
theorem dL_at_18 : decode cL_at 18 = .ok (.goto 15, 3) := by decide +kernel
theorem dL_at_21 : decode cL_at 21 = .ok (.astore 8, 2) := by decide +kernel
theorem dL_at_23 : decode cL_at 23 = .ok (.iconst 1, 1) := by decide +kernel
theorem dL_at_24 : decode cL_at 24 = .ok (.ireturn, 1) := by decide +kernel
theorem dL_at_25 : decode cL_at 25 = .ok (.astore 8, 2) := by decide +kernel
theorem dL_at_27 : decode cL_at 27 = .ok (.iconst 2, 1) := by decide +kernel
theorem dL_at_28 : decode cL_at 28 = .ok (.ireturn, 1) := by decide +kernel
theorem dL_at_29 : decode cL_at 29 = .ok (.astore 8, 2) := by decide +kernel
theorem dL_at_31 : decode cL_at 31 = .ok (.iconst 3, 1) := by decide +kernel
theorem dL_at_32 : decode cL_at 32 = .ok (.ireturn, 1) := by decide +kernel
theorem dL_at_33 : decode cL_at 33 = .ok (.iconst 0, 1) := by decide +kernel
theorem dL_at_34 : decode cL_at 34 = .ok (.ireturn, 1) := by decide +kernel
theorem dL_draught_0 : decode cL_draught 0 = .ok (.aload 4, 2) := by decide +kernel
theorem dL_draught_2 : decode cL_draught 2 = .ok (.iconst 0, 1) := by decide +kernel
theorem dL_draught_3 : decode cL_draught 3 = .ok (.aload_n 0, 1) := by decide +kernel
theorem dL_draught_4 : decode cL_draught 4 = .ok (.iload_n 1, 1) := by decide +kernel
theorem dL_draught_5 : decode cL_draught 5 = .ok (.iload_n 2, 1) := by decide +kernel
theorem dL_draught_6 : decode cL_draught 6 = .ok (.iload_n 3, 1) := by decide +kernel
theorem dL_draught_7 : decode cL_draught 7 = .ok (.invokevirtual 48, 3) := by decide +kernel
theorem dL_draught_10 : decode cL_draught 10 = .ok (.i2l, 1) := by decide +kernel
theorem dL_draught_11 : decode cL_draught 11 = .ok (.lastore, 1) := by decide +kernel
theorem dL_draught_12 : decode cL_draught 12 = .ok (.goto 7, 3) := by decide +kernel
theorem dL_draught_15 : decode cL_draught 15 = .ok (.astore 5, 2) := by decide +kernel
theorem dL_draught_17 : decode cL_draught 17 = .ok (.iconst 1, 1) := by decide +kernel
theorem dL_draught_18 : decode cL_draught 18 = .ok (.ireturn, 1) := by decide +kernel
theorem dL_draught_19 : decode cL_draught 19 = .ok (.iconst 0, 1) := by decide +kernel
theorem dL_draught_20 : decode cL_draught 20 = .ok (.ireturn, 1) := by decide +kernel
theorem dL_crate_0 : decode cL_crate 0 = .ok (.aload_n 3, 1) := by decide +kernel
theorem dL_crate_1 : decode cL_crate 1 = .ok (.iconst 0, 1) := by decide +kernel
theorem dL_crate_2 : decode cL_crate 2 = .ok (.aload_n 0, 1) := by decide +kernel
theorem dL_crate_3 : decode cL_crate 3 = .ok (.iload_n 1, 1) := by decide +kernel
theorem dL_crate_4 : decode cL_crate 4 = .ok (.iload_n 2, 1) := by decide +kernel
theorem dL_crate_5 : decode cL_crate 5 = .ok (.invokevirtual 51, 3) := by decide +kernel
theorem dL_crate_8 : decode cL_crate 8 = .ok (.i2l, 1) := by decide +kernel
theorem dL_crate_9 : decode cL_crate 9 = .ok (.lastore, 1) := by decide +kernel
theorem dL_crate_10 : decode cL_crate 10 = .ok (.goto 7, 3) := by decide +kernel
theorem dL_crate_13 : decode cL_crate 13 = .ok (.astore 4, 2) := by decide +kernel
theorem dL_crate_15 : decode cL_crate 15 = .ok (.iconst 1, 1) := by decide +kernel
theorem dL_crate_16 : decode cL_crate 16 = .ok (.ireturn, 1) := by decide +kernel
theorem dL_crate_17 : decode cL_crate 17 = .ok (.iconst 0, 1) := by decide +kernel
theorem dL_crate_18 : decode cL_crate 18 = .ok (.ireturn, 1) := by decide +kernel
theorem dL_damp_0 : decode cL_damp 0 = .ok (.aload_n 2, 1) := by decide +kernel
theorem dL_damp_1 : decode cL_damp 1 = .ok (.iconst 0, 1) := by decide +kernel
theorem dL_damp_2 : decode cL_damp 2 = .ok (.aload_n 0, 1) := by decide +kernel
theorem dL_damp_3 : decode cL_damp 3 = .ok (.iload_n 1, 1) := by decide +kernel
theorem dL_damp_4 : decode cL_damp 4 = .ok (.invokevirtual 54, 3) := by decide +kernel
theorem dL_damp_7 : decode cL_damp 7 = .ok (.i2l, 1) := by decide +kernel
theorem dL_damp_8 : decode cL_damp 8 = .ok (.lastore, 1) := by decide +kernel
theorem dL_damp_9 : decode cL_damp 9 = .ok (.goto 6, 3) := by decide +kernel
theorem dL_damp_12 : decode cL_damp 12 = .ok (.astore_n 3, 1) := by decide +kernel
theorem dL_damp_13 : decode cL_damp 13 = .ok (.iconst 1, 1) := by decide +kernel
theorem dL_damp_14 : decode cL_damp 14 = .ok (.ireturn, 1) := by decide +kernel
theorem dL_damp_15 : decode cL_damp 15 = .ok (.iconst 0, 1) := by decide +kernel
theorem dL_damp_16 : decode cL_damp 16 = .ok (.ireturn, 1) := by decide +kernel
theorem dL_slant_0 : decode cL_slant 0 = .ok (.aload 5, 2) := by decide +kernel
theorem dL_slant_2 : decode cL_slant 2 = .ok (.iconst 0, 1) := by decide +kernel
theorem dL_slant_3 : decode cL_slant 3 = .ok (.aload_n 0, 1) := by decide +kernel
theorem dL_slant_4 : decode cL_slant 4 = .ok (.iload_n 1, 1) := by decide +kernel
theorem dL_slant_5 : decode cL_slant 5 = .ok (.iload_n 2, 1) := by decide +kernel
theorem dL_slant_6 : decode cL_slant 6 = .ok (.iload_n 3, 1) := by decide +kernel
theorem dL_slant_7 : decode cL_slant 7 = .ok (.iload 4, 2) := by decide +kernel
theorem dL_slant_9 : decode cL_slant 9 = .ok (.invokevirtual 57, 3) := by decide +kernel
theorem dL_slant_12 : decode cL_slant 12 = .ok (.i2l, 1) := by decide +kernel
theorem dL_slant_13 : decode cL_slant 13 = .ok (.lastore, 1) := by decide +kernel
theorem dL_slant_14 : decode cL_slant 14 = .ok (.goto 15, 3) := by decide +kernel
theorem dL_slant_17 : decode cL_slant 17 = .ok (.astore 6, 2) := by decide +kernel
theorem dL_slant_19 : decode cL_slant 19 = .ok (.iconst 1, 1) := by decide +kernel
theorem dL_slant_20 : decode cL_slant 20 = .ok (.ireturn, 1) := by decide +kernel
theorem dL_slant_21 : decode cL_slant 21 = .ok (.astore 6, 2) := by decide +kernel
theorem dL_slant_23 : decode cL_slant 23 = .ok (.iconst 2, 1) := by decide +kernel
theorem dL_slant_24 : decode cL_slant 24 = .ok (.ireturn, 1) := by decide +kernel
theorem dL_slant_25 : decode cL_slant 25 = .ok (.astore 6, 2) := by decide +kernel
theorem dL_slant_27 : decode cL_slant 27 = .ok (.iconst 3, 1) := by decide +kernel
theorem dL_slant_28 : decode cL_slant 28 = .ok (.ireturn, 1) := by decide +kernel
theorem dL_slant_29 : decode cL_slant 29 = .ok (.iconst 0, 1) := by decide +kernel
theorem dL_slant_30 : decode cL_slant 30 = .ok (.ireturn, 1) := by decide +kernel
theorem dL_rest_0 : decode cL_rest 0 = .ok (.aload 4, 2) := by decide +kernel
theorem dL_rest_2 : decode cL_rest 2 = .ok (.iconst 0, 1) := by decide +kernel
theorem dL_rest_3 : decode cL_rest 3 = .ok (.aload_n 0, 1) := by decide +kernel
theorem dL_rest_4 : decode cL_rest 4 = .ok (.iload_n 1, 1) := by decide +kernel
theorem dL_rest_5 : decode cL_rest 5 = .ok (.iload_n 2, 1) := by decide +kernel
theorem dL_rest_6 : decode cL_rest 6 = .ok (.iload_n 3, 1) := by decide +kernel
theorem dL_rest_7 : decode cL_rest 7 = .ok (.invokevirtual 61, 3) := by decide +kernel
theorem dL_rest_10 : decode cL_rest 10 = .ok (.i2l, 1) := by decide +kernel
theorem dL_rest_11 : decode cL_rest 11 = .ok (.lastore, 1) := by decide +kernel
theorem dL_rest_12 : decode cL_rest 12 = .ok (.goto 15, 3) := by decide +kernel
theorem dL_rest_15 : decode cL_rest 15 = .ok (.astore 5, 2) := by decide +kernel
theorem dL_rest_17 : decode cL_rest 17 = .ok (.iconst 1, 1) := by decide +kernel
theorem dL_rest_18 : decode cL_rest 18 = .ok (.ireturn, 1) := by decide +kernel
theorem dL_rest_19 : decode cL_rest 19 = .ok (.astore 5, 2) := by decide +kernel
theorem dL_rest_21 : decode cL_rest 21 = .ok (.iconst 2, 1) := by decide +kernel
theorem dL_rest_22 : decode cL_rest 22 = .ok (.ireturn, 1) := by decide +kernel
theorem dL_rest_23 : decode cL_rest 23 = .ok (.astore 5, 2) := by decide +kernel
theorem dL_rest_25 : decode cL_rest 25 = .ok (.iconst 3, 1) := by decide +kernel
theorem dL_rest_26 : decode cL_rest 26 = .ok (.ireturn, 1) := by decide +kernel
theorem dL_rest_27 : decode cL_rest 27 = .ok (.iconst 0, 1) := by decide +kernel
theorem dL_rest_28 : decode cL_rest 28 = .ok (.ireturn, 1) := by decide +kernel
theorem dL_why_0 : decode cL_why 0 = .ok (.aload_n 3, 1) := by decide +kernel
theorem dL_why_1 : decode cL_why 1 = .ok (.iconst 0, 1) := by decide +kernel
theorem dL_why_2 : decode cL_why 2 = .ok (.aload_n 0, 1) := by decide +kernel
theorem dL_why_3 : decode cL_why 3 = .ok (.iload_n 1, 1) := by decide +kernel
theorem dL_why_4 : decode cL_why 4 = .ok (.iload_n 2, 1) := by decide +kernel
theorem dL_why_5 : decode cL_why 5 = .ok (.invokevirtual 64, 3) := by decide +kernel
theorem dL_why_8 : decode cL_why 8 = .ok (.i2l, 1) := by decide +kernel
theorem dL_why_9 : decode cL_why 9 = .ok (.lastore, 1) := by decide +kernel
theorem dL_why_10 : decode cL_why 10 = .ok (.goto 15, 3) := by decide +kernel
theorem dL_why_13 : decode cL_why 13 = .ok (.astore 4, 2) := by decide +kernel
theorem dL_why_15 : decode cL_why 15 = .ok (.iconst 1, 1) := by decide +kernel
theorem dL_why_16 : decode cL_why 16 = .ok (.ireturn, 1) := by decide +kernel
theorem dL_why_17 : decode cL_why 17 = .ok (.astore 4, 2) := by decide +kernel
theorem dL_why_19 : decode cL_why 19 = .ok (.iconst 2, 1) := by decide +kernel
theorem dL_why_20 : decode cL_why 20 = .ok (.ireturn, 1) := by decide +kernel
theorem dL_why_21 : decode cL_why 21 = .ok (.astore 4, 2) := by decide +kernel
theorem dL_why_23 : decode cL_why 23 = .ok (.iconst 3, 1) := by decide +kernel
theorem dL_why_24 : decode cL_why 24 = .ok (.ireturn, 1) := by decide +kernel
theorem dL_why_25 : decode cL_why 25 = .ok (.iconst 0, 1) := by decide +kernel
theorem dL_why_26 : decode cL_why 26 = .ok (.ireturn, 1) := by decide +kernel
theorem dL_toss_0 : decode cL_toss 0 = .ok (.aload 5, 2) := by decide +kernel
theorem dL_toss_2 : decode cL_toss 2 = .ok (.iconst 0, 1) := by decide +kernel
theorem dL_toss_3 : decode cL_toss 3 = .ok (.aload_n 0, 1) := by decide +kernel
theorem dL_toss_4 : decode cL_toss 4 = .ok (.iload_n 1, 1) := by decide +kernel
theorem dL_toss_5 : decode cL_toss 5 = .ok (.iload_n 2, 1) := by decide +kernel
theorem dL_toss_6 : decode cL_toss 6 = .ok (.iload_n 3, 1) := by decide +kernel
theorem dL_toss_7 : decode cL_toss 7 = .ok (.iload 4, 2) := by decide +kernel
theorem dL_toss_9 : decode cL_toss 9 = .ok (.invokevirtual 67, 3) := by decide +kernel
theorem dL_toss_12 : decode cL_toss 12 = .ok (.i2l, 1) := by decide +kernel
theorem dL_toss_13 : decode cL_toss 13 = .ok (.lastore, 1) := by decide +kernel
theorem dL_toss_14 : decode cL_toss 14 = .ok (.goto 11, 3) := by decide +kernel
theorem dL_toss_17 : decode cL_toss 17 = .ok (.astore 6, 2) := by decide +kernel
theorem dL_toss_19 : decode cL_toss 19 = .ok (.iconst 1, 1) := by decide +kernel
theorem dL_toss_20 : decode cL_toss 20 = .ok (.ireturn, 1) := by decide +kernel
theorem dL_toss_21 : decode cL_toss 21 = .ok (.astore 6, 2) := by decide +kernel
theorem dL_toss_23 : decode cL_toss 23 = .ok (.iconst 2, 1) := by decide +kernel
theorem dL_toss_24 : decode cL_toss 24 = .ok (.ireturn, 1) := by decide +kernel
theorem dL_toss_25 : decode cL_toss 25 = .ok (.iconst 0, 1) := by decide +kernel
theorem dL_toss_26 : decode cL_toss 26 = .ok (.ireturn, 1) := by decide +kernel
theorem dL_reach_0 : decode cL_reach 0 = .ok (.aload 5, 2) := by decide +kernel
theorem dL_reach_2 : decode cL_reach 2 = .ok (.iconst 0, 1) := by decide +kernel
theorem dL_reach_3 : decode cL_reach 3 = .ok (.aload_n 0, 1) := by decide +kernel
theorem dL_reach_4 : decode cL_reach 4 = .ok (.iload_n 1, 1) := by decide +kernel
theorem dL_reach_5 : decode cL_reach 5 = .ok (.iload_n 2, 1) := by decide +kernel
theorem dL_reach_6 : decode cL_reach 6 = .ok (.iload_n 3, 1) := by decide +kernel
theorem dL_reach_7 : decode cL_reach 7 = .ok (.iload 4, 2) := by decide +kernel
theorem dL_reach_9 : decode cL_reach 9 = .ok (.invokevirtual 71, 3) := by decide +kernel
theorem dL_reach_12 : decode cL_reach 12 = .ok (.lastore, 1) := by decide +kernel
theorem dL_reach_13 : decode cL_reach 13 = .ok (.goto 15, 3) := by decide +kernel
theorem dL_reach_16 : decode cL_reach 16 = .ok (.astore 6, 2) := by decide +kernel
theorem dL_reach_18 : decode cL_reach 18 = .ok (.iconst 1, 1) := by decide +kernel
theorem dL_reach_19 : decode cL_reach 19 = .ok (.ireturn, 1) := by decide +kernel
theorem dL_reach_20 : decode cL_reach 20 = .ok (.astore 6, 2) := by decide +kernel
theorem dL_reach_22 : decode cL_reach 22 = .ok (.iconst 2, 1) := by decide +kernel
theorem dL_reach_23 : decode cL_reach 23 = .ok (.ireturn, 1) := by decide +kernel
theorem dL_reach_24 : decode cL_reach 24 = .ok (.astore 6, 2) := by decide +kernel
theorem dL_reach_26 : decode cL_reach 26 = .ok (.iconst 3, 1) := by decide +kernel
theorem dL_reach_27 : decode cL_reach 27 = .ok (.ireturn, 1) := by decide +kernel
theorem dL_reach_28 : decode cL_reach 28 = .ok (.iconst 0, 1) := by decide +kernel
theorem dL_reach_29 : decode cL_reach 29 = .ok (.ireturn, 1) := by decide +kernel
theorem dL_ears_0 : decode cL_ears 0 = .ok (.aload 4, 2) := by decide +kernel
theorem dL_ears_2 : decode cL_ears 2 = .ok (.iconst 0, 1) := by decide +kernel
theorem dL_ears_3 : decode cL_ears 3 = .ok (.aload_n 0, 1) := by decide +kernel
theorem dL_ears_4 : decode cL_ears 4 = .ok (.iload_n 1, 1) := by decide +kernel
theorem dL_ears_5 : decode cL_ears 5 = .ok (.iload_n 2, 1) := by decide +kernel
theorem dL_ears_6 : decode cL_ears 6 = .ok (.iload_n 3, 1) := by decide +kernel
theorem dL_ears_7 : decode cL_ears 7 = .ok (.invokevirtual 75, 3) := by decide +kernel
theorem dL_ears_10 : decode cL_ears 10 = .ok (.i2l, 1) := by decide +kernel
theorem dL_ears_11 : decode cL_ears 11 = .ok (.lastore, 1) := by decide +kernel
theorem dL_ears_12 : decode cL_ears 12 = .ok (.goto 11, 3) := by decide +kernel
theorem dL_ears_15 : decode cL_ears 15 = .ok (.astore 5, 2) := by decide +kernel
theorem dL_ears_17 : decode cL_ears 17 = .ok (.iconst 1, 1) := by decide +kernel
theorem dL_ears_18 : decode cL_ears 18 = .ok (.ireturn, 1) := by decide +kernel
theorem dL_ears_19 : decode cL_ears 19 = .ok (.astore 5, 2) := by decide +kernel
theorem dL_ears_21 : decode cL_ears 21 = .ok (.iconst 2, 1) := by decide +kernel
theorem dL_ears_22 : decode cL_ears 22 = .ok (.ireturn, 1) := by decide +kernel
theorem dL_ears_23 : decode cL_ears 23 = .ok (.iconst 0, 1) := by decide +kernel
theorem dL_ears_24 : decode cL_ears 24 = .ok (.ireturn, 1) := by decide +kernel
theorem dL_best_0 : decode cL_best 0 = .ok (.aload_n 3, 1) := by decide +kernel
theorem dL_best_1 : decode cL_best 1 = .ok (.iconst 0, 1) := by decide +kernel
theorem dL_best_2 : decode cL_best 2 = .ok (.aload_n 0, 1) := by decide +kernel
theorem dL_best_3 : decode cL_best 3 = .ok (.iload_n 1, 1) := by decide +kernel
theorem dL_best_4 : decode cL_best 4 = .ok (.iload_n 2, 1) := by decide +kernel
theorem dL_best_5 : decode cL_best 5 = .ok (.invokevirtual 79, 3) := by decide +kernel
theorem dL_best_8 : decode cL_best 8 = .ok (.i2l, 1) := by decide +kernel
theorem dL_best_9 : decode cL_best 9 = .ok (.lastore, 1) := by decide +kernel
theorem dL_best_10 : decode cL_best 10 = .ok (.goto 7, 3) := by decide +kernel
theorem dL_best_13 : decode cL_best 13 = .ok (.astore 4, 2) := by decide +kernel
theorem dL_best_15 : decode cL_best 15 = .ok (.iconst 1, 1) := by decide +kernel
theorem dL_best_16 : decode cL_best 16 = .ok (.ireturn, 1) := by decide +kernel
theorem dL_best_17 : decode cL_best 17 = .ok (.iconst 0, 1) := by decide +kernel
theorem dL_best_18 : decode cL_best 18 = .ok (.ireturn, 1) := by decide +kernel
theorem dL_change_0 : decode cL_change 0 = .ok (.aload 6, 2) := by decide +kernel
theorem dL_change_2 : decode cL_change 2 = .ok (.iconst 0, 1) := by decide +kernel
theorem dL_change_3 : decode cL_change 3 = .ok (.aload_n 0, 1) := by decide +kernel
theorem dL_change_4 : decode cL_change 4 = .ok (.iload_n 1, 1) := by decide +kernel
theorem dL_change_5 : decode cL_change 5 = .ok (.iload_n 2, 1) := by decide +kernel
theorem dL_change_6 : decode cL_change 6 = .ok (.iload_n 3, 1) := by decide +kernel
theorem dL_change_7 : decode cL_change 7 = .ok (.iload 4, 2) := by decide +kernel
theorem dL_change_9 : decode cL_change 9 = .ok (.iload 5, 2) := by decide +kernel
theorem dL_change_11 : decode cL_change 11 = .ok (.invokevirtual 83, 3) := by decide +kernel
theorem dL_change_14 : decode cL_change 14 = .ok (.lastore, 1) := by decide +kernel
theorem dL_change_15 : decode cL_change 15 = .ok (.goto 15, 3) := by decide +kernel
theorem dL_change_18 : decode cL_change 18 = .ok (.astore 7, 2) := by decide +kernel
theorem dL_change_20 : decode cL_change 20 = .ok (.iconst 1, 1) := by decide +kernel
theorem dL_change_21 : decode cL_change 21 = .ok (.ireturn, 1) := by decide +kernel
theorem dL_change_22 : decode cL_change 22 = .ok (.astore 7, 2) := by decide +kernel
theorem dL_change_24 : decode cL_change 24 = .ok (.iconst 2, 1) := by decide +kernel
theorem dL_change_25 : decode cL_change 25 = .ok (.ireturn, 1) := by decide +kernel
theorem dL_change_26 : decode cL_change 26 = .ok (.astore 7, 2) := by decide +kernel
theorem dL_change_28 : decode cL_change 28 = .ok (.iconst 3, 1) := by decide +kernel
theorem dL_change_29 : decode cL_change 29 = .ok (.ireturn, 1) := by decide +kernel
theorem dL_change_30 : decode cL_change 30 = .ok (.iconst 0, 1) := by decide +kernel
theorem dL_change_31 : decode cL_change 31 = .ok (.ireturn, 1) := by decide +kernel
theorem dL_mend_0 : decode cL_mend 0 = .ok (.aload 5, 2) := by decide +kernel
theorem dL_mend_2 : decode cL_mend 2 = .ok (.iconst 0, 1) := by decide +kernel
theorem dL_mend_3 : decode cL_mend 3 = .ok (.aload_n 0, 1) := by decide +kernel
theorem dL_mend_4 : decode cL_mend 4 = .ok (.iload_n 1, 1) := by decide +kernel
theorem dL_mend_5 : decode cL_mend 5 = .ok (.iload_n 2, 1) := by decide +kernel
theorem dL_mend_6 : decode cL_mend 6 = .ok (.iload_n 3, 1) := by decide +kernel
theorem dL_mend_7 : decode cL_mend 7 = .ok (.iload 4, 2) := by decide +kernel
theorem dL_mend_9 : decode cL_mend 9 = .ok (.invokevirtual 87, 3) := by decide +kernel
theorem dL_mend_12 : decode cL_mend 12 = .ok (.i2l, 1) := by decide +kernel
theorem dL_mend_13 : decode cL_mend 13 = .ok (.lastore, 1) := by decide +kernel
theorem dL_mend_14 : decode cL_mend 14 = .ok (.goto 15, 3) := by decide +kernel
theorem dL_mend_17 : decode cL_mend 17 = .ok (.astore 6, 2) := by decide +kernel
theorem dL_mend_19 : decode cL_mend 19 = .ok (.iconst 1, 1) := by decide +kernel
theorem dL_mend_20 : decode cL_mend 20 = .ok (.ireturn, 1) := by decide +kernel
theorem dL_mend_21 : decode cL_mend 21 = .ok (.astore 6, 2) := by decide +kernel
theorem dL_mend_23 : decode cL_mend 23 = .ok (.iconst 2, 1) := by decide +kernel
theorem dL_mend_24 : decode cL_mend 24 = .ok (.ireturn, 1) := by decide +kernel
theorem dL_mend_25 : decode cL_mend 25 = .ok (.astore 6, 2) := by decide +kernel
theorem dL_mend_27 : decode cL_mend 27 = .ok (.iconst 3, 1) := by decide +kernel
theorem dL_mend_28 : decode cL_mend 28 = .ok (.ireturn, 1) := by decide +kernel
theorem dL_mend_29 : decode cL_mend 29 = .ok (.iconst 0, 1) := by decide +kernel
theorem dL_mend_30 : decode cL_mend 30 = .ok (.ireturn, 1) := by decide +kernel
theorem dL_hoop_0 : decode cL_hoop 0 = .ok (.aload 8, 2) := by decide +kernel
theorem dL_hoop_2 : decode cL_hoop 2 = .ok (.iconst 0, 1) := by decide +kernel
theorem dL_hoop_3 : decode cL_hoop 3 = .ok (.aload_n 0, 1) := by decide +kernel
theorem dL_hoop_4 : decode cL_hoop 4 = .ok (.iload_n 1, 1) := by decide +kernel
theorem dL_hoop_5 : decode cL_hoop 5 = .ok (.iload_n 2, 1) := by decide +kernel
theorem dL_hoop_6 : decode cL_hoop 6 = .ok (.iload_n 3, 1) := by decide +kernel
theorem dL_hoop_7 : decode cL_hoop 7 = .ok (.iload 4, 2) := by decide +kernel
theorem dL_hoop_9 : decode cL_hoop 9 = .ok (.iload 5, 2) := by decide +kernel
theorem dL_hoop_11 : decode cL_hoop 11 = .ok (.iload 6, 2) := by decide +kernel
theorem dL_hoop_13 : decode cL_hoop 13 = .ok (.iload 7, 2) := by decide +kernel
theorem dL_hoop_15 : decode cL_hoop 15 = .ok (.invokevirtual 90, 3) := by decide +kernel
theorem dL_hoop_18 : decode cL_hoop 18 = .ok (.ifCond .eq 7, 3) := by decide +kernel
theorem dL_hoop_21 : decode cL_hoop 21 = .ok (.lconst 1, 1) := by decide +kernel
theorem dL_hoop_22 : decode cL_hoop 22 = .ok (.goto 4, 3) := by decide +kernel
theorem dL_hoop_25 : decode cL_hoop 25 = .ok (.lconst 0, 1) := by decide +kernel
theorem dL_hoop_26 : decode cL_hoop 26 = .ok (.lastore, 1) := by decide +kernel
theorem dL_hoop_27 : decode cL_hoop 27 = .ok (.goto 15, 3) := by decide +kernel
theorem dL_hoop_30 : decode cL_hoop 30 = .ok (.astore 9, 2) := by decide +kernel
theorem dL_hoop_32 : decode cL_hoop 32 = .ok (.iconst 1, 1) := by decide +kernel
theorem dL_hoop_33 : decode cL_hoop 33 = .ok (.ireturn, 1) := by decide +kernel
theorem dL_hoop_34 : decode cL_hoop 34 = .ok (.astore 9, 2) := by decide +kernel
theorem dL_hoop_36 : decode cL_hoop 36 = .ok (.iconst 2, 1) := by decide +kernel
theorem dL_hoop_37 : decode cL_hoop 37 = .ok (.ireturn, 1) := by decide +kernel
theorem dL_hoop_38 : decode cL_hoop 38 = .ok (.astore 9, 2) := by decide +kernel
theorem dL_hoop_40 : decode cL_hoop 40 = .ok (.iconst 3, 1) := by decide +kernel
theorem dL_hoop_41 : decode cL_hoop 41 = .ok (.ireturn, 1) := by decide +kernel
theorem dL_hoop_42 : decode cL_hoop 42 = .ok (.iconst 0, 1) := by decide +kernel
theorem dL_hoop_43 : decode cL_hoop 43 = .ok (.ireturn, 1) := by decide +kernel
theorem dL_odds_0 : decode cL_odds 0 = .ok (.aload 8, 2) := by decide +kernel
theorem dL_odds_2 : decode cL_odds 2 = .ok (.iconst 0, 1) := by decide +kernel
theorem dL_odds_3 : decode cL_odds 3 = .ok (.aload_n 0, 1) := by decide +kernel
theorem dL_odds_4 : decode cL_odds 4 = .ok (.iload_n 1, 1) := by decide +kernel
theorem dL_odds_5 : decode cL_odds 5 = .ok (.iload_n 2, 1) := by decide +kernel
theorem dL_odds_6 : decode cL_odds 6 = .ok (.iload_n 3, 1) := by decide +kernel
theorem dL_odds_7 : decode cL_odds 7 = .ok (.iload 4, 2) := by decide +kernel
theorem dL_odds_9 : decode cL_odds 9 = .ok (.iload 5, 2) := by decide +kernel
theorem dL_odds_11 : decode cL_odds 11 = .ok (.iload 6, 2) := by decide +kernel
theorem dL_odds_13 : decode cL_odds 13 = .ok (.iload 7, 2) := by decide +kernel
theorem dL_odds_15 : decode cL_odds 15 = .ok (.invokevirtual 94, 3) := by decide +kernel
theorem dL_odds_18 : decode cL_odds 18 = .ok (.lastore, 1) := by decide +kernel
theorem dL_odds_19 : decode cL_odds 19 = .ok (.goto 15, 3) := by decide +kernel
theorem dL_odds_22 : decode cL_odds 22 = .ok (.astore 9, 2) := by decide +kernel
theorem dL_odds_24 : decode cL_odds 24 = .ok (.iconst 1, 1) := by decide +kernel
theorem dL_odds_25 : decode cL_odds 25 = .ok (.ireturn, 1) := by decide +kernel
theorem dL_odds_26 : decode cL_odds 26 = .ok (.astore 9, 2) := by decide +kernel
theorem dL_odds_28 : decode cL_odds 28 = .ok (.iconst 2, 1) := by decide +kernel
theorem dL_odds_29 : decode cL_odds 29 = .ok (.ireturn, 1) := by decide +kernel
theorem dL_odds_30 : decode cL_odds 30 = .ok (.astore 9, 2) := by decide +kernel
theorem dL_odds_32 : decode cL_odds 32 = .ok (.iconst 3, 1) := by decide +kernel
theorem dL_odds_33 : decode cL_odds 33 = .ok (.ireturn, 1) := by decide +kernel
theorem dL_odds_34 : decode cL_odds 34 = .ok (.iconst 0, 1) := by decide +kernel
theorem dL_odds_35 : decode cL_odds 35 = .ok (.ireturn, 1) := by decide +kernel
theorem dL_enter_0 : decode cL_enter 0 = .ok (.aload 4, 2) := by decide +kernel
theorem dL_enter_2 : decode cL_enter 2 = .ok (.iconst 0, 1) := by decide +kernel
theorem dL_enter_3 : decode cL_enter 3 = .ok (.aload_n 0, 1) := by decide +kernel
theorem dL_enter_4 : decode cL_enter 4 = .ok (.iload_n 1, 1) := by decide +kernel
theorem dL_enter_5 : decode cL_enter 5 = .ok (.iload_n 2, 1) := by decide +kernel
theorem dL_enter_6 : decode cL_enter 6 = .ok (.iload_n 3, 1) := by decide +kernel
theorem dL_enter_7 : decode cL_enter 7 = .ok (.invokevirtual 98, 3) := by decide +kernel
theorem dL_enter_10 : decode cL_enter 10 = .ok (.i2l, 1) := by decide +kernel
theorem dL_enter_11 : decode cL_enter 11 = .ok (.lastore, 1) := by decide +kernel
theorem dL_enter_12 : decode cL_enter 12 = .ok (.goto 11, 3) := by decide +kernel
theorem dL_enter_15 : decode cL_enter 15 = .ok (.astore 5, 2) := by decide +kernel
theorem dL_enter_17 : decode cL_enter 17 = .ok (.iconst 1, 1) := by decide +kernel
theorem dL_enter_18 : decode cL_enter 18 = .ok (.ireturn, 1) := by decide +kernel
theorem dL_enter_19 : decode cL_enter 19 = .ok (.astore 5, 2) := by decide +kernel
theorem dL_enter_21 : decode cL_enter 21 = .ok (.iconst 2, 1) := by decide +kernel
theorem dL_enter_22 : decode cL_enter 22 = .ok (.ireturn, 1) := by decide +kernel
theorem dL_enter_23 : decode cL_enter 23 = .ok (.iconst 0, 1) := by decide +kernel
theorem dL_enter_24 : decode cL_enter 24 = .ok (.ireturn, 1) := by decide +kernel
theorem dL_wins_0 : decode cL_wins 0 = .ok (.aload_n 2, 1) := by decide +kernel
theorem dL_wins_1 : decode cL_wins 1 = .ok (.iconst 0, 1) := by decide +kernel
theorem dL_wins_2 : decode cL_wins 2 = .ok (.aload_n 0, 1) := by decide +kernel
theorem dL_wins_3 : decode cL_wins 3 = .ok (.iload_n 1, 1) := by decide +kernel
theorem dL_wins_4 : decode cL_wins 4 = .ok (.invokevirtual 101, 3) := by decide +kernel
theorem dL_wins_7 : decode cL_wins 7 = .ok (.lastore, 1) := by decide +kernel
theorem dL_wins_8 : decode cL_wins 8 = .ok (.goto 6, 3) := by decide +kernel
theorem dL_wins_11 : decode cL_wins 11 = .ok (.astore_n 3, 1) := by decide +kernel
theorem dL_wins_12 : decode cL_wins 12 = .ok (.iconst 1, 1) := by decide +kernel
theorem dL_wins_13 : decode cL_wins 13 = .ok (.ireturn, 1) := by decide +kernel
theorem dL_wins_14 : decode cL_wins 14 = .ok (.iconst 0, 1) := by decide +kernel
theorem dL_wins_15 : decode cL_wins 15 = .ok (.ireturn, 1) := by decide +kernel
theorem dL_hours_0 : decode cL_hours 0 = .ok (.aload 7, 2) := by decide +kernel
theorem dL_hours_2 : decode cL_hours 2 = .ok (.iconst 0, 1) := by decide +kernel
theorem dL_hours_3 : decode cL_hours 3 = .ok (.aload_n 0, 1) := by decide +kernel
theorem dL_hours_4 : decode cL_hours 4 = .ok (.iload_n 1, 1) := by decide +kernel
theorem dL_hours_5 : decode cL_hours 5 = .ok (.iload_n 2, 1) := by decide +kernel
theorem dL_hours_6 : decode cL_hours 6 = .ok (.iload_n 3, 1) := by decide +kernel
theorem dL_hours_7 : decode cL_hours 7 = .ok (.iload 4, 2) := by decide +kernel
theorem dL_hours_9 : decode cL_hours 9 = .ok (.lload 5, 2) := by decide +kernel
theorem dL_hours_11 : decode cL_hours 11 = .ok (.invokevirtual 105, 3) := by decide +kernel
theorem dL_hours_14 : decode cL_hours 14 = .ok (.i2l, 1) := by decide +kernel
theorem dL_hours_15 : decode cL_hours 15 = .ok (.lastore, 1) := by decide +kernel
theorem dL_hours_16 : decode cL_hours 16 = .ok (.goto 15, 3) := by decide +kernel
theorem dL_hours_19 : decode cL_hours 19 = .ok (.astore 8, 2) := by decide +kernel
theorem dL_hours_21 : decode cL_hours 21 = .ok (.iconst 1, 1) := by decide +kernel
theorem dL_hours_22 : decode cL_hours 22 = .ok (.ireturn, 1) := by decide +kernel
theorem dL_hours_23 : decode cL_hours 23 = .ok (.astore 8, 2) := by decide +kernel
theorem dL_hours_25 : decode cL_hours 25 = .ok (.iconst 2, 1) := by decide +kernel
theorem dL_hours_26 : decode cL_hours 26 = .ok (.ireturn, 1) := by decide +kernel
theorem dL_hours_27 : decode cL_hours 27 = .ok (.astore 8, 2) := by decide +kernel
theorem dL_hours_29 : decode cL_hours 29 = .ok (.iconst 3, 1) := by decide +kernel
theorem dL_hours_30 : decode cL_hours 30 = .ok (.ireturn, 1) := by decide +kernel
theorem dL_hours_31 : decode cL_hours 31 = .ok (.iconst 0, 1) := by decide +kernel
theorem dL_hours_32 : decode cL_hours 32 = .ok (.ireturn, 1) := by decide +kernel
theorem dL_seen_0 : decode cL_seen 0 = .ok (.aload 6, 2) := by decide +kernel
theorem dL_seen_2 : decode cL_seen 2 = .ok (.iconst 0, 1) := by decide +kernel
theorem dL_seen_3 : decode cL_seen 3 = .ok (.aload_n 0, 1) := by decide +kernel
theorem dL_seen_4 : decode cL_seen 4 = .ok (.iload_n 1, 1) := by decide +kernel
theorem dL_seen_5 : decode cL_seen 5 = .ok (.iload_n 2, 1) := by decide +kernel
theorem dL_seen_6 : decode cL_seen 6 = .ok (.iload_n 3, 1) := by decide +kernel
theorem dL_seen_7 : decode cL_seen 7 = .ok (.iload 4, 2) := by decide +kernel
theorem dL_seen_9 : decode cL_seen 9 = .ok (.iload 5, 2) := by decide +kernel
theorem dL_seen_11 : decode cL_seen 11 = .ok (.invokevirtual 109, 3) := by decide +kernel
theorem dL_seen_14 : decode cL_seen 14 = .ok (.i2l, 1) := by decide +kernel
theorem dL_seen_15 : decode cL_seen 15 = .ok (.lastore, 1) := by decide +kernel
theorem dL_seen_16 : decode cL_seen 16 = .ok (.goto 15, 3) := by decide +kernel
theorem dL_seen_19 : decode cL_seen 19 = .ok (.astore 7, 2) := by decide +kernel
theorem dL_seen_21 : decode cL_seen 21 = .ok (.iconst 1, 1) := by decide +kernel
theorem dL_seen_22 : decode cL_seen 22 = .ok (.ireturn, 1) := by decide +kernel
theorem dL_seen_23 : decode cL_seen 23 = .ok (.astore 7, 2) := by decide +kernel
theorem dL_seen_25 : decode cL_seen 25 = .ok (.iconst 2, 1) := by decide +kernel
theorem dL_seen_26 : decode cL_seen 26 = .ok (.ireturn, 1) := by decide +kernel
theorem dL_seen_27 : decode cL_seen 27 = .ok (.astore 7, 2) := by decide +kernel
theorem dL_seen_29 : decode cL_seen 29 = .ok (.iconst 3, 1) := by decide +kernel
theorem dL_seen_30 : decode cL_seen 30 = .ok (.ireturn, 1) := by decide +kernel
theorem dL_seen_31 : decode cL_seen 31 = .ok (.iconst 0, 1) := by decide +kernel
theorem dL_seen_32 : decode cL_seen 32 = .ok (.ireturn, 1) := by decide +kernel
theorem dL_tray_0 : decode cL_tray 0 = .ok (.aload_n 0, 1) := by decide +kernel
theorem dL_tray_1 : decode cL_tray 1 = .ok (.iload_n 1, 1) := by decide +kernel
theorem dL_tray_2 : decode cL_tray 2 = .ok (.iload_n 2, 1) := by decide +kernel
theorem dL_tray_3 : decode cL_tray 3 = .ok (.iload_n 3, 1) := by decide +kernel
theorem dL_tray_4 : decode cL_tray 4 = .ok (.invokevirtual 112, 3) := by decide +kernel
theorem dL_tray_7 : decode cL_tray 7 = .ok (.goto 11, 3) := by decide +kernel
theorem dL_tray_10 : decode cL_tray 10 = .ok (.astore 4, 2) := by decide +kernel
theorem dL_tray_12 : decode cL_tray 12 = .ok (.iconst 1, 1) := by decide +kernel
theorem dL_tray_13 : decode cL_tray 13 = .ok (.ireturn, 1) := by decide +kernel
theorem dL_tray_14 : decode cL_tray 14 = .ok (.astore 4, 2) := by decide +kernel
theorem dL_tray_16 : decode cL_tray 16 = .ok (.iconst 2, 1) := by decide +kernel
theorem dL_tray_17 : decode cL_tray 17 = .ok (.ireturn, 1) := by decide +kernel
theorem dL_tray_18 : decode cL_tray 18 = .ok (.iconst 0, 1) := by decide +kernel
theorem dL_tray_19 : decode cL_tray 19 = .ok (.ireturn, 1) := by decide +kernel
theorem dL_write_0 : decode cL_write 0 = .ok (.aload 5, 2) := by decide +kernel
theorem dL_write_2 : decode cL_write 2 = .ok (.iconst 0, 1) := by decide +kernel
theorem dL_write_3 : decode cL_write 3 = .ok (.aload_n 0, 1) := by decide +kernel
theorem dL_write_4 : decode cL_write 4 = .ok (.iload_n 1, 1) := by decide +kernel
theorem dL_write_5 : decode cL_write 5 = .ok (.iload_n 2, 1) := by decide +kernel
theorem dL_write_6 : decode cL_write 6 = .ok (.lload_n 3, 1) := by decide +kernel
theorem dL_write_7 : decode cL_write 7 = .ok (.invokevirtual 116, 3) := by decide +kernel
theorem dL_write_10 : decode cL_write 10 = .ok (.lastore, 1) := by decide +kernel
theorem dL_write_11 : decode cL_write 11 = .ok (.goto 15, 3) := by decide +kernel
theorem dL_write_14 : decode cL_write 14 = .ok (.astore 6, 2) := by decide +kernel
theorem dL_write_16 : decode cL_write 16 = .ok (.iconst 1, 1) := by decide +kernel
theorem dL_write_17 : decode cL_write 17 = .ok (.ireturn, 1) := by decide +kernel
theorem dL_write_18 : decode cL_write 18 = .ok (.astore 6, 2) := by decide +kernel
theorem dL_write_20 : decode cL_write 20 = .ok (.iconst 2, 1) := by decide +kernel
theorem dL_write_21 : decode cL_write 21 = .ok (.ireturn, 1) := by decide +kernel
theorem dL_write_22 : decode cL_write 22 = .ok (.astore 6, 2) := by decide +kernel
theorem dL_write_24 : decode cL_write 24 = .ok (.iconst 3, 1) := by decide +kernel
theorem dL_write_25 : decode cL_write 25 = .ok (.ireturn, 1) := by decide +kernel
theorem dL_write_26 : decode cL_write 26 = .ok (.iconst 0, 1) := by decide +kernel
theorem dL_write_27 : decode cL_write 27 = .ok (.ireturn, 1) := by decide +kernel
theorem dL_take_0 : decode cL_take 0 = .ok (.aload_n 3, 1) := by decide +kernel
theorem dL_take_1 : decode cL_take 1 = .ok (.iconst 0, 1) := by decide +kernel
theorem dL_take_2 : decode cL_take 2 = .ok (.aload_n 0, 1) := by decide +kernel
theorem dL_take_3 : decode cL_take 3 = .ok (.iload_n 1, 1) := by decide +kernel
theorem dL_take_4 : decode cL_take 4 = .ok (.iload_n 2, 1) := by decide +kernel
theorem dL_take_5 : decode cL_take 5 = .ok (.invokevirtual 122, 3) := by decide +kernel
theorem dL_take_8 : decode cL_take 8 = .ok (.i2l, 1) := by decide +kernel
theorem dL_take_9 : decode cL_take 9 = .ok (.lastore, 1) := by decide +kernel
theorem dL_take_10 : decode cL_take 10 = .ok (.goto 19, 3) := by decide +kernel
theorem dL_take_13 : decode cL_take 13 = .ok (.astore 4, 2) := by decide +kernel
theorem dL_take_15 : decode cL_take 15 = .ok (.iconst 1, 1) := by decide +kernel
theorem dL_take_16 : decode cL_take 16 = .ok (.ireturn, 1) := by decide +kernel
theorem dL_take_17 : decode cL_take 17 = .ok (.astore 4, 2) := by decide +kernel
theorem dL_take_19 : decode cL_take 19 = .ok (.iconst 2, 1) := by decide +kernel
theorem dL_take_20 : decode cL_take 20 = .ok (.ireturn, 1) := by decide +kernel
theorem dL_take_21 : decode cL_take 21 = .ok (.astore 4, 2) := by decide +kernel
theorem dL_take_23 : decode cL_take 23 = .ok (.iconst 3, 1) := by decide +kernel
theorem dL_take_24 : decode cL_take 24 = .ok (.ireturn, 1) := by decide +kernel
theorem dL_take_25 : decode cL_take 25 = .ok (.astore 4, 2) := by decide +kernel
theorem dL_take_27 : decode cL_take 27 = .ok (.iconst 4, 1) := by decide +kernel
theorem dL_take_28 : decode cL_take 28 = .ok (.ireturn, 1) := by decide +kernel
theorem dL_take_29 : decode cL_take 29 = .ok (.iconst 0, 1) := by decide +kernel
theorem dL_take_30 : decode cL_take 30 = .ok (.ireturn, 1) := by decide +kernel
theorem dL_image_0 : decode cL_image 0 = .ok (.aload_n 0, 1) := by decide +kernel
theorem dL_image_1 : decode cL_image 1 = .ok (.iload_n 1, 1) := by decide +kernel
theorem dL_image_2 : decode cL_image 2 = .ok (.invokevirtual 125, 3) := by decide +kernel
theorem dL_image_5 : decode cL_image 5 = .ok (.goto 6, 3) := by decide +kernel
theorem dL_image_8 : decode cL_image 8 = .ok (.astore_n 2, 1) := by decide +kernel
theorem dL_image_9 : decode cL_image 9 = .ok (.iconst 1, 1) := by decide +kernel
theorem dL_image_10 : decode cL_image 10 = .ok (.ireturn, 1) := by decide +kernel
theorem dL_image_11 : decode cL_image 11 = .ok (.iconst 0, 1) := by decide +kernel
theorem dL_image_12 : decode cL_image 12 = .ok (.ireturn, 1) := by decide +kernel
theorem dL_restore_0 : decode cL_restore 0 = .ok (.aload_n 0, 1) := by decide +kernel
theorem dL_restore_1 : decode cL_restore 1 = .ok (.iload_n 1, 1) := by decide +kernel
theorem dL_restore_2 : decode cL_restore 2 = .ok (.invokevirtual 129, 3) := by decide +kernel
theorem dL_restore_5 : decode cL_restore 5 = .ok (.goto 9, 3) := by decide +kernel
theorem dL_restore_8 : decode cL_restore 8 = .ok (.astore_n 2, 1) := by decide +kernel
theorem dL_restore_9 : decode cL_restore 9 = .ok (.iconst 1, 1) := by decide +kernel
theorem dL_restore_10 : decode cL_restore 10 = .ok (.ireturn, 1) := by decide +kernel
theorem dL_restore_11 : decode cL_restore 11 = .ok (.astore_n 2, 1) := by decide +kernel
theorem dL_restore_12 : decode cL_restore 12 = .ok (.iconst 2, 1) := by decide +kernel
theorem dL_restore_13 : decode cL_restore 13 = .ok (.ireturn, 1) := by decide +kernel
theorem dL_restore_14 : decode cL_restore 14 = .ok (.iconst 0, 1) := by decide +kernel
theorem dL_restore_15 : decode cL_restore 15 = .ok (.ireturn, 1) := by decide +kernel
theorem dL_law__0 : decode cL_law_ 0 = .ok (.new 8, 3) := by decide +kernel
theorem dL_law__3 : decode cL_law_ 3 = .ok (.dup, 1) := by decide +kernel
theorem dL_law__4 : decode cL_law_ 4 = .ok (.invokespecial 132, 3) := by decide +kernel
theorem dL_law__7 : decode cL_law_ 7 = .ok (.astore_n 1, 1) := by decide +kernel
theorem dL_law__8 : decode cL_law_ 8 = .ok (.new 133, 3) := by decide +kernel
theorem dL_law__11 : decode cL_law_ 11 = .ok (.dup, 1) := by decide +kernel
theorem dL_law__12 : decode cL_law_ 12 = .ok (.invokespecial 135, 3) := by decide +kernel
theorem dL_law__15 : decode cL_law_ 15 = .ok (.astore_n 2, 1) := by decide +kernel
theorem dL_law__16 : decode cL_law_ 16 = .ok (.iconst 1, 1) := by decide +kernel
theorem dL_law__17 : decode cL_law_ 17 = .ok (.newarray .long, 2) := by decide +kernel
theorem dL_law__19 : decode cL_law_ 19 = .ok (.astore_n 3, 1) := by decide +kernel
theorem dL_law__20 : decode cL_law_ 20 = .ok (.iconst 0, 1) := by decide +kernel
theorem dL_law__21 : decode cL_law_ 21 = .ok (.istore 4, 2) := by decide +kernel
theorem dL_law__23 : decode cL_law_ 23 = .ok (.iload 4, 2) := by decide +kernel
theorem dL_law__25 : decode cL_law_ 25 = .ok (.aload_n 0, 1) := by decide +kernel
theorem dL_law__26 : decode cL_law_ 26 = .ok (.arraylength, 1) := by decide +kernel
theorem dL_law__27 : decode cL_law_ 27 = .ok (.bipush 8, 2) := by decide +kernel
theorem dL_law__29 : decode cL_law_ 29 = .ok (.isub, 1) := by decide +kernel
theorem dL_law__30 : decode cL_law_ 30 = .ok (.if_icmp .gt 3076, 3) := by decide +kernel
theorem dL_law__33 : decode cL_law_ 33 = .ok (.aload_n 0, 1) := by decide +kernel
theorem dL_law__34 : decode cL_law_ 34 = .ok (.iload 4, 2) := by decide +kernel
theorem dL_law__36 : decode cL_law_ 36 = .ok (.iaload, 1) := by decide +kernel
theorem dL_law__37 : decode cL_law_ 37 = .ok (.bipush 63, 2) := by decide +kernel
theorem dL_law__39 : decode cL_law_ 39 = .ok (.iand, 1) := by decide +kernel
theorem dL_law__40 : decode cL_law_ 40 = .ok (.tableswitch 3060 0 37 #[168, 216, 289, 345, 401, 426, 494, 550, 618, 698, 802, 920, 1000, 1068, 1081, 1137, 1245, 1325, 1393, 1406, 1498, 1605, 1701, 1785, 1904, 2012, 2151, 2282, 2362, 2417, 2571, 2675, 2724, 2784, 2895, 2963, 2999, 3035], 168) := by decide +kernel
theorem dL_law__208 : decode cL_law_ 208 = .ok (.aload_n 1, 1) := by decide +kernel
theorem dL_law__209 : decode cL_law_ 209 = .ok (.aload_n 0, 1) := by decide +kernel
theorem dL_law__210 : decode cL_law_ 210 = .ok (.iload 4, 2) := by decide +kernel
theorem dL_law__212 : decode cL_law_ 212 = .ok (.iconst 1, 1) := by decide +kernel
theorem dL_law__213 : decode cL_law_ 213 = .ok (.iadd, 1) := by decide +kernel
theorem dL_law__214 : decode cL_law_ 214 = .ok (.iaload, 1) := by decide +kernel
theorem dL_law__215 : decode cL_law_ 215 = .ok (.aload_n 0, 1) := by decide +kernel
theorem dL_law__216 : decode cL_law_ 216 = .ok (.iload 4, 2) := by decide +kernel
theorem dL_law__218 : decode cL_law_ 218 = .ok (.iconst 2, 1) := by decide +kernel
theorem dL_law__219 : decode cL_law_ 219 = .ok (.iadd, 1) := by decide +kernel
theorem dL_law__220 : decode cL_law_ 220 = .ok (.iaload, 1) := by decide +kernel
theorem dL_law__221 : decode cL_law_ 221 = .ok (.invokestatic 136, 3) := by decide +kernel
theorem dL_law__224 : decode cL_law_ 224 = .ok (.istore 5, 2) := by decide +kernel
theorem dL_law__226 : decode cL_law_ 226 = .ok (.aload_n 2, 1) := by decide +kernel
theorem dL_law__227 : decode cL_law_ 227 = .ok (.aload_n 0, 1) := by decide +kernel
theorem dL_law__228 : decode cL_law_ 228 = .ok (.iload 4, 2) := by decide +kernel
theorem dL_law__230 : decode cL_law_ 230 = .ok (.iconst 1, 1) := by decide +kernel
theorem dL_law__231 : decode cL_law_ 231 = .ok (.iadd, 1) := by decide +kernel
theorem dL_law__232 : decode cL_law_ 232 = .ok (.iaload, 1) := by decide +kernel
theorem dL_law__233 : decode cL_law_ 233 = .ok (.aload_n 0, 1) := by decide +kernel
theorem dL_law__234 : decode cL_law_ 234 = .ok (.iload 4, 2) := by decide +kernel
theorem dL_law__236 : decode cL_law_ 236 = .ok (.iconst 2, 1) := by decide +kernel
theorem dL_law__237 : decode cL_law_ 237 = .ok (.iadd, 1) := by decide +kernel
theorem dL_law__238 : decode cL_law_ 238 = .ok (.iaload, 1) := by decide +kernel
theorem dL_law__239 : decode cL_law_ 239 = .ok (.invokevirtual 141, 3) := by decide +kernel
theorem dL_law__242 : decode cL_law_ 242 = .ok (.aload_n 2, 1) := by decide +kernel
theorem dL_law__243 : decode cL_law_ 243 = .ok (.invokevirtual 142, 3) := by decide +kernel
theorem dL_law__246 : decode cL_law_ 246 = .ok (.iload 5, 2) := by decide +kernel
theorem dL_law__248 : decode cL_law_ 248 = .ok (.if_icmp .eq 5, 3) := by decide +kernel
theorem dL_law__251 : decode cL_law_ 251 = .ok (.iconst 0, 1) := by decide +kernel
theorem dL_law__252 : decode cL_law_ 252 = .ok (.ireturn, 1) := by decide +kernel
theorem dL_law__253 : decode cL_law_ 253 = .ok (.goto 2847, 3) := by decide +kernel
theorem dL_law__256 : decode cL_law_ 256 = .ok (.aload_n 1, 1) := by decide +kernel
theorem dL_law__257 : decode cL_law_ 257 = .ok (.aload_n 0, 1) := by decide +kernel
theorem dL_law__258 : decode cL_law_ 258 = .ok (.iload 4, 2) := by decide +kernel
theorem dL_law__260 : decode cL_law_ 260 = .ok (.iconst 1, 1) := by decide +kernel
theorem dL_law__261 : decode cL_law_ 261 = .ok (.iadd, 1) := by decide +kernel
theorem dL_law__262 : decode cL_law_ 262 = .ok (.iaload, 1) := by decide +kernel
theorem dL_law__263 : decode cL_law_ 263 = .ok (.aload_n 0, 1) := by decide +kernel
theorem dL_law__264 : decode cL_law_ 264 = .ok (.iload 4, 2) := by decide +kernel
theorem dL_law__266 : decode cL_law_ 266 = .ok (.iconst 2, 1) := by decide +kernel
theorem dL_law__267 : decode cL_law_ 267 = .ok (.iadd, 1) := by decide +kernel
theorem dL_law__268 : decode cL_law_ 268 = .ok (.iaload, 1) := by decide +kernel
theorem dL_law__269 : decode cL_law_ 269 = .ok (.aload_n 0, 1) := by decide +kernel
theorem dL_law__270 : decode cL_law_ 270 = .ok (.iload 4, 2) := by decide +kernel
theorem dL_law__272 : decode cL_law_ 272 = .ok (.iconst 3, 1) := by decide +kernel
theorem dL_law__273 : decode cL_law_ 273 = .ok (.iadd, 1) := by decide +kernel
theorem dL_law__274 : decode cL_law_ 274 = .ok (.iaload, 1) := by decide +kernel
theorem dL_law__275 : decode cL_law_ 275 = .ok (.aload_n 0, 1) := by decide +kernel
theorem dL_law__276 : decode cL_law_ 276 = .ok (.iload 4, 2) := by decide +kernel
theorem dL_law__278 : decode cL_law_ 278 = .ok (.iconst 4, 1) := by decide +kernel
theorem dL_law__279 : decode cL_law_ 279 = .ok (.iadd, 1) := by decide +kernel
theorem dL_law__280 : decode cL_law_ 280 = .ok (.iaload, 1) := by decide +kernel
theorem dL_law__281 : decode cL_law_ 281 = .ok (.aload_n 0, 1) := by decide +kernel
theorem dL_law__282 : decode cL_law_ 282 = .ok (.iload 4, 2) := by decide +kernel
theorem dL_law__284 : decode cL_law_ 284 = .ok (.iconst 5, 1) := by decide +kernel
theorem dL_law__285 : decode cL_law_ 285 = .ok (.iadd, 1) := by decide +kernel
theorem dL_law__286 : decode cL_law_ 286 = .ok (.iaload, 1) := by decide +kernel
theorem dL_law__287 : decode cL_law_ 287 = .ok (.invokevirtual 146, 3) := by decide +kernel
theorem dL_law__290 : decode cL_law_ 290 = .ok (.aload_n 2, 1) := by decide +kernel
theorem dL_law__291 : decode cL_law_ 291 = .ok (.aload_n 0, 1) := by decide +kernel
theorem dL_law__292 : decode cL_law_ 292 = .ok (.iload 4, 2) := by decide +kernel
theorem dL_law__294 : decode cL_law_ 294 = .ok (.iconst 1, 1) := by decide +kernel
theorem dL_law__295 : decode cL_law_ 295 = .ok (.iadd, 1) := by decide +kernel
theorem dL_law__296 : decode cL_law_ 296 = .ok (.iaload, 1) := by decide +kernel
theorem dL_law__297 : decode cL_law_ 297 = .ok (.aload_n 0, 1) := by decide +kernel
theorem dL_law__298 : decode cL_law_ 298 = .ok (.iload 4, 2) := by decide +kernel
theorem dL_law__300 : decode cL_law_ 300 = .ok (.iconst 2, 1) := by decide +kernel
theorem dL_law__301 : decode cL_law_ 301 = .ok (.iadd, 1) := by decide +kernel
theorem dL_law__302 : decode cL_law_ 302 = .ok (.iaload, 1) := by decide +kernel
theorem dL_law__303 : decode cL_law_ 303 = .ok (.aload_n 0, 1) := by decide +kernel
theorem dL_law__304 : decode cL_law_ 304 = .ok (.iload 4, 2) := by decide +kernel
theorem dL_law__306 : decode cL_law_ 306 = .ok (.iconst 3, 1) := by decide +kernel
theorem dL_law__307 : decode cL_law_ 307 = .ok (.iadd, 1) := by decide +kernel
theorem dL_law__308 : decode cL_law_ 308 = .ok (.iaload, 1) := by decide +kernel
theorem dL_law__309 : decode cL_law_ 309 = .ok (.aload_n 0, 1) := by decide +kernel
theorem dL_law__310 : decode cL_law_ 310 = .ok (.iload 4, 2) := by decide +kernel
theorem dL_law__312 : decode cL_law_ 312 = .ok (.iconst 4, 1) := by decide +kernel
theorem dL_law__313 : decode cL_law_ 313 = .ok (.iadd, 1) := by decide +kernel
theorem dL_law__314 : decode cL_law_ 314 = .ok (.iaload, 1) := by decide +kernel
theorem dL_law__315 : decode cL_law_ 315 = .ok (.aload_n 0, 1) := by decide +kernel
theorem dL_law__316 : decode cL_law_ 316 = .ok (.iload 4, 2) := by decide +kernel
theorem dL_law__318 : decode cL_law_ 318 = .ok (.iconst 5, 1) := by decide +kernel
theorem dL_law__319 : decode cL_law_ 319 = .ok (.iadd, 1) := by decide +kernel
theorem dL_law__320 : decode cL_law_ 320 = .ok (.iaload, 1) := by decide +kernel
theorem dL_law__321 : decode cL_law_ 321 = .ok (.invokevirtual 149, 3) := by decide +kernel
theorem dL_law__324 : decode cL_law_ 324 = .ok (.if_icmp .eq 2776, 3) := by decide +kernel
theorem dL_law__327 : decode cL_law_ 327 = .ok (.iconst 0, 1) := by decide +kernel
theorem dL_law__328 : decode cL_law_ 328 = .ok (.ireturn, 1) := by decide +kernel
theorem dL_law__329 : decode cL_law_ 329 = .ok (.aload_n 1, 1) := by decide +kernel
theorem dL_law__330 : decode cL_law_ 330 = .ok (.aload_n 0, 1) := by decide +kernel
theorem dL_law__331 : decode cL_law_ 331 = .ok (.iload 4, 2) := by decide +kernel
theorem dL_law__333 : decode cL_law_ 333 = .ok (.iconst 1, 1) := by decide +kernel
theorem dL_law__334 : decode cL_law_ 334 = .ok (.iadd, 1) := by decide +kernel
theorem dL_law__335 : decode cL_law_ 335 = .ok (.iaload, 1) := by decide +kernel
theorem dL_law__336 : decode cL_law_ 336 = .ok (.aload_n 3, 1) := by decide +kernel
theorem dL_law__337 : decode cL_law_ 337 = .ok (.invokestatic 150, 3) := by decide +kernel
theorem dL_law__340 : decode cL_law_ 340 = .ok (.istore 5, 2) := by decide +kernel
theorem dL_law__342 : decode cL_law_ 342 = .ok (.aload_n 2, 1) := by decide +kernel
theorem dL_law__343 : decode cL_law_ 343 = .ok (.aload_n 0, 1) := by decide +kernel
theorem dL_law__344 : decode cL_law_ 344 = .ok (.iload 4, 2) := by decide +kernel
theorem dL_law__346 : decode cL_law_ 346 = .ok (.iconst 1, 1) := by decide +kernel
theorem dL_law__347 : decode cL_law_ 347 = .ok (.iadd, 1) := by decide +kernel
theorem dL_law__348 : decode cL_law_ 348 = .ok (.iaload, 1) := by decide +kernel
theorem dL_law__349 : decode cL_law_ 349 = .ok (.invokevirtual 153, 3) := by decide +kernel
theorem dL_law__352 : decode cL_law_ 352 = .ok (.istore 6, 2) := by decide +kernel
theorem dL_law__354 : decode cL_law_ 354 = .ok (.aload_n 2, 1) := by decide +kernel
theorem dL_law__355 : decode cL_law_ 355 = .ok (.invokevirtual 142, 3) := by decide +kernel
theorem dL_law__358 : decode cL_law_ 358 = .ok (.iload 5, 2) := by decide +kernel
theorem dL_law__360 : decode cL_law_ 360 = .ok (.if_icmp .eq 5, 3) := by decide +kernel
theorem dL_law__363 : decode cL_law_ 363 = .ok (.iconst 0, 1) := by decide +kernel
theorem dL_law__364 : decode cL_law_ 364 = .ok (.ireturn, 1) := by decide +kernel
theorem dL_law__365 : decode cL_law_ 365 = .ok (.iload 5, 2) := by decide +kernel
theorem dL_law__367 : decode cL_law_ 367 = .ok (.ifCond .ne 15, 3) := by decide +kernel
theorem dL_law__370 : decode cL_law_ 370 = .ok (.aload_n 3, 1) := by decide +kernel
theorem dL_law__371 : decode cL_law_ 371 = .ok (.iconst 0, 1) := by decide +kernel
theorem dL_law__372 : decode cL_law_ 372 = .ok (.laload, 1) := by decide +kernel
theorem dL_law__373 : decode cL_law_ 373 = .ok (.iload 6, 2) := by decide +kernel
theorem dL_law__375 : decode cL_law_ 375 = .ok (.i2l, 1) := by decide +kernel
theorem dL_law__376 : decode cL_law_ 376 = .ok (.lcmp, 1) := by decide +kernel
theorem dL_law__377 : decode cL_law_ 377 = .ok (.ifCond .eq 5, 3) := by decide +kernel
theorem dL_law__380 : decode cL_law_ 380 = .ok (.iconst 0, 1) := by decide +kernel
theorem dL_law__381 : decode cL_law_ 381 = .ok (.ireturn, 1) := by decide +kernel
theorem dL_law__382 : decode cL_law_ 382 = .ok (.goto 2718, 3) := by decide +kernel
theorem dL_law__385 : decode cL_law_ 385 = .ok (.aload_n 1, 1) := by decide +kernel
theorem dL_law__386 : decode cL_law_ 386 = .ok (.aload_n 0, 1) := by decide +kernel
theorem dL_law__387 : decode cL_law_ 387 = .ok (.iload 4, 2) := by decide +kernel
theorem dL_law__389 : decode cL_law_ 389 = .ok (.iconst 1, 1) := by decide +kernel
theorem dL_law__390 : decode cL_law_ 390 = .ok (.iadd, 1) := by decide +kernel
theorem dL_law__391 : decode cL_law_ 391 = .ok (.iaload, 1) := by decide +kernel
theorem dL_law__392 : decode cL_law_ 392 = .ok (.aload_n 3, 1) := by decide +kernel
theorem dL_law__393 : decode cL_law_ 393 = .ok (.invokestatic 154, 3) := by decide +kernel
theorem dL_law__396 : decode cL_law_ 396 = .ok (.istore 5, 2) := by decide +kernel
theorem dL_law__398 : decode cL_law_ 398 = .ok (.aload_n 2, 1) := by decide +kernel
theorem dL_law__399 : decode cL_law_ 399 = .ok (.aload_n 0, 1) := by decide +kernel
theorem dL_law__400 : decode cL_law_ 400 = .ok (.iload 4, 2) := by decide +kernel
theorem dL_law__402 : decode cL_law_ 402 = .ok (.iconst 1, 1) := by decide +kernel
theorem dL_law__403 : decode cL_law_ 403 = .ok (.iadd, 1) := by decide +kernel
theorem dL_law__404 : decode cL_law_ 404 = .ok (.iaload, 1) := by decide +kernel
theorem dL_law__405 : decode cL_law_ 405 = .ok (.invokevirtual 156, 3) := by decide +kernel
theorem dL_law__408 : decode cL_law_ 408 = .ok (.istore 6, 2) := by decide +kernel
theorem dL_law__410 : decode cL_law_ 410 = .ok (.aload_n 2, 1) := by decide +kernel
theorem dL_law__411 : decode cL_law_ 411 = .ok (.invokevirtual 142, 3) := by decide +kernel
theorem dL_law__414 : decode cL_law_ 414 = .ok (.iload 5, 2) := by decide +kernel
theorem dL_law__416 : decode cL_law_ 416 = .ok (.if_icmp .eq 5, 3) := by decide +kernel
theorem dL_law__419 : decode cL_law_ 419 = .ok (.iconst 0, 1) := by decide +kernel
theorem dL_law__420 : decode cL_law_ 420 = .ok (.ireturn, 1) := by decide +kernel
theorem dL_law__421 : decode cL_law_ 421 = .ok (.iload 5, 2) := by decide +kernel
theorem dL_law__423 : decode cL_law_ 423 = .ok (.ifCond .ne 15, 3) := by decide +kernel
theorem dL_law__426 : decode cL_law_ 426 = .ok (.aload_n 3, 1) := by decide +kernel
theorem dL_law__427 : decode cL_law_ 427 = .ok (.iconst 0, 1) := by decide +kernel
theorem dL_law__428 : decode cL_law_ 428 = .ok (.laload, 1) := by decide +kernel
theorem dL_law__429 : decode cL_law_ 429 = .ok (.iload 6, 2) := by decide +kernel
theorem dL_law__431 : decode cL_law_ 431 = .ok (.i2l, 1) := by decide +kernel
theorem dL_law__432 : decode cL_law_ 432 = .ok (.lcmp, 1) := by decide +kernel
theorem dL_law__433 : decode cL_law_ 433 = .ok (.ifCond .eq 5, 3) := by decide +kernel
theorem dL_law__436 : decode cL_law_ 436 = .ok (.iconst 0, 1) := by decide +kernel
theorem dL_law__437 : decode cL_law_ 437 = .ok (.ireturn, 1) := by decide +kernel
theorem dL_law__438 : decode cL_law_ 438 = .ok (.goto 2662, 3) := by decide +kernel
theorem dL_law__441 : decode cL_law_ 441 = .ok (.aload_n 1, 1) := by decide +kernel
theorem dL_law__442 : decode cL_law_ 442 = .ok (.aload_n 0, 1) := by decide +kernel
theorem dL_law__443 : decode cL_law_ 443 = .ok (.iload 4, 2) := by decide +kernel
theorem dL_law__445 : decode cL_law_ 445 = .ok (.iconst 1, 1) := by decide +kernel
theorem dL_law__446 : decode cL_law_ 446 = .ok (.iadd, 1) := by decide +kernel
theorem dL_law__447 : decode cL_law_ 447 = .ok (.iaload, 1) := by decide +kernel
theorem dL_law__448 : decode cL_law_ 448 = .ok (.invokevirtual 157, 3) := by decide +kernel
theorem dL_law__451 : decode cL_law_ 451 = .ok (.aload_n 2, 1) := by decide +kernel
theorem dL_law__452 : decode cL_law_ 452 = .ok (.aload_n 0, 1) := by decide +kernel
theorem dL_law__453 : decode cL_law_ 453 = .ok (.iload 4, 2) := by decide +kernel
theorem dL_law__455 : decode cL_law_ 455 = .ok (.iconst 1, 1) := by decide +kernel
theorem dL_law__456 : decode cL_law_ 456 = .ok (.iadd, 1) := by decide +kernel
theorem dL_law__457 : decode cL_law_ 457 = .ok (.iaload, 1) := by decide +kernel
theorem dL_law__458 : decode cL_law_ 458 = .ok (.invokevirtual 160, 3) := by decide +kernel
theorem dL_law__461 : decode cL_law_ 461 = .ok (.if_icmp .eq 2639, 3) := by decide +kernel
theorem dL_law__464 : decode cL_law_ 464 = .ok (.iconst 0, 1) := by decide +kernel
theorem dL_law__465 : decode cL_law_ 465 = .ok (.ireturn, 1) := by decide +kernel
theorem dL_law__466 : decode cL_law_ 466 = .ok (.aload_n 1, 1) := by decide +kernel
theorem dL_law__467 : decode cL_law_ 467 = .ok (.aload_n 0, 1) := by decide +kernel
theorem dL_law__468 : decode cL_law_ 468 = .ok (.iload 4, 2) := by decide +kernel
theorem dL_law__470 : decode cL_law_ 470 = .ok (.iconst 1, 1) := by decide +kernel
theorem dL_law__471 : decode cL_law_ 471 = .ok (.iadd, 1) := by decide +kernel
theorem dL_law__472 : decode cL_law_ 472 = .ok (.iaload, 1) := by decide +kernel
theorem dL_law__473 : decode cL_law_ 473 = .ok (.aload_n 0, 1) := by decide +kernel
theorem dL_law__474 : decode cL_law_ 474 = .ok (.iload 4, 2) := by decide +kernel
theorem dL_law__476 : decode cL_law_ 476 = .ok (.iconst 2, 1) := by decide +kernel
theorem dL_law__477 : decode cL_law_ 477 = .ok (.iadd, 1) := by decide +kernel
theorem dL_law__478 : decode cL_law_ 478 = .ok (.iaload, 1) := by decide +kernel
theorem dL_law__479 : decode cL_law_ 479 = .ok (.aload_n 3, 1) := by decide +kernel
theorem dL_law__480 : decode cL_law_ 480 = .ok (.invokestatic 161, 3) := by decide +kernel
theorem dL_law__483 : decode cL_law_ 483 = .ok (.istore 5, 2) := by decide +kernel
theorem dL_law__485 : decode cL_law_ 485 = .ok (.aload_n 2, 1) := by decide +kernel
theorem dL_law__486 : decode cL_law_ 486 = .ok (.aload_n 0, 1) := by decide +kernel
theorem dL_law__487 : decode cL_law_ 487 = .ok (.iload 4, 2) := by decide +kernel
theorem dL_law__489 : decode cL_law_ 489 = .ok (.iconst 1, 1) := by decide +kernel
theorem dL_law__490 : decode cL_law_ 490 = .ok (.iadd, 1) := by decide +kernel
theorem dL_law__491 : decode cL_law_ 491 = .ok (.iaload, 1) := by decide +kernel
theorem dL_law__492 : decode cL_law_ 492 = .ok (.aload_n 0, 1) := by decide +kernel
theorem dL_law__493 : decode cL_law_ 493 = .ok (.iload 4, 2) := by decide +kernel
theorem dL_law__495 : decode cL_law_ 495 = .ok (.iconst 2, 1) := by decide +kernel
theorem dL_law__496 : decode cL_law_ 496 = .ok (.iadd, 1) := by decide +kernel
theorem dL_law__497 : decode cL_law_ 497 = .ok (.iaload, 1) := by decide +kernel
theorem dL_law__498 : decode cL_law_ 498 = .ok (.invokevirtual 164, 3) := by decide +kernel
theorem dL_law__501 : decode cL_law_ 501 = .ok (.istore 6, 2) := by decide +kernel
theorem dL_law__503 : decode cL_law_ 503 = .ok (.aload_n 2, 1) := by decide +kernel
theorem dL_law__504 : decode cL_law_ 504 = .ok (.invokevirtual 142, 3) := by decide +kernel
theorem dL_law__507 : decode cL_law_ 507 = .ok (.iload 5, 2) := by decide +kernel
theorem dL_law__509 : decode cL_law_ 509 = .ok (.if_icmp .eq 5, 3) := by decide +kernel
theorem dL_law__512 : decode cL_law_ 512 = .ok (.iconst 0, 1) := by decide +kernel
theorem dL_law__513 : decode cL_law_ 513 = .ok (.ireturn, 1) := by decide +kernel
theorem dL_law__514 : decode cL_law_ 514 = .ok (.iload 5, 2) := by decide +kernel
theorem dL_law__516 : decode cL_law_ 516 = .ok (.ifCond .ne 15, 3) := by decide +kernel
theorem dL_law__519 : decode cL_law_ 519 = .ok (.aload_n 3, 1) := by decide +kernel
theorem dL_law__520 : decode cL_law_ 520 = .ok (.iconst 0, 1) := by decide +kernel
theorem dL_law__521 : decode cL_law_ 521 = .ok (.laload, 1) := by decide +kernel
theorem dL_law__522 : decode cL_law_ 522 = .ok (.iload 6, 2) := by decide +kernel
theorem dL_law__524 : decode cL_law_ 524 = .ok (.i2l, 1) := by decide +kernel
theorem dL_law__525 : decode cL_law_ 525 = .ok (.lcmp, 1) := by decide +kernel
theorem dL_law__526 : decode cL_law_ 526 = .ok (.ifCond .eq 5, 3) := by decide +kernel
theorem dL_law__529 : decode cL_law_ 529 = .ok (.iconst 0, 1) := by decide +kernel
theorem dL_law__530 : decode cL_law_ 530 = .ok (.ireturn, 1) := by decide +kernel
theorem dL_law__531 : decode cL_law_ 531 = .ok (.goto 2569, 3) := by decide +kernel
theorem dL_law__534 : decode cL_law_ 534 = .ok (.aload_n 1, 1) := by decide +kernel
theorem dL_law__535 : decode cL_law_ 535 = .ok (.aload_n 0, 1) := by decide +kernel
theorem dL_law__536 : decode cL_law_ 536 = .ok (.iload 4, 2) := by decide +kernel
theorem dL_law__538 : decode cL_law_ 538 = .ok (.iconst 1, 1) := by decide +kernel
theorem dL_law__539 : decode cL_law_ 539 = .ok (.iadd, 1) := by decide +kernel
theorem dL_law__540 : decode cL_law_ 540 = .ok (.iaload, 1) := by decide +kernel
theorem dL_law__541 : decode cL_law_ 541 = .ok (.aload_n 3, 1) := by decide +kernel
theorem dL_law__542 : decode cL_law_ 542 = .ok (.invokestatic 165, 3) := by decide +kernel
theorem dL_law__545 : decode cL_law_ 545 = .ok (.istore 5, 2) := by decide +kernel
theorem dL_law__547 : decode cL_law_ 547 = .ok (.aload_n 2, 1) := by decide +kernel
theorem dL_law__548 : decode cL_law_ 548 = .ok (.aload_n 0, 1) := by decide +kernel
theorem dL_law__549 : decode cL_law_ 549 = .ok (.iload 4, 2) := by decide +kernel
theorem dL_law__551 : decode cL_law_ 551 = .ok (.iconst 1, 1) := by decide +kernel
theorem dL_law__552 : decode cL_law_ 552 = .ok (.iadd, 1) := by decide +kernel
theorem dL_law__553 : decode cL_law_ 553 = .ok (.iaload, 1) := by decide +kernel
theorem dL_law__554 : decode cL_law_ 554 = .ok (.invokevirtual 167, 3) := by decide +kernel
theorem dL_law__557 : decode cL_law_ 557 = .ok (.istore 6, 2) := by decide +kernel
theorem dL_law__559 : decode cL_law_ 559 = .ok (.aload_n 2, 1) := by decide +kernel
theorem dL_law__560 : decode cL_law_ 560 = .ok (.invokevirtual 142, 3) := by decide +kernel
theorem dL_law__563 : decode cL_law_ 563 = .ok (.iload 5, 2) := by decide +kernel
theorem dL_law__565 : decode cL_law_ 565 = .ok (.if_icmp .eq 5, 3) := by decide +kernel
theorem dL_law__568 : decode cL_law_ 568 = .ok (.iconst 0, 1) := by decide +kernel
theorem dL_law__569 : decode cL_law_ 569 = .ok (.ireturn, 1) := by decide +kernel
theorem dL_law__570 : decode cL_law_ 570 = .ok (.iload 5, 2) := by decide +kernel
theorem dL_law__572 : decode cL_law_ 572 = .ok (.ifCond .ne 15, 3) := by decide +kernel
theorem dL_law__575 : decode cL_law_ 575 = .ok (.aload_n 3, 1) := by decide +kernel
theorem dL_law__576 : decode cL_law_ 576 = .ok (.iconst 0, 1) := by decide +kernel
theorem dL_law__577 : decode cL_law_ 577 = .ok (.laload, 1) := by decide +kernel
theorem dL_law__578 : decode cL_law_ 578 = .ok (.iload 6, 2) := by decide +kernel
theorem dL_law__580 : decode cL_law_ 580 = .ok (.i2l, 1) := by decide +kernel
theorem dL_law__581 : decode cL_law_ 581 = .ok (.lcmp, 1) := by decide +kernel
theorem dL_law__582 : decode cL_law_ 582 = .ok (.ifCond .eq 5, 3) := by decide +kernel
theorem dL_law__585 : decode cL_law_ 585 = .ok (.iconst 0, 1) := by decide +kernel
theorem dL_law__586 : decode cL_law_ 586 = .ok (.ireturn, 1) := by decide +kernel
theorem dL_law__587 : decode cL_law_ 587 = .ok (.goto 2513, 3) := by decide +kernel
theorem dL_law__590 : decode cL_law_ 590 = .ok (.aload_n 1, 1) := by decide +kernel
theorem dL_law__591 : decode cL_law_ 591 = .ok (.aload_n 0, 1) := by decide +kernel
theorem dL_law__592 : decode cL_law_ 592 = .ok (.iload 4, 2) := by decide +kernel
theorem dL_law__594 : decode cL_law_ 594 = .ok (.iconst 1, 1) := by decide +kernel
theorem dL_law__595 : decode cL_law_ 595 = .ok (.iadd, 1) := by decide +kernel
theorem dL_law__596 : decode cL_law_ 596 = .ok (.iaload, 1) := by decide +kernel
theorem dL_law__597 : decode cL_law_ 597 = .ok (.aload_n 0, 1) := by decide +kernel
theorem dL_law__598 : decode cL_law_ 598 = .ok (.iload 4, 2) := by decide +kernel
theorem dL_law__600 : decode cL_law_ 600 = .ok (.iconst 2, 1) := by decide +kernel
theorem dL_law__601 : decode cL_law_ 601 = .ok (.iadd, 1) := by decide +kernel
theorem dL_law__602 : decode cL_law_ 602 = .ok (.iaload, 1) := by decide +kernel
theorem dL_law__603 : decode cL_law_ 603 = .ok (.aload_n 3, 1) := by decide +kernel
theorem dL_law__604 : decode cL_law_ 604 = .ok (.invokestatic 168, 3) := by decide +kernel
theorem dL_law__607 : decode cL_law_ 607 = .ok (.istore 5, 2) := by decide +kernel
theorem dL_law__609 : decode cL_law_ 609 = .ok (.aload_n 2, 1) := by decide +kernel
theorem dL_law__610 : decode cL_law_ 610 = .ok (.aload_n 0, 1) := by decide +kernel
theorem dL_law__611 : decode cL_law_ 611 = .ok (.iload 4, 2) := by decide +kernel
theorem dL_law__613 : decode cL_law_ 613 = .ok (.iconst 1, 1) := by decide +kernel
theorem dL_law__614 : decode cL_law_ 614 = .ok (.iadd, 1) := by decide +kernel
theorem dL_law__615 : decode cL_law_ 615 = .ok (.iaload, 1) := by decide +kernel
theorem dL_law__616 : decode cL_law_ 616 = .ok (.aload_n 0, 1) := by decide +kernel
theorem dL_law__617 : decode cL_law_ 617 = .ok (.iload 4, 2) := by decide +kernel
theorem dL_law__619 : decode cL_law_ 619 = .ok (.iconst 2, 1) := by decide +kernel
theorem dL_law__620 : decode cL_law_ 620 = .ok (.iadd, 1) := by decide +kernel
theorem dL_law__621 : decode cL_law_ 621 = .ok (.iaload, 1) := by decide +kernel
theorem dL_law__622 : decode cL_law_ 622 = .ok (.invokevirtual 170, 3) := by decide +kernel
theorem dL_law__625 : decode cL_law_ 625 = .ok (.istore 6, 2) := by decide +kernel
theorem dL_law__627 : decode cL_law_ 627 = .ok (.aload_n 2, 1) := by decide +kernel
theorem dL_law__628 : decode cL_law_ 628 = .ok (.invokevirtual 142, 3) := by decide +kernel
theorem dL_law__631 : decode cL_law_ 631 = .ok (.iload 5, 2) := by decide +kernel
theorem dL_law__633 : decode cL_law_ 633 = .ok (.if_icmp .eq 5, 3) := by decide +kernel
theorem dL_law__636 : decode cL_law_ 636 = .ok (.iconst 0, 1) := by decide +kernel
theorem dL_law__637 : decode cL_law_ 637 = .ok (.ireturn, 1) := by decide +kernel
theorem dL_law__638 : decode cL_law_ 638 = .ok (.iload 5, 2) := by decide +kernel
theorem dL_law__640 : decode cL_law_ 640 = .ok (.ifCond .ne 15, 3) := by decide +kernel
theorem dL_law__643 : decode cL_law_ 643 = .ok (.aload_n 3, 1) := by decide +kernel
theorem dL_law__644 : decode cL_law_ 644 = .ok (.iconst 0, 1) := by decide +kernel
theorem dL_law__645 : decode cL_law_ 645 = .ok (.laload, 1) := by decide +kernel
theorem dL_law__646 : decode cL_law_ 646 = .ok (.iload 6, 2) := by decide +kernel
theorem dL_law__648 : decode cL_law_ 648 = .ok (.i2l, 1) := by decide +kernel
theorem dL_law__649 : decode cL_law_ 649 = .ok (.lcmp, 1) := by decide +kernel
theorem dL_law__650 : decode cL_law_ 650 = .ok (.ifCond .eq 5, 3) := by decide +kernel
theorem dL_law__653 : decode cL_law_ 653 = .ok (.iconst 0, 1) := by decide +kernel
theorem dL_law__654 : decode cL_law_ 654 = .ok (.ireturn, 1) := by decide +kernel
theorem dL_law__655 : decode cL_law_ 655 = .ok (.goto 2445, 3) := by decide +kernel
theorem dL_law__658 : decode cL_law_ 658 = .ok (.aload_n 1, 1) := by decide +kernel
theorem dL_law__659 : decode cL_law_ 659 = .ok (.aload_n 0, 1) := by decide +kernel
theorem dL_law__660 : decode cL_law_ 660 = .ok (.iload 4, 2) := by decide +kernel
theorem dL_law__662 : decode cL_law_ 662 = .ok (.iconst 1, 1) := by decide +kernel
theorem dL_law__663 : decode cL_law_ 663 = .ok (.iadd, 1) := by decide +kernel
theorem dL_law__664 : decode cL_law_ 664 = .ok (.iaload, 1) := by decide +kernel
theorem dL_law__665 : decode cL_law_ 665 = .ok (.aload_n 0, 1) := by decide +kernel
theorem dL_law__666 : decode cL_law_ 666 = .ok (.iload 4, 2) := by decide +kernel
theorem dL_law__668 : decode cL_law_ 668 = .ok (.iconst 2, 1) := by decide +kernel
theorem dL_law__669 : decode cL_law_ 669 = .ok (.iadd, 1) := by decide +kernel
theorem dL_law__670 : decode cL_law_ 670 = .ok (.iaload, 1) := by decide +kernel
theorem dL_law__671 : decode cL_law_ 671 = .ok (.aload_n 0, 1) := by decide +kernel
theorem dL_law__672 : decode cL_law_ 672 = .ok (.iload 4, 2) := by decide +kernel
theorem dL_law__674 : decode cL_law_ 674 = .ok (.iconst 3, 1) := by decide +kernel
theorem dL_law__675 : decode cL_law_ 675 = .ok (.iadd, 1) := by decide +kernel
theorem dL_law__676 : decode cL_law_ 676 = .ok (.iaload, 1) := by decide +kernel
theorem dL_law__677 : decode cL_law_ 677 = .ok (.aload_n 3, 1) := by decide +kernel
theorem dL_law__678 : decode cL_law_ 678 = .ok (.invokestatic 171, 3) := by decide +kernel
theorem dL_law__681 : decode cL_law_ 681 = .ok (.istore 5, 2) := by decide +kernel
theorem dL_law__683 : decode cL_law_ 683 = .ok (.aload_n 2, 1) := by decide +kernel
theorem dL_law__684 : decode cL_law_ 684 = .ok (.aload_n 0, 1) := by decide +kernel
theorem dL_law__685 : decode cL_law_ 685 = .ok (.iload 4, 2) := by decide +kernel
theorem dL_law__687 : decode cL_law_ 687 = .ok (.iconst 1, 1) := by decide +kernel
theorem dL_law__688 : decode cL_law_ 688 = .ok (.iadd, 1) := by decide +kernel
theorem dL_law__689 : decode cL_law_ 689 = .ok (.iaload, 1) := by decide +kernel
theorem dL_law__690 : decode cL_law_ 690 = .ok (.aload_n 0, 1) := by decide +kernel
theorem dL_law__691 : decode cL_law_ 691 = .ok (.iload 4, 2) := by decide +kernel
theorem dL_law__693 : decode cL_law_ 693 = .ok (.iconst 2, 1) := by decide +kernel
theorem dL_law__694 : decode cL_law_ 694 = .ok (.iadd, 1) := by decide +kernel
theorem dL_law__695 : decode cL_law_ 695 = .ok (.iaload, 1) := by decide +kernel
theorem dL_law__696 : decode cL_law_ 696 = .ok (.aload_n 0, 1) := by decide +kernel
theorem dL_law__697 : decode cL_law_ 697 = .ok (.iload 4, 2) := by decide +kernel
theorem dL_law__699 : decode cL_law_ 699 = .ok (.iconst 3, 1) := by decide +kernel
theorem dL_law__700 : decode cL_law_ 700 = .ok (.iadd, 1) := by decide +kernel
theorem dL_law__701 : decode cL_law_ 701 = .ok (.iaload, 1) := by decide +kernel
theorem dL_law__702 : decode cL_law_ 702 = .ok (.invokevirtual 174, 3) := by decide +kernel
theorem dL_law__705 : decode cL_law_ 705 = .ok (.istore 6, 2) := by decide +kernel
theorem dL_law__707 : decode cL_law_ 707 = .ok (.aload_n 2, 1) := by decide +kernel
theorem dL_law__708 : decode cL_law_ 708 = .ok (.invokevirtual 142, 3) := by decide +kernel
theorem dL_law__711 : decode cL_law_ 711 = .ok (.iload 5, 2) := by decide +kernel
theorem dL_law__713 : decode cL_law_ 713 = .ok (.if_icmp .eq 5, 3) := by decide +kernel
theorem dL_law__716 : decode cL_law_ 716 = .ok (.iconst 0, 1) := by decide +kernel
theorem dL_law__717 : decode cL_law_ 717 = .ok (.ireturn, 1) := by decide +kernel
theorem dL_law__718 : decode cL_law_ 718 = .ok (.iload 5, 2) := by decide +kernel
theorem dL_law__720 : decode cL_law_ 720 = .ok (.ifCond .ne 15, 3) := by decide +kernel
theorem dL_law__723 : decode cL_law_ 723 = .ok (.aload_n 3, 1) := by decide +kernel
theorem dL_law__724 : decode cL_law_ 724 = .ok (.iconst 0, 1) := by decide +kernel
theorem dL_law__725 : decode cL_law_ 725 = .ok (.laload, 1) := by decide +kernel
theorem dL_law__726 : decode cL_law_ 726 = .ok (.iload 6, 2) := by decide +kernel
theorem dL_law__728 : decode cL_law_ 728 = .ok (.i2l, 1) := by decide +kernel
theorem dL_law__729 : decode cL_law_ 729 = .ok (.lcmp, 1) := by decide +kernel
theorem dL_law__730 : decode cL_law_ 730 = .ok (.ifCond .eq 5, 3) := by decide +kernel
theorem dL_law__733 : decode cL_law_ 733 = .ok (.iconst 0, 1) := by decide +kernel
theorem dL_law__734 : decode cL_law_ 734 = .ok (.ireturn, 1) := by decide +kernel
theorem dL_law__735 : decode cL_law_ 735 = .ok (.goto 2365, 3) := by decide +kernel
theorem dL_law__738 : decode cL_law_ 738 = .ok (.aload_n 1, 1) := by decide +kernel
theorem dL_law__739 : decode cL_law_ 739 = .ok (.aload_n 0, 1) := by decide +kernel
theorem dL_law__740 : decode cL_law_ 740 = .ok (.iload 4, 2) := by decide +kernel
theorem dL_law__742 : decode cL_law_ 742 = .ok (.iconst 1, 1) := by decide +kernel
theorem dL_law__743 : decode cL_law_ 743 = .ok (.iadd, 1) := by decide +kernel
theorem dL_law__744 : decode cL_law_ 744 = .ok (.iaload, 1) := by decide +kernel
theorem dL_law__745 : decode cL_law_ 745 = .ok (.aload_n 0, 1) := by decide +kernel
theorem dL_law__746 : decode cL_law_ 746 = .ok (.iload 4, 2) := by decide +kernel
theorem dL_law__748 : decode cL_law_ 748 = .ok (.iconst 2, 1) := by decide +kernel
theorem dL_law__749 : decode cL_law_ 749 = .ok (.iadd, 1) := by decide +kernel
theorem dL_law__750 : decode cL_law_ 750 = .ok (.iaload, 1) := by decide +kernel
theorem dL_law__751 : decode cL_law_ 751 = .ok (.aload_n 0, 1) := by decide +kernel
theorem dL_law__752 : decode cL_law_ 752 = .ok (.iload 4, 2) := by decide +kernel
theorem dL_law__754 : decode cL_law_ 754 = .ok (.iconst 3, 1) := by decide +kernel
theorem dL_law__755 : decode cL_law_ 755 = .ok (.iadd, 1) := by decide +kernel
theorem dL_law__756 : decode cL_law_ 756 = .ok (.iaload, 1) := by decide +kernel
theorem dL_law__757 : decode cL_law_ 757 = .ok (.aload_n 0, 1) := by decide +kernel
theorem dL_law__758 : decode cL_law_ 758 = .ok (.iload 4, 2) := by decide +kernel
theorem dL_law__760 : decode cL_law_ 760 = .ok (.iconst 4, 1) := by decide +kernel
theorem dL_law__761 : decode cL_law_ 761 = .ok (.iadd, 1) := by decide +kernel
theorem dL_law__762 : decode cL_law_ 762 = .ok (.iaload, 1) := by decide +kernel
theorem dL_law__763 : decode cL_law_ 763 = .ok (.aload_n 0, 1) := by decide +kernel
theorem dL_law__764 : decode cL_law_ 764 = .ok (.iload 4, 2) := by decide +kernel
theorem dL_law__766 : decode cL_law_ 766 = .ok (.iconst 5, 1) := by decide +kernel
theorem dL_law__767 : decode cL_law_ 767 = .ok (.iadd, 1) := by decide +kernel
theorem dL_law__768 : decode cL_law_ 768 = .ok (.iaload, 1) := by decide +kernel
theorem dL_law__769 : decode cL_law_ 769 = .ok (.aload_n 3, 1) := by decide +kernel
theorem dL_law__770 : decode cL_law_ 770 = .ok (.invokestatic 175, 3) := by decide +kernel
theorem dL_law__773 : decode cL_law_ 773 = .ok (.istore 5, 2) := by decide +kernel
theorem dL_law__775 : decode cL_law_ 775 = .ok (.aload_n 2, 1) := by decide +kernel
theorem dL_law__776 : decode cL_law_ 776 = .ok (.aload_n 0, 1) := by decide +kernel
theorem dL_law__777 : decode cL_law_ 777 = .ok (.iload 4, 2) := by decide +kernel
theorem dL_law__779 : decode cL_law_ 779 = .ok (.iconst 1, 1) := by decide +kernel
theorem dL_law__780 : decode cL_law_ 780 = .ok (.iadd, 1) := by decide +kernel
theorem dL_law__781 : decode cL_law_ 781 = .ok (.iaload, 1) := by decide +kernel
theorem dL_law__782 : decode cL_law_ 782 = .ok (.aload_n 0, 1) := by decide +kernel
theorem dL_law__783 : decode cL_law_ 783 = .ok (.iload 4, 2) := by decide +kernel
theorem dL_law__785 : decode cL_law_ 785 = .ok (.iconst 2, 1) := by decide +kernel
theorem dL_law__786 : decode cL_law_ 786 = .ok (.iadd, 1) := by decide +kernel
theorem dL_law__787 : decode cL_law_ 787 = .ok (.iaload, 1) := by decide +kernel
theorem dL_law__788 : decode cL_law_ 788 = .ok (.aload_n 0, 1) := by decide +kernel
theorem dL_law__789 : decode cL_law_ 789 = .ok (.iload 4, 2) := by decide +kernel
theorem dL_law__791 : decode cL_law_ 791 = .ok (.iconst 3, 1) := by decide +kernel
theorem dL_law__792 : decode cL_law_ 792 = .ok (.iadd, 1) := by decide +kernel
theorem dL_law__793 : decode cL_law_ 793 = .ok (.iaload, 1) := by decide +kernel
theorem dL_law__794 : decode cL_law_ 794 = .ok (.aload_n 0, 1) := by decide +kernel
theorem dL_law__795 : decode cL_law_ 795 = .ok (.iload 4, 2) := by decide +kernel
theorem dL_law__797 : decode cL_law_ 797 = .ok (.iconst 4, 1) := by decide +kernel
theorem dL_law__798 : decode cL_law_ 798 = .ok (.iadd, 1) := by decide +kernel
theorem dL_law__799 : decode cL_law_ 799 = .ok (.iaload, 1) := by decide +kernel
theorem dL_law__800 : decode cL_law_ 800 = .ok (.aload_n 0, 1) := by decide +kernel
theorem dL_law__801 : decode cL_law_ 801 = .ok (.iload 4, 2) := by decide +kernel
theorem dL_law__803 : decode cL_law_ 803 = .ok (.iconst 5, 1) := by decide +kernel
theorem dL_law__804 : decode cL_law_ 804 = .ok (.iadd, 1) := by decide +kernel
theorem dL_law__805 : decode cL_law_ 805 = .ok (.iaload, 1) := by decide +kernel
theorem dL_law__806 : decode cL_law_ 806 = .ok (.invokevirtual 178, 3) := by decide +kernel
theorem dL_law__809 : decode cL_law_ 809 = .ok (.istore 6, 2) := by decide +kernel
theorem dL_law__811 : decode cL_law_ 811 = .ok (.aload_n 2, 1) := by decide +kernel
theorem dL_law__812 : decode cL_law_ 812 = .ok (.invokevirtual 142, 3) := by decide +kernel
theorem dL_law__815 : decode cL_law_ 815 = .ok (.iload 5, 2) := by decide +kernel
theorem dL_law__817 : decode cL_law_ 817 = .ok (.if_icmp .eq 5, 3) := by decide +kernel
theorem dL_law__820 : decode cL_law_ 820 = .ok (.iconst 0, 1) := by decide +kernel
theorem dL_law__821 : decode cL_law_ 821 = .ok (.ireturn, 1) := by decide +kernel
theorem dL_law__822 : decode cL_law_ 822 = .ok (.iload 5, 2) := by decide +kernel
theorem dL_law__824 : decode cL_law_ 824 = .ok (.ifCond .ne 15, 3) := by decide +kernel
theorem dL_law__827 : decode cL_law_ 827 = .ok (.aload_n 3, 1) := by decide +kernel
theorem dL_law__828 : decode cL_law_ 828 = .ok (.iconst 0, 1) := by decide +kernel
theorem dL_law__829 : decode cL_law_ 829 = .ok (.laload, 1) := by decide +kernel
theorem dL_law__830 : decode cL_law_ 830 = .ok (.iload 6, 2) := by decide +kernel
theorem dL_law__832 : decode cL_law_ 832 = .ok (.i2l, 1) := by decide +kernel
theorem dL_law__833 : decode cL_law_ 833 = .ok (.lcmp, 1) := by decide +kernel
theorem dL_law__834 : decode cL_law_ 834 = .ok (.ifCond .eq 5, 3) := by decide +kernel
theorem dL_law__837 : decode cL_law_ 837 = .ok (.iconst 0, 1) := by decide +kernel
theorem dL_law__838 : decode cL_law_ 838 = .ok (.ireturn, 1) := by decide +kernel
theorem dL_law__839 : decode cL_law_ 839 = .ok (.goto 2261, 3) := by decide +kernel
theorem dL_law__842 : decode cL_law_ 842 = .ok (.aload_n 1, 1) := by decide +kernel
theorem dL_law__843 : decode cL_law_ 843 = .ok (.aload_n 0, 1) := by decide +kernel
theorem dL_law__844 : decode cL_law_ 844 = .ok (.iload 4, 2) := by decide +kernel
theorem dL_law__846 : decode cL_law_ 846 = .ok (.iconst 1, 1) := by decide +kernel
theorem dL_law__847 : decode cL_law_ 847 = .ok (.iadd, 1) := by decide +kernel
theorem dL_law__848 : decode cL_law_ 848 = .ok (.iaload, 1) := by decide +kernel
theorem dL_law__849 : decode cL_law_ 849 = .ok (.aload_n 0, 1) := by decide +kernel
theorem dL_law__850 : decode cL_law_ 850 = .ok (.iload 4, 2) := by decide +kernel
theorem dL_law__852 : decode cL_law_ 852 = .ok (.iconst 2, 1) := by decide +kernel
theorem dL_law__853 : decode cL_law_ 853 = .ok (.iadd, 1) := by decide +kernel
theorem dL_law__854 : decode cL_law_ 854 = .ok (.iaload, 1) := by decide +kernel
theorem dL_law__855 : decode cL_law_ 855 = .ok (.aload_n 0, 1) := by decide +kernel
theorem dL_law__856 : decode cL_law_ 856 = .ok (.iload 4, 2) := by decide +kernel
theorem dL_law__858 : decode cL_law_ 858 = .ok (.iconst 3, 1) := by decide +kernel
theorem dL_law__859 : decode cL_law_ 859 = .ok (.iadd, 1) := by decide +kernel
theorem dL_law__860 : decode cL_law_ 860 = .ok (.iaload, 1) := by decide +kernel
theorem dL_law__861 : decode cL_law_ 861 = .ok (.aload_n 0, 1) := by decide +kernel
theorem dL_law__862 : decode cL_law_ 862 = .ok (.iload 4, 2) := by decide +kernel
theorem dL_law__864 : decode cL_law_ 864 = .ok (.iconst 4, 1) := by decide +kernel
theorem dL_law__865 : decode cL_law_ 865 = .ok (.iadd, 1) := by decide +kernel
theorem dL_law__866 : decode cL_law_ 866 = .ok (.iaload, 1) := by decide +kernel
theorem dL_law__867 : decode cL_law_ 867 = .ok (.aload_n 0, 1) := by decide +kernel
theorem dL_law__868 : decode cL_law_ 868 = .ok (.iload 4, 2) := by decide +kernel
theorem dL_law__870 : decode cL_law_ 870 = .ok (.iconst 5, 1) := by decide +kernel
theorem dL_law__871 : decode cL_law_ 871 = .ok (.iadd, 1) := by decide +kernel
theorem dL_law__872 : decode cL_law_ 872 = .ok (.iaload, 1) := by decide +kernel
theorem dL_law__873 : decode cL_law_ 873 = .ok (.aload_n 0, 1) := by decide +kernel
theorem dL_law__874 : decode cL_law_ 874 = .ok (.iload 4, 2) := by decide +kernel
theorem dL_law__876 : decode cL_law_ 876 = .ok (.bipush 6, 2) := by decide +kernel
theorem dL_law__878 : decode cL_law_ 878 = .ok (.iadd, 1) := by decide +kernel
theorem dL_law__879 : decode cL_law_ 879 = .ok (.iaload, 1) := by decide +kernel
theorem dL_law__880 : decode cL_law_ 880 = .ok (.aload_n 3, 1) := by decide +kernel
theorem dL_law__881 : decode cL_law_ 881 = .ok (.invokestatic 179, 3) := by decide +kernel
theorem dL_law__884 : decode cL_law_ 884 = .ok (.istore 5, 2) := by decide +kernel
theorem dL_law__886 : decode cL_law_ 886 = .ok (.aload_n 2, 1) := by decide +kernel
theorem dL_law__887 : decode cL_law_ 887 = .ok (.aload_n 0, 1) := by decide +kernel
theorem dL_law__888 : decode cL_law_ 888 = .ok (.iload 4, 2) := by decide +kernel
theorem dL_law__890 : decode cL_law_ 890 = .ok (.iconst 1, 1) := by decide +kernel
theorem dL_law__891 : decode cL_law_ 891 = .ok (.iadd, 1) := by decide +kernel
theorem dL_law__892 : decode cL_law_ 892 = .ok (.iaload, 1) := by decide +kernel
theorem dL_law__893 : decode cL_law_ 893 = .ok (.aload_n 0, 1) := by decide +kernel
theorem dL_law__894 : decode cL_law_ 894 = .ok (.iload 4, 2) := by decide +kernel
theorem dL_law__896 : decode cL_law_ 896 = .ok (.iconst 2, 1) := by decide +kernel
theorem dL_law__897 : decode cL_law_ 897 = .ok (.iadd, 1) := by decide +kernel
theorem dL_law__898 : decode cL_law_ 898 = .ok (.iaload, 1) := by decide +kernel
theorem dL_law__899 : decode cL_law_ 899 = .ok (.aload_n 0, 1) := by decide +kernel
theorem dL_law__900 : decode cL_law_ 900 = .ok (.iload 4, 2) := by decide +kernel
theorem dL_law__902 : decode cL_law_ 902 = .ok (.iconst 3, 1) := by decide +kernel
theorem dL_law__903 : decode cL_law_ 903 = .ok (.iadd, 1) := by decide +kernel
theorem dL_law__904 : decode cL_law_ 904 = .ok (.iaload, 1) := by decide +kernel
theorem dL_law__905 : decode cL_law_ 905 = .ok (.aload_n 0, 1) := by decide +kernel
theorem dL_law__906 : decode cL_law_ 906 = .ok (.iload 4, 2) := by decide +kernel
theorem dL_law__908 : decode cL_law_ 908 = .ok (.iconst 4, 1) := by decide +kernel
theorem dL_law__909 : decode cL_law_ 909 = .ok (.iadd, 1) := by decide +kernel
theorem dL_law__910 : decode cL_law_ 910 = .ok (.iaload, 1) := by decide +kernel
theorem dL_law__911 : decode cL_law_ 911 = .ok (.aload_n 0, 1) := by decide +kernel
theorem dL_law__912 : decode cL_law_ 912 = .ok (.iload 4, 2) := by decide +kernel
theorem dL_law__914 : decode cL_law_ 914 = .ok (.iconst 5, 1) := by decide +kernel
theorem dL_law__915 : decode cL_law_ 915 = .ok (.iadd, 1) := by decide +kernel
theorem dL_law__916 : decode cL_law_ 916 = .ok (.iaload, 1) := by decide +kernel
theorem dL_law__917 : decode cL_law_ 917 = .ok (.aload_n 0, 1) := by decide +kernel
theorem dL_law__918 : decode cL_law_ 918 = .ok (.iload 4, 2) := by decide +kernel
theorem dL_law__920 : decode cL_law_ 920 = .ok (.bipush 6, 2) := by decide +kernel
theorem dL_law__922 : decode cL_law_ 922 = .ok (.iadd, 1) := by decide +kernel
theorem dL_law__923 : decode cL_law_ 923 = .ok (.iaload, 1) := by decide +kernel
theorem dL_law__924 : decode cL_law_ 924 = .ok (.invokevirtual 182, 3) := by decide +kernel
theorem dL_law__927 : decode cL_law_ 927 = .ok (.istore 6, 2) := by decide +kernel
theorem dL_law__929 : decode cL_law_ 929 = .ok (.aload_n 2, 1) := by decide +kernel
theorem dL_law__930 : decode cL_law_ 930 = .ok (.invokevirtual 142, 3) := by decide +kernel
theorem dL_law__933 : decode cL_law_ 933 = .ok (.iload 5, 2) := by decide +kernel
theorem dL_law__935 : decode cL_law_ 935 = .ok (.if_icmp .eq 5, 3) := by decide +kernel
theorem dL_law__938 : decode cL_law_ 938 = .ok (.iconst 0, 1) := by decide +kernel
theorem dL_law__939 : decode cL_law_ 939 = .ok (.ireturn, 1) := by decide +kernel
theorem dL_law__940 : decode cL_law_ 940 = .ok (.iload 5, 2) := by decide +kernel
theorem dL_law__942 : decode cL_law_ 942 = .ok (.ifCond .ne 15, 3) := by decide +kernel
theorem dL_law__945 : decode cL_law_ 945 = .ok (.aload_n 3, 1) := by decide +kernel
theorem dL_law__946 : decode cL_law_ 946 = .ok (.iconst 0, 1) := by decide +kernel
theorem dL_law__947 : decode cL_law_ 947 = .ok (.laload, 1) := by decide +kernel
theorem dL_law__948 : decode cL_law_ 948 = .ok (.iload 6, 2) := by decide +kernel
theorem dL_law__950 : decode cL_law_ 950 = .ok (.i2l, 1) := by decide +kernel
theorem dL_law__951 : decode cL_law_ 951 = .ok (.lcmp, 1) := by decide +kernel
theorem dL_law__952 : decode cL_law_ 952 = .ok (.ifCond .eq 5, 3) := by decide +kernel
theorem dL_law__955 : decode cL_law_ 955 = .ok (.iconst 0, 1) := by decide +kernel
theorem dL_law__956 : decode cL_law_ 956 = .ok (.ireturn, 1) := by decide +kernel
theorem dL_law__957 : decode cL_law_ 957 = .ok (.goto 2143, 3) := by decide +kernel
theorem dL_law__960 : decode cL_law_ 960 = .ok (.aload_n 1, 1) := by decide +kernel
theorem dL_law__961 : decode cL_law_ 961 = .ok (.aload_n 0, 1) := by decide +kernel
theorem dL_law__962 : decode cL_law_ 962 = .ok (.iload 4, 2) := by decide +kernel
theorem dL_law__964 : decode cL_law_ 964 = .ok (.iconst 1, 1) := by decide +kernel
theorem dL_law__965 : decode cL_law_ 965 = .ok (.iadd, 1) := by decide +kernel
theorem dL_law__966 : decode cL_law_ 966 = .ok (.iaload, 1) := by decide +kernel
theorem dL_law__967 : decode cL_law_ 967 = .ok (.aload_n 0, 1) := by decide +kernel
theorem dL_law__968 : decode cL_law_ 968 = .ok (.iload 4, 2) := by decide +kernel
theorem dL_law__970 : decode cL_law_ 970 = .ok (.iconst 2, 1) := by decide +kernel
theorem dL_law__971 : decode cL_law_ 971 = .ok (.iadd, 1) := by decide +kernel
theorem dL_law__972 : decode cL_law_ 972 = .ok (.iaload, 1) := by decide +kernel
theorem dL_law__973 : decode cL_law_ 973 = .ok (.aload_n 0, 1) := by decide +kernel
theorem dL_law__974 : decode cL_law_ 974 = .ok (.iload 4, 2) := by decide +kernel
theorem dL_law__976 : decode cL_law_ 976 = .ok (.iconst 3, 1) := by decide +kernel
theorem dL_law__977 : decode cL_law_ 977 = .ok (.iadd, 1) := by decide +kernel
theorem dL_law__978 : decode cL_law_ 978 = .ok (.iaload, 1) := by decide +kernel
theorem dL_law__979 : decode cL_law_ 979 = .ok (.aload_n 3, 1) := by decide +kernel
theorem dL_law__980 : decode cL_law_ 980 = .ok (.invokestatic 183, 3) := by decide +kernel
theorem dL_law__983 : decode cL_law_ 983 = .ok (.istore 5, 2) := by decide +kernel
theorem dL_law__985 : decode cL_law_ 985 = .ok (.aload_n 2, 1) := by decide +kernel
theorem dL_law__986 : decode cL_law_ 986 = .ok (.aload_n 0, 1) := by decide +kernel
theorem dL_law__987 : decode cL_law_ 987 = .ok (.iload 4, 2) := by decide +kernel
theorem dL_law__989 : decode cL_law_ 989 = .ok (.iconst 1, 1) := by decide +kernel
theorem dL_law__990 : decode cL_law_ 990 = .ok (.iadd, 1) := by decide +kernel
theorem dL_law__991 : decode cL_law_ 991 = .ok (.iaload, 1) := by decide +kernel
theorem dL_law__992 : decode cL_law_ 992 = .ok (.aload_n 0, 1) := by decide +kernel
theorem dL_law__993 : decode cL_law_ 993 = .ok (.iload 4, 2) := by decide +kernel
theorem dL_law__995 : decode cL_law_ 995 = .ok (.iconst 2, 1) := by decide +kernel
theorem dL_law__996 : decode cL_law_ 996 = .ok (.iadd, 1) := by decide +kernel
theorem dL_law__997 : decode cL_law_ 997 = .ok (.iaload, 1) := by decide +kernel
theorem dL_law__998 : decode cL_law_ 998 = .ok (.aload_n 0, 1) := by decide +kernel
theorem dL_law__999 : decode cL_law_ 999 = .ok (.iload 4, 2) := by decide +kernel
theorem dL_law__1001 : decode cL_law_ 1001 = .ok (.iconst 3, 1) := by decide +kernel
theorem dL_law__1002 : decode cL_law_ 1002 = .ok (.iadd, 1) := by decide +kernel
theorem dL_law__1003 : decode cL_law_ 1003 = .ok (.iaload, 1) := by decide +kernel
theorem dL_law__1004 : decode cL_law_ 1004 = .ok (.invokevirtual 185, 3) := by decide +kernel
theorem dL_law__1007 : decode cL_law_ 1007 = .ok (.istore 6, 2) := by decide +kernel
theorem dL_law__1009 : decode cL_law_ 1009 = .ok (.aload_n 2, 1) := by decide +kernel
theorem dL_law__1010 : decode cL_law_ 1010 = .ok (.invokevirtual 142, 3) := by decide +kernel
theorem dL_law__1013 : decode cL_law_ 1013 = .ok (.iload 5, 2) := by decide +kernel
theorem dL_law__1015 : decode cL_law_ 1015 = .ok (.if_icmp .eq 5, 3) := by decide +kernel
theorem dL_law__1018 : decode cL_law_ 1018 = .ok (.iconst 0, 1) := by decide +kernel
theorem dL_law__1019 : decode cL_law_ 1019 = .ok (.ireturn, 1) := by decide +kernel
theorem dL_law__1020 : decode cL_law_ 1020 = .ok (.iload 5, 2) := by decide +kernel
theorem dL_law__1022 : decode cL_law_ 1022 = .ok (.ifCond .ne 15, 3) := by decide +kernel
theorem dL_law__1025 : decode cL_law_ 1025 = .ok (.aload_n 3, 1) := by decide +kernel
theorem dL_law__1026 : decode cL_law_ 1026 = .ok (.iconst 0, 1) := by decide +kernel
theorem dL_law__1027 : decode cL_law_ 1027 = .ok (.laload, 1) := by decide +kernel
theorem dL_law__1028 : decode cL_law_ 1028 = .ok (.iload 6, 2) := by decide +kernel
theorem dL_law__1030 : decode cL_law_ 1030 = .ok (.i2l, 1) := by decide +kernel
theorem dL_law__1031 : decode cL_law_ 1031 = .ok (.lcmp, 1) := by decide +kernel
theorem dL_law__1032 : decode cL_law_ 1032 = .ok (.ifCond .eq 5, 3) := by decide +kernel
theorem dL_law__1035 : decode cL_law_ 1035 = .ok (.iconst 0, 1) := by decide +kernel
theorem dL_law__1036 : decode cL_law_ 1036 = .ok (.ireturn, 1) := by decide +kernel
theorem dL_law__1037 : decode cL_law_ 1037 = .ok (.goto 2063, 3) := by decide +kernel
theorem dL_law__1040 : decode cL_law_ 1040 = .ok (.aload_n 1, 1) := by decide +kernel
theorem dL_law__1041 : decode cL_law_ 1041 = .ok (.aload_n 0, 1) := by decide +kernel
theorem dL_law__1042 : decode cL_law_ 1042 = .ok (.iload 4, 2) := by decide +kernel
theorem dL_law__1044 : decode cL_law_ 1044 = .ok (.iconst 1, 1) := by decide +kernel
theorem dL_law__1045 : decode cL_law_ 1045 = .ok (.iadd, 1) := by decide +kernel
theorem dL_law__1046 : decode cL_law_ 1046 = .ok (.iaload, 1) := by decide +kernel
theorem dL_law__1047 : decode cL_law_ 1047 = .ok (.aload_n 0, 1) := by decide +kernel
theorem dL_law__1048 : decode cL_law_ 1048 = .ok (.iload 4, 2) := by decide +kernel
theorem dL_law__1050 : decode cL_law_ 1050 = .ok (.iconst 2, 1) := by decide +kernel
theorem dL_law__1051 : decode cL_law_ 1051 = .ok (.iadd, 1) := by decide +kernel
theorem dL_law__1052 : decode cL_law_ 1052 = .ok (.iaload, 1) := by decide +kernel
theorem dL_law__1053 : decode cL_law_ 1053 = .ok (.aload_n 3, 1) := by decide +kernel
theorem dL_law__1054 : decode cL_law_ 1054 = .ok (.invokestatic 186, 3) := by decide +kernel
theorem dL_law__1057 : decode cL_law_ 1057 = .ok (.istore 5, 2) := by decide +kernel
theorem dL_law__1059 : decode cL_law_ 1059 = .ok (.aload_n 2, 1) := by decide +kernel
theorem dL_law__1060 : decode cL_law_ 1060 = .ok (.aload_n 0, 1) := by decide +kernel
theorem dL_law__1061 : decode cL_law_ 1061 = .ok (.iload 4, 2) := by decide +kernel
theorem dL_law__1063 : decode cL_law_ 1063 = .ok (.iconst 1, 1) := by decide +kernel
theorem dL_law__1064 : decode cL_law_ 1064 = .ok (.iadd, 1) := by decide +kernel
theorem dL_law__1065 : decode cL_law_ 1065 = .ok (.iaload, 1) := by decide +kernel
theorem dL_law__1066 : decode cL_law_ 1066 = .ok (.aload_n 0, 1) := by decide +kernel
theorem dL_law__1067 : decode cL_law_ 1067 = .ok (.iload 4, 2) := by decide +kernel
theorem dL_law__1069 : decode cL_law_ 1069 = .ok (.iconst 2, 1) := by decide +kernel
theorem dL_law__1070 : decode cL_law_ 1070 = .ok (.iadd, 1) := by decide +kernel
theorem dL_law__1071 : decode cL_law_ 1071 = .ok (.iaload, 1) := by decide +kernel
theorem dL_law__1072 : decode cL_law_ 1072 = .ok (.invokevirtual 188, 3) := by decide +kernel
theorem dL_law__1075 : decode cL_law_ 1075 = .ok (.istore 6, 2) := by decide +kernel
theorem dL_law__1077 : decode cL_law_ 1077 = .ok (.aload_n 2, 1) := by decide +kernel
theorem dL_law__1078 : decode cL_law_ 1078 = .ok (.invokevirtual 142, 3) := by decide +kernel
theorem dL_law__1081 : decode cL_law_ 1081 = .ok (.iload 5, 2) := by decide +kernel
theorem dL_law__1083 : decode cL_law_ 1083 = .ok (.if_icmp .eq 5, 3) := by decide +kernel
theorem dL_law__1086 : decode cL_law_ 1086 = .ok (.iconst 0, 1) := by decide +kernel
theorem dL_law__1087 : decode cL_law_ 1087 = .ok (.ireturn, 1) := by decide +kernel
theorem dL_law__1088 : decode cL_law_ 1088 = .ok (.iload 5, 2) := by decide +kernel
theorem dL_law__1090 : decode cL_law_ 1090 = .ok (.ifCond .ne 15, 3) := by decide +kernel
theorem dL_law__1093 : decode cL_law_ 1093 = .ok (.aload_n 3, 1) := by decide +kernel
theorem dL_law__1094 : decode cL_law_ 1094 = .ok (.iconst 0, 1) := by decide +kernel
theorem dL_law__1095 : decode cL_law_ 1095 = .ok (.laload, 1) := by decide +kernel
theorem dL_law__1096 : decode cL_law_ 1096 = .ok (.iload 6, 2) := by decide +kernel
theorem dL_law__1098 : decode cL_law_ 1098 = .ok (.i2l, 1) := by decide +kernel
theorem dL_law__1099 : decode cL_law_ 1099 = .ok (.lcmp, 1) := by decide +kernel
theorem dL_law__1100 : decode cL_law_ 1100 = .ok (.ifCond .eq 5, 3) := by decide +kernel
theorem dL_law__1103 : decode cL_law_ 1103 = .ok (.iconst 0, 1) := by decide +kernel
theorem dL_law__1104 : decode cL_law_ 1104 = .ok (.ireturn, 1) := by decide +kernel
theorem dL_law__1105 : decode cL_law_ 1105 = .ok (.goto 1995, 3) := by decide +kernel
theorem dL_law__1108 : decode cL_law_ 1108 = .ok (.aload_n 1, 1) := by decide +kernel
theorem dL_law__1109 : decode cL_law_ 1109 = .ok (.invokevirtual 189, 3) := by decide +kernel
theorem dL_law__1112 : decode cL_law_ 1112 = .ok (.aload_n 2, 1) := by decide +kernel
theorem dL_law__1113 : decode cL_law_ 1113 = .ok (.invokevirtual 192, 3) := by decide +kernel
theorem dL_law__1116 : decode cL_law_ 1116 = .ok (.if_icmp .eq 1984, 3) := by decide +kernel
theorem dL_law__1119 : decode cL_law_ 1119 = .ok (.iconst 0, 1) := by decide +kernel
theorem dL_law__1120 : decode cL_law_ 1120 = .ok (.ireturn, 1) := by decide +kernel
theorem dL_law__1121 : decode cL_law_ 1121 = .ok (.aload_n 1, 1) := by decide +kernel
theorem dL_law__1122 : decode cL_law_ 1122 = .ok (.aload_n 0, 1) := by decide +kernel
theorem dL_law__1123 : decode cL_law_ 1123 = .ok (.iload 4, 2) := by decide +kernel
theorem dL_law__1125 : decode cL_law_ 1125 = .ok (.iconst 1, 1) := by decide +kernel
theorem dL_law__1126 : decode cL_law_ 1126 = .ok (.iadd, 1) := by decide +kernel
theorem dL_law__1127 : decode cL_law_ 1127 = .ok (.iaload, 1) := by decide +kernel
theorem dL_law__1128 : decode cL_law_ 1128 = .ok (.aload_n 3, 1) := by decide +kernel
theorem dL_law__1129 : decode cL_law_ 1129 = .ok (.invokestatic 193, 3) := by decide +kernel
theorem dL_law__1132 : decode cL_law_ 1132 = .ok (.istore 5, 2) := by decide +kernel
theorem dL_law__1134 : decode cL_law_ 1134 = .ok (.aload_n 2, 1) := by decide +kernel
theorem dL_law__1135 : decode cL_law_ 1135 = .ok (.aload_n 0, 1) := by decide +kernel
theorem dL_law__1136 : decode cL_law_ 1136 = .ok (.iload 4, 2) := by decide +kernel
theorem dL_law__1138 : decode cL_law_ 1138 = .ok (.iconst 1, 1) := by decide +kernel
theorem dL_law__1139 : decode cL_law_ 1139 = .ok (.iadd, 1) := by decide +kernel
theorem dL_law__1140 : decode cL_law_ 1140 = .ok (.iaload, 1) := by decide +kernel
theorem dL_law__1141 : decode cL_law_ 1141 = .ok (.invokevirtual 195, 3) := by decide +kernel
theorem dL_law__1144 : decode cL_law_ 1144 = .ok (.istore 6, 2) := by decide +kernel
theorem dL_law__1146 : decode cL_law_ 1146 = .ok (.aload_n 2, 1) := by decide +kernel
theorem dL_law__1147 : decode cL_law_ 1147 = .ok (.invokevirtual 142, 3) := by decide +kernel
theorem dL_law__1150 : decode cL_law_ 1150 = .ok (.iload 5, 2) := by decide +kernel
theorem dL_law__1152 : decode cL_law_ 1152 = .ok (.if_icmp .eq 5, 3) := by decide +kernel
theorem dL_law__1155 : decode cL_law_ 1155 = .ok (.iconst 0, 1) := by decide +kernel
theorem dL_law__1156 : decode cL_law_ 1156 = .ok (.ireturn, 1) := by decide +kernel
theorem dL_law__1157 : decode cL_law_ 1157 = .ok (.iload 5, 2) := by decide +kernel
theorem dL_law__1159 : decode cL_law_ 1159 = .ok (.ifCond .ne 15, 3) := by decide +kernel
theorem dL_law__1162 : decode cL_law_ 1162 = .ok (.aload_n 3, 1) := by decide +kernel
theorem dL_law__1163 : decode cL_law_ 1163 = .ok (.iconst 0, 1) := by decide +kernel
theorem dL_law__1164 : decode cL_law_ 1164 = .ok (.laload, 1) := by decide +kernel
theorem dL_law__1165 : decode cL_law_ 1165 = .ok (.iload 6, 2) := by decide +kernel
theorem dL_law__1167 : decode cL_law_ 1167 = .ok (.i2l, 1) := by decide +kernel
theorem dL_law__1168 : decode cL_law_ 1168 = .ok (.lcmp, 1) := by decide +kernel
theorem dL_law__1169 : decode cL_law_ 1169 = .ok (.ifCond .eq 5, 3) := by decide +kernel
theorem dL_law__1172 : decode cL_law_ 1172 = .ok (.iconst 0, 1) := by decide +kernel
theorem dL_law__1173 : decode cL_law_ 1173 = .ok (.ireturn, 1) := by decide +kernel
theorem dL_law__1174 : decode cL_law_ 1174 = .ok (.goto 1926, 3) := by decide +kernel
theorem dL_law__1177 : decode cL_law_ 1177 = .ok (.aload_n 1, 1) := by decide +kernel
theorem dL_law__1178 : decode cL_law_ 1178 = .ok (.aload_n 0, 1) := by decide +kernel
theorem dL_law__1179 : decode cL_law_ 1179 = .ok (.iload 4, 2) := by decide +kernel
theorem dL_law__1181 : decode cL_law_ 1181 = .ok (.iconst 1, 1) := by decide +kernel
theorem dL_law__1182 : decode cL_law_ 1182 = .ok (.iadd, 1) := by decide +kernel
theorem dL_law__1183 : decode cL_law_ 1183 = .ok (.iaload, 1) := by decide +kernel
theorem dL_law__1184 : decode cL_law_ 1184 = .ok (.aload_n 0, 1) := by decide +kernel
theorem dL_law__1185 : decode cL_law_ 1185 = .ok (.iload 4, 2) := by decide +kernel
theorem dL_law__1187 : decode cL_law_ 1187 = .ok (.iconst 2, 1) := by decide +kernel
theorem dL_law__1188 : decode cL_law_ 1188 = .ok (.iadd, 1) := by decide +kernel
theorem dL_law__1189 : decode cL_law_ 1189 = .ok (.iaload, 1) := by decide +kernel
theorem dL_law__1190 : decode cL_law_ 1190 = .ok (.aload_n 0, 1) := by decide +kernel
theorem dL_law__1191 : decode cL_law_ 1191 = .ok (.iload 4, 2) := by decide +kernel
theorem dL_law__1193 : decode cL_law_ 1193 = .ok (.iconst 3, 1) := by decide +kernel
theorem dL_law__1194 : decode cL_law_ 1194 = .ok (.iadd, 1) := by decide +kernel
theorem dL_law__1195 : decode cL_law_ 1195 = .ok (.iaload, 1) := by decide +kernel
theorem dL_law__1196 : decode cL_law_ 1196 = .ok (.aload_n 0, 1) := by decide +kernel
theorem dL_law__1197 : decode cL_law_ 1197 = .ok (.iload 4, 2) := by decide +kernel
theorem dL_law__1199 : decode cL_law_ 1199 = .ok (.iconst 4, 1) := by decide +kernel
theorem dL_law__1200 : decode cL_law_ 1200 = .ok (.iadd, 1) := by decide +kernel
theorem dL_law__1201 : decode cL_law_ 1201 = .ok (.iaload, 1) := by decide +kernel
theorem dL_law__1202 : decode cL_law_ 1202 = .ok (.ifCond .eq 7, 3) := by decide +kernel
theorem dL_law__1205 : decode cL_law_ 1205 = .ok (.iconst 1, 1) := by decide +kernel
theorem dL_law__1206 : decode cL_law_ 1206 = .ok (.goto 4, 3) := by decide +kernel
theorem dL_law__1209 : decode cL_law_ 1209 = .ok (.iconst 0, 1) := by decide +kernel
theorem dL_law__1210 : decode cL_law_ 1210 = .ok (.aload_n 3, 1) := by decide +kernel
theorem dL_law__1211 : decode cL_law_ 1211 = .ok (.invokestatic 196, 3) := by decide +kernel
theorem dL_law__1214 : decode cL_law_ 1214 = .ok (.istore 5, 2) := by decide +kernel
theorem dL_law__1216 : decode cL_law_ 1216 = .ok (.aload_n 2, 1) := by decide +kernel
theorem dL_law__1217 : decode cL_law_ 1217 = .ok (.aload_n 0, 1) := by decide +kernel
theorem dL_law__1218 : decode cL_law_ 1218 = .ok (.iload 4, 2) := by decide +kernel
theorem dL_law__1220 : decode cL_law_ 1220 = .ok (.iconst 1, 1) := by decide +kernel
theorem dL_law__1221 : decode cL_law_ 1221 = .ok (.iadd, 1) := by decide +kernel
theorem dL_law__1222 : decode cL_law_ 1222 = .ok (.iaload, 1) := by decide +kernel
theorem dL_law__1223 : decode cL_law_ 1223 = .ok (.aload_n 0, 1) := by decide +kernel
theorem dL_law__1224 : decode cL_law_ 1224 = .ok (.iload 4, 2) := by decide +kernel
theorem dL_law__1226 : decode cL_law_ 1226 = .ok (.iconst 2, 1) := by decide +kernel
theorem dL_law__1227 : decode cL_law_ 1227 = .ok (.iadd, 1) := by decide +kernel
theorem dL_law__1228 : decode cL_law_ 1228 = .ok (.iaload, 1) := by decide +kernel
theorem dL_law__1229 : decode cL_law_ 1229 = .ok (.aload_n 0, 1) := by decide +kernel
theorem dL_law__1230 : decode cL_law_ 1230 = .ok (.iload 4, 2) := by decide +kernel
theorem dL_law__1232 : decode cL_law_ 1232 = .ok (.iconst 3, 1) := by decide +kernel
