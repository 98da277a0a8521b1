theorem dX7_count_112 : decode cX7_count 112 = .ok (.aload_n 0, 1) := by decide +kernel
theorem dX7_count_113 : decode cX7_count 113 = .ok (.getfield 12, 3) := by decide +kernel
theorem dX7_count_116 : decode cX7_count 116 = .ok (.getfield 120, 3) := by decide +kernel
theorem dX7_count_119 : decode cX7_count 119 = .ok (.bipush 18, 2) := by decide +kernel
theorem dX7_count_121 : decode cX7_count 121 = .ok (.iaload, 1) := by decide +kernel
theorem dX7_count_122 : decode cX7_count 122 = .ok (.ireturn, 1) := by decide +kernel
theorem dX7_count_123 : decode cX7_count 123 = .ok (.aload_n 0, 1) := by decide +kernel
theorem dX7_count_124 : decode cX7_count 124 = .ok (.getfield 12, 3) := by decide +kernel
theorem dX7_count_127 : decode cX7_count 127 = .ok (.getfield 120, 3) := by decide +kernel
theorem dX7_count_130 : decode cX7_count 130 = .ok (.bipush 19, 2) := by decide +kernel
theorem dX7_count_132 : decode cX7_count 132 = .ok (.iaload, 1) := by decide +kernel
theorem dX7_count_133 : decode cX7_count 133 = .ok (.ireturn, 1) := by decide +kernel
theorem dX7_count_134 : decode cX7_count 134 = .ok (.aload_n 0, 1) := by decide +kernel
theorem dX7_count_135 : decode cX7_count 135 = .ok (.getfield 12, 3) := by decide +kernel
theorem dX7_count_138 : decode cX7_count 138 = .ok (.getfield 120, 3) := by decide +kernel
theorem dX7_count_141 : decode cX7_count 141 = .ok (.bipush 20, 2) := by decide +kernel
theorem dX7_count_143 : decode cX7_count 143 = .ok (.iaload, 1) := by decide +kernel
theorem dX7_count_144 : decode cX7_count 144 = .ok (.ireturn, 1) := by decide +kernel
theorem dX7_count_145 : decode cX7_count 145 = .ok (.aload_n 0, 1) := by decide +kernel
theorem dX7_count_146 : decode cX7_count 146 = .ok (.getfield 12, 3) := by decide +kernel
theorem dX7_count_149 : decode cX7_count 149 = .ok (.getfield 120, 3) := by decide +kernel
theorem dX7_count_152 : decode cX7_count 152 = .ok (.bipush 21, 2) := by decide +kernel
theorem dX7_count_154 : decode cX7_count 154 = .ok (.iaload, 1) := by decide +kernel
theorem dX7_count_155 : decode cX7_count 155 = .ok (.ireturn, 1) := by decide +kernel
theorem dX7_count_156 : decode cX7_count 156 = .ok (.aload_n 0, 1) := by decide +kernel
theorem dX7_count_157 : decode cX7_count 157 = .ok (.getfield 12, 3) := by decide +kernel
theorem dX7_count_160 : decode cX7_count 160 = .ok (.getfield 120, 3) := by decide +kernel
theorem dX7_count_163 : decode cX7_count 163 = .ok (.bipush 22, 2) := by decide +kernel
theorem dX7_count_165 : decode cX7_count 165 = .ok (.iaload, 1) := by decide +kernel
theorem dX7_count_166 : decode cX7_count 166 = .ok (.ireturn, 1) := by decide +kernel
theorem dX7_count_167 : decode cX7_count 167 = .ok (.aload_n 0, 1) := by decide +kernel
theorem dX7_count_168 : decode cX7_count 168 = .ok (.getfield 12, 3) := by decide +kernel
theorem dX7_count_171 : decode cX7_count 171 = .ok (.getfield 215, 3) := by decide +kernel
theorem dX7_count_174 : decode cX7_count 174 = .ok (.getfield 130, 3) := by decide +kernel
theorem dX7_count_177 : decode cX7_count 177 = .ok (.ireturn, 1) := by decide +kernel
theorem dX7_count_178 : decode cX7_count 178 = .ok (.aload_n 0, 1) := by decide +kernel
theorem dX7_count_179 : decode cX7_count 179 = .ok (.getfield 12, 3) := by decide +kernel
theorem dX7_count_182 : decode cX7_count 182 = .ok (.getfield 223, 3) := by decide +kernel
theorem dX7_count_185 : decode cX7_count 185 = .ok (.getfield 130, 3) := by decide +kernel
theorem dX7_count_188 : decode cX7_count 188 = .ok (.ireturn, 1) := by decide +kernel
theorem dX7_count_189 : decode cX7_count 189 = .ok (.aload_n 0, 1) := by decide +kernel
theorem dX7_count_190 : decode cX7_count 190 = .ok (.getfield 12, 3) := by decide +kernel
theorem dX7_count_193 : decode cX7_count 193 = .ok (.getfield 307, 3) := by decide +kernel
theorem dX7_count_196 : decode cX7_count 196 = .ok (.getfield 130, 3) := by decide +kernel
theorem dX7_count_199 : decode cX7_count 199 = .ok (.ireturn, 1) := by decide +kernel
theorem dX7_count_200 : decode cX7_count 200 = .ok (.aload_n 0, 1) := by decide +kernel
theorem dX7_count_201 : decode cX7_count 201 = .ok (.getfield 12, 3) := by decide +kernel
theorem dX7_count_204 : decode cX7_count 204 = .ok (.getfield 226, 3) := by decide +kernel
theorem dX7_count_207 : decode cX7_count 207 = .ok (.ireturn, 1) := by decide +kernel
theorem dX7_count_208 : decode cX7_count 208 = .ok (.iconst (-1), 1) := by decide +kernel
theorem dX7_count_209 : decode cX7_count 209 = .ok (.ireturn, 1) := by decide +kernel
theorem dX7_needWithin_0 : decode cX7_needWithin 0 = .ok (.iload_n 0, 1) := by decide +kernel
theorem dX7_needWithin_1 : decode cX7_needWithin 1 = .ok (.iload_n 1, 1) := by decide +kernel
theorem dX7_needWithin_2 : decode cX7_needWithin 2 = .ok (.if_icmp .lt 8, 3) := by decide +kernel
theorem dX7_needWithin_5 : decode cX7_needWithin 5 = .ok (.iload_n 0, 1) := by decide +kernel
theorem dX7_needWithin_6 : decode cX7_needWithin 6 = .ok (.iload_n 2, 1) := by decide +kernel
theorem dX7_needWithin_7 : decode cX7_needWithin 7 = .ok (.if_icmp .le 14, 3) := by decide +kernel
theorem dX7_needWithin_10 : decode cX7_needWithin 10 = .ok (.new 253, 3) := by decide +kernel
theorem dX7_needWithin_13 : decode cX7_needWithin 13 = .ok (.dup, 1) := by decide +kernel
theorem dX7_needWithin_14 : decode cX7_needWithin 14 = .ok (.ldc_w 390, 3) := by decide +kernel
theorem dX7_needWithin_17 : decode cX7_needWithin 17 = .ok (.invokespecial 257, 3) := by decide +kernel
theorem dX7_needWithin_20 : decode cX7_needWithin 20 = .ok (.athrow, 1) := by decide +kernel
theorem dX7_needWithin_21 : decode cX7_needWithin 21 = .ok (.return_, 1) := by decide +kernel
theorem dX7_needEars_0 : decode cX7_needEars 0 = .ok (.iload_n 0, 1) := by decide +kernel
theorem dX7_needEars_1 : decode cX7_needEars 1 = .ok (.bipush (-9), 2) := by decide +kernel
theorem dX7_needEars_3 : decode cX7_needEars 3 = .ok (.bipush 9, 2) := by decide +kernel
theorem dX7_needEars_5 : decode cX7_needEars 5 = .ok (.invokestatic 76, 3) := by decide +kernel
theorem dX7_needEars_8 : decode cX7_needEars 8 = .ok (.return_, 1) := by decide +kernel
theorem dX7_needThrow_0 : decode cX7_needThrow 0 = .ok (.iload_n 0, 1) := by decide +kernel
theorem dX7_needThrow_1 : decode cX7_needThrow 1 = .ok (.invokestatic 229, 3) := by decide +kernel
theorem dX7_needThrow_4 : decode cX7_needThrow 4 = .ok (.iload_n 1, 1) := by decide +kernel
theorem dX7_needThrow_5 : decode cX7_needThrow 5 = .ok (.bipush 10, 2) := by decide +kernel
theorem dX7_needThrow_7 : decode cX7_needThrow 7 = .ok (.sipush 999, 3) := by decide +kernel
theorem dX7_needThrow_10 : decode cX7_needThrow 10 = .ok (.invokestatic 76, 3) := by decide +kernel
theorem dX7_needThrow_13 : decode cX7_needThrow 13 = .ok (.iload_n 2, 1) := by decide +kernel
theorem dX7_needThrow_14 : decode cX7_needThrow 14 = .ok (.bipush (-16), 2) := by decide +kernel
theorem dX7_needThrow_16 : decode cX7_needThrow 16 = .ok (.bipush 16, 2) := by decide +kernel
theorem dX7_needThrow_18 : decode cX7_needThrow 18 = .ok (.invokestatic 76, 3) := by decide +kernel
theorem dX7_needThrow_21 : decode cX7_needThrow 21 = .ok (.return_, 1) := by decide +kernel
theorem dX7_needHoop_0 : decode cX7_needHoop 0 = .ok (.iload_n 0, 1) := by decide +kernel
theorem dX7_needHoop_1 : decode cX7_needHoop 1 = .ok (.iconst 1, 1) := by decide +kernel
theorem dX7_needHoop_2 : decode cX7_needHoop 2 = .ok (.ldc 222, 2) := by decide +kernel
theorem dX7_needHoop_4 : decode cX7_needHoop 4 = .ok (.invokestatic 76, 3) := by decide +kernel
theorem dX7_needHoop_7 : decode cX7_needHoop 7 = .ok (.iload_n 1, 1) := by decide +kernel
theorem dX7_needHoop_8 : decode cX7_needHoop 8 = .ok (.iconst 0, 1) := by decide +kernel
theorem dX7_needHoop_9 : decode cX7_needHoop 9 = .ok (.sipush 9999, 3) := by decide +kernel
theorem dX7_needHoop_12 : decode cX7_needHoop 12 = .ok (.invokestatic 76, 3) := by decide +kernel
theorem dX7_needHoop_15 : decode cX7_needHoop 15 = .ok (.iload_n 2, 1) := by decide +kernel
theorem dX7_needHoop_16 : decode cX7_needHoop 16 = .ok (.iload_n 1, 1) := by decide +kernel
theorem dX7_needHoop_17 : decode cX7_needHoop 17 = .ok (.sipush 9999, 3) := by decide +kernel
theorem dX7_needHoop_20 : decode cX7_needHoop 20 = .ok (.invokestatic 76, 3) := by decide +kernel
theorem dX7_needHoop_23 : decode cX7_needHoop 23 = .ok (.return_, 1) := by decide +kernel
theorem dX7_needWay_0 : decode cX7_needWay 0 = .ok (.aload_n 0, 1) := by decide +kernel
theorem dX7_needWay_1 : decode cX7_needWay 1 = .ok (.getfield 12, 3) := by decide +kernel
theorem dX7_needWay_4 : decode cX7_needWay 4 = .ok (.iload_n 1, 1) := by decide +kernel
theorem dX7_needWay_5 : decode cX7_needWay 5 = .ok (.invokevirtual 268, 3) := by decide +kernel
theorem dX7_needWay_8 : decode cX7_needWay 8 = .ok (.astore_n 2, 1) := by decide +kernel
theorem dX7_needWay_9 : decode cX7_needWay 9 = .ok (.aload_n 2, 1) := by decide +kernel
theorem dX7_needWay_10 : decode cX7_needWay 10 = .ok (.ifnonnull 14, 3) := by decide +kernel
theorem dX7_needWay_13 : decode cX7_needWay 13 = .ok (.new 310, 3) := by decide +kernel
theorem dX7_needWay_16 : decode cX7_needWay 16 = .ok (.dup, 1) := by decide +kernel
theorem dX7_needWay_17 : decode cX7_needWay 17 = .ok (.ldc_w 392, 3) := by decide +kernel
theorem dX7_needWay_20 : decode cX7_needWay 20 = .ok (.invokespecial 314, 3) := by decide +kernel
theorem dX7_needWay_23 : decode cX7_needWay 23 = .ok (.athrow, 1) := by decide +kernel
theorem dX7_needWay_24 : decode cX7_needWay 24 = .ok (.aload_n 2, 1) := by decide +kernel
theorem dX7_needWay_25 : decode cX7_needWay 25 = .ok (.areturn, 1) := by decide +kernel
theorem dX7_needHand_0 : decode cX7_needHand 0 = .ok (.aload_n 0, 1) := by decide +kernel
theorem dX7_needHand_1 : decode cX7_needHand 1 = .ok (.getfield 12, 3) := by decide +kernel
theorem dX7_needHand_4 : decode cX7_needHand 4 = .ok (.iload_n 1, 1) := by decide +kernel
theorem dX7_needHand_5 : decode cX7_needHand 5 = .ok (.invokevirtual 318, 3) := by decide +kernel
theorem dX7_needHand_8 : decode cX7_needHand 8 = .ok (.astore_n 2, 1) := by decide +kernel
theorem dX7_needHand_9 : decode cX7_needHand 9 = .ok (.aload_n 2, 1) := by decide +kernel
theorem dX7_needHand_10 : decode cX7_needHand 10 = .ok (.ifnonnull 14, 3) := by decide +kernel
theorem dX7_needHand_13 : decode cX7_needHand 13 = .ok (.new 310, 3) := by decide +kernel
theorem dX7_needHand_16 : decode cX7_needHand 16 = .ok (.dup, 1) := by decide +kernel
theorem dX7_needHand_17 : decode cX7_needHand 17 = .ok (.ldc_w 394, 3) := by decide +kernel
theorem dX7_needHand_20 : decode cX7_needHand 20 = .ok (.invokespecial 314, 3) := by decide +kernel
theorem dX7_needHand_23 : decode cX7_needHand 23 = .ok (.athrow, 1) := by decide +kernel
theorem dX7_needHand_24 : decode cX7_needHand 24 = .ok (.aload_n 2, 1) := by decide +kernel
theorem dX7_needHand_25 : decode cX7_needHand 25 = .ok (.areturn, 1) := by decide +kernel
theorem dX7_needMake_0 : decode cX7_needMake 0 = .ok (.aload_n 0, 1) := by decide +kernel
theorem dX7_needMake_1 : decode cX7_needMake 1 = .ok (.aload_n 1, 1) := by decide +kernel
theorem dX7_needMake_2 : decode cX7_needMake 2 = .ok (.invokevirtual 137, 3) := by decide +kernel
theorem dX7_needMake_5 : decode cX7_needMake 5 = .ok (.iconst (-1), 1) := by decide +kernel
theorem dX7_needMake_6 : decode cX7_needMake 6 = .ok (.if_icmp .eq 14, 3) := by decide +kernel
theorem dX7_needMake_9 : decode cX7_needMake 9 = .ok (.new 382, 3) := by decide +kernel
theorem dX7_needMake_12 : decode cX7_needMake 12 = .ok (.dup, 1) := by decide +kernel
theorem dX7_needMake_13 : decode cX7_needMake 13 = .ok (.ldc_w 396, 3) := by decide +kernel
theorem dX7_needMake_16 : decode cX7_needMake 16 = .ok (.invokespecial 386, 3) := by decide +kernel
theorem dX7_needMake_19 : decode cX7_needMake 19 = .ok (.athrow, 1) := by decide +kernel
theorem dX7_needMake_20 : decode cX7_needMake 20 = .ok (.return_, 1) := by decide +kernel
theorem dX7_needTray_0 : decode cX7_needTray 0 = .ok (.iload_n 1, 1) := by decide +kernel
theorem dX7_needTray_1 : decode cX7_needTray 1 = .ok (.ifCond .lt 17, 3) := by decide +kernel
theorem dX7_needTray_4 : decode cX7_needTray 4 = .ok (.iload_n 1, 1) := by decide +kernel
theorem dX7_needTray_5 : decode cX7_needTray 5 = .ok (.iconst 4, 1) := by decide +kernel
theorem dX7_needTray_6 : decode cX7_needTray 6 = .ok (.if_icmp .ge 12, 3) := by decide +kernel
theorem dX7_needTray_9 : decode cX7_needTray 9 = .ok (.aload_n 0, 1) := by decide +kernel
theorem dX7_needTray_10 : decode cX7_needTray 10 = .ok (.getfield 29, 3) := by decide +kernel
theorem dX7_needTray_13 : decode cX7_needTray 13 = .ok (.iload_n 1, 1) := by decide +kernel
theorem dX7_needTray_14 : decode cX7_needTray 14 = .ok (.aaload, 1) := by decide +kernel
theorem dX7_needTray_15 : decode cX7_needTray 15 = .ok (.goto 4, 3) := by decide +kernel
theorem dX7_needTray_18 : decode cX7_needTray 18 = .ok (.aconst_null, 1) := by decide +kernel
theorem dX7_needTray_19 : decode cX7_needTray 19 = .ok (.astore_n 2, 1) := by decide +kernel
theorem dX7_needTray_20 : decode cX7_needTray 20 = .ok (.aload_n 2, 1) := by decide +kernel
theorem dX7_needTray_21 : decode cX7_needTray 21 = .ok (.ifnonnull 14, 3) := by decide +kernel
theorem dX7_needTray_24 : decode cX7_needTray 24 = .ok (.new 310, 3) := by decide +kernel
theorem dX7_needTray_27 : decode cX7_needTray 27 = .ok (.dup, 1) := by decide +kernel
theorem dX7_needTray_28 : decode cX7_needTray 28 = .ok (.ldc_w 398, 3) := by decide +kernel
theorem dX7_needTray_31 : decode cX7_needTray 31 = .ok (.invokespecial 314, 3) := by decide +kernel
theorem dX7_needTray_34 : decode cX7_needTray 34 = .ok (.athrow, 1) := by decide +kernel
theorem dX7_needTray_35 : decode cX7_needTray 35 = .ok (.aload_n 2, 1) := by decide +kernel
theorem dX7_needTray_36 : decode cX7_needTray 36 = .ok (.areturn, 1) := by decide +kernel
theorem dX7_needThere_0 : decode cX7_needThere 0 = .ok (.aload_n 0, 1) := by decide +kernel
theorem dX7_needThere_1 : decode cX7_needThere 1 = .ok (.getfield 400, 3) := by decide +kernel
theorem dX7_needThere_4 : decode cX7_needThere 4 = .ok (.iconst (-1), 1) := by decide +kernel
theorem dX7_needThere_5 : decode cX7_needThere 5 = .ok (.if_icmp .ne 14, 3) := by decide +kernel
theorem dX7_needThere_8 : decode cX7_needThere 8 = .ok (.new 382, 3) := by decide +kernel
theorem dX7_needThere_11 : decode cX7_needThere 11 = .ok (.dup, 1) := by decide +kernel
theorem dX7_needThere_12 : decode cX7_needThere 12 = .ok (.ldc_w 403, 3) := by decide +kernel
theorem dX7_needThere_15 : decode cX7_needThere 15 = .ok (.invokespecial 386, 3) := by decide +kernel
theorem dX7_needThere_18 : decode cX7_needThere 18 = .ok (.athrow, 1) := by decide +kernel
theorem dX7_needThere_19 : decode cX7_needThere 19 = .ok (.return_, 1) := by decide +kernel
theorem dX7_needImageNumber_0 : decode cX7_needImageNumber 0 = .ok (.iload_n 0, 1) := by decide +kernel
theorem dX7_needImageNumber_1 : decode cX7_needImageNumber 1 = .ok (.ifCond .lt 8, 3) := by decide +kernel
theorem dX7_needImageNumber_4 : decode cX7_needImageNumber 4 = .ok (.iload_n 0, 1) := by decide +kernel
theorem dX7_needImageNumber_5 : decode cX7_needImageNumber 5 = .ok (.iconst 3, 1) := by decide +kernel
theorem dX7_needImageNumber_6 : decode cX7_needImageNumber 6 = .ok (.if_icmp .lt 14, 3) := by decide +kernel
theorem dX7_needImageNumber_9 : decode cX7_needImageNumber 9 = .ok (.new 310, 3) := by decide +kernel
theorem dX7_needImageNumber_12 : decode cX7_needImageNumber 12 = .ok (.dup, 1) := by decide +kernel
theorem dX7_needImageNumber_13 : decode cX7_needImageNumber 13 = .ok (.ldc_w 405, 3) := by decide +kernel
theorem dX7_needImageNumber_16 : decode cX7_needImageNumber 16 = .ok (.invokespecial 314, 3) := by decide +kernel
theorem dX7_needImageNumber_19 : decode cX7_needImageNumber 19 = .ok (.athrow, 1) := by decide +kernel
theorem dX7_needImageNumber_20 : decode cX7_needImageNumber 20 = .ok (.return_, 1) := by decide +kernel
theorem dX7_codeOf_0 : decode cX7_codeOf 0 = .ok (.iload_n 1, 1) := by decide +kernel
theorem dX7_codeOf_1 : decode cX7_codeOf 1 = .ok (.ifCond .lt 11, 3) := by decide +kernel
theorem dX7_codeOf_4 : decode cX7_codeOf 4 = .ok (.iload_n 1, 1) := by decide +kernel
theorem dX7_codeOf_5 : decode cX7_codeOf 5 = .ok (.aload_n 0, 1) := by decide +kernel
theorem dX7_codeOf_6 : decode cX7_codeOf 6 = .ok (.getfield 130, 3) := by decide +kernel
theorem dX7_codeOf_9 : decode cX7_codeOf 9 = .ok (.if_icmp .lt 5, 3) := by decide +kernel
theorem dX7_codeOf_12 : decode cX7_codeOf 12 = .ok (.iconst (-1), 1) := by decide +kernel
theorem dX7_codeOf_13 : decode cX7_codeOf 13 = .ok (.ireturn, 1) := by decide +kernel
theorem dX7_codeOf_14 : decode cX7_codeOf 14 = .ok (.bipush 100, 2) := by decide +kernel
theorem dX7_codeOf_16 : decode cX7_codeOf 16 = .ok (.aload_n 0, 1) := by decide +kernel
theorem dX7_codeOf_17 : decode cX7_codeOf 17 = .ok (.iload_n 1, 1) := by decide +kernel
theorem dX7_codeOf_18 : decode cX7_codeOf 18 = .ok (.iconst 0, 1) := by decide +kernel
theorem dX7_codeOf_19 : decode cX7_codeOf 19 = .ok (.invokevirtual 300, 3) := by decide +kernel
theorem dX7_codeOf_22 : decode cX7_codeOf 22 = .ok (.imul, 1) := by decide +kernel
theorem dX7_codeOf_23 : decode cX7_codeOf 23 = .ok (.aload_n 0, 1) := by decide +kernel
theorem dX7_codeOf_24 : decode cX7_codeOf 24 = .ok (.iload_n 1, 1) := by decide +kernel
theorem dX7_codeOf_25 : decode cX7_codeOf 25 = .ok (.iconst 1, 1) := by decide +kernel
theorem dX7_codeOf_26 : decode cX7_codeOf 26 = .ok (.invokevirtual 300, 3) := by decide +kernel
theorem dX7_codeOf_29 : decode cX7_codeOf 29 = .ok (.iadd, 1) := by decide +kernel
theorem dX7_codeOf_30 : decode cX7_codeOf 30 = .ok (.ireturn, 1) := by decide +kernel
theorem dX7_breakOf_0 : decode cX7_breakOf 0 = .ok (.aload_n 0, 1) := by decide +kernel
theorem dX7_breakOf_1 : decode cX7_breakOf 1 = .ok (.getfield 36, 3) := by decide +kernel
theorem dX7_breakOf_4 : decode cX7_breakOf 4 = .ok (.aload_n 1, 1) := by decide +kernel
theorem dX7_breakOf_5 : decode cX7_breakOf 5 = .ok (.aload_n 0, 1) := by decide +kernel
theorem dX7_breakOf_6 : decode cX7_breakOf 6 = .ok (.getfield 12, 3) := by decide +kernel
theorem dX7_breakOf_9 : decode cX7_breakOf 9 = .ok (.getfield 80, 3) := by decide +kernel
theorem dX7_breakOf_12 : decode cX7_breakOf 12 = .ok (.aload_n 0, 1) := by decide +kernel
theorem dX7_breakOf_13 : decode cX7_breakOf 13 = .ok (.getfield 12, 3) := by decide +kernel
theorem dX7_breakOf_16 : decode cX7_breakOf 16 = .ok (.getfield 84, 3) := by decide +kernel
theorem dX7_breakOf_19 : decode cX7_breakOf 19 = .ok (.invokevirtual 407, 3) := by decide +kernel
theorem dX7_breakOf_22 : decode cX7_breakOf 22 = .ok (.ireturn, 1) := by decide +kernel
theorem dX7_findNoFold_0 : decode cX7_findNoFold 0 = .ok (.aload_n 0, 1) := by decide +kernel
theorem dX7_findNoFold_1 : decode cX7_findNoFold 1 = .ok (.getfield 57, 3) := by decide +kernel
theorem dX7_findNoFold_4 : decode cX7_findNoFold 4 = .ok (.iconst 0, 1) := by decide +kernel
theorem dX7_findNoFold_5 : decode cX7_findNoFold 5 = .ok (.putfield 130, 3) := by decide +kernel
theorem dX7_findNoFold_8 : decode cX7_findNoFold 8 = .ok (.aload_n 0, 1) := by decide +kernel
theorem dX7_findNoFold_9 : decode cX7_findNoFold 9 = .ok (.aload_n 0, 1) := by decide +kernel
theorem dX7_findNoFold_10 : decode cX7_findNoFold 10 = .ok (.getfield 57, 3) := by decide +kernel
theorem dX7_findNoFold_13 : decode cX7_findNoFold 13 = .ok (.invokevirtual 137, 3) := by decide +kernel
theorem dX7_findNoFold_16 : decode cX7_findNoFold 16 = .ok (.pop, 1) := by decide +kernel
theorem dX7_findNoFold_17 : decode cX7_findNoFold 17 = .ok (.aload_n 0, 1) := by decide +kernel
theorem dX7_findNoFold_18 : decode cX7_findNoFold 18 = .ok (.getfield 36, 3) := by decide +kernel
theorem dX7_findNoFold_21 : decode cX7_findNoFold 21 = .ok (.iload_n 1, 1) := by decide +kernel
theorem dX7_findNoFold_22 : decode cX7_findNoFold 22 = .ok (.iload_n 2, 1) := by decide +kernel
theorem dX7_findNoFold_23 : decode cX7_findNoFold 23 = .ok (.invokevirtual 411, 3) := by decide +kernel
theorem dX7_findNoFold_26 : decode cX7_findNoFold 26 = .ok (.ireturn, 1) := by decide +kernel
theorem dX7_findOneFold_0 : decode cX7_findOneFold 0 = .ok (.iconst 0, 1) := by decide +kernel
theorem dX7_findOneFold_1 : decode cX7_findOneFold 1 = .ok (.istore_n 3, 1) := by decide +kernel
theorem dX7_findOneFold_2 : decode cX7_findOneFold 2 = .ok (.iload_n 3, 1) := by decide +kernel
theorem dX7_findOneFold_3 : decode cX7_findOneFold 3 = .ok (.bipush 18, 2) := by decide +kernel
theorem dX7_findOneFold_5 : decode cX7_findOneFold 5 = .ok (.if_icmp .ge 40, 3) := by decide +kernel
theorem dX7_findOneFold_8 : decode cX7_findOneFold 8 = .ok (.aload_n 0, 1) := by decide +kernel
theorem dX7_findOneFold_9 : decode cX7_findOneFold 9 = .ok (.iload_n 3, 1) := by decide +kernel
theorem dX7_findOneFold_10 : decode cX7_findOneFold 10 = .ok (.invokevirtual 414, 3) := by decide +kernel
theorem dX7_findOneFold_13 : decode cX7_findOneFold 13 = .ok (.aload_n 0, 1) := by decide +kernel
theorem dX7_findOneFold_14 : decode cX7_findOneFold 14 = .ok (.aload_n 0, 1) := by decide +kernel
theorem dX7_findOneFold_15 : decode cX7_findOneFold 15 = .ok (.getfield 57, 3) := by decide +kernel
theorem dX7_findOneFold_18 : decode cX7_findOneFold 18 = .ok (.invokevirtual 137, 3) := by decide +kernel
theorem dX7_findOneFold_21 : decode cX7_findOneFold 21 = .ok (.iconst (-1), 1) := by decide +kernel
theorem dX7_findOneFold_22 : decode cX7_findOneFold 22 = .ok (.if_icmp .ne 17, 3) := by decide +kernel
theorem dX7_findOneFold_25 : decode cX7_findOneFold 25 = .ok (.aload_n 0, 1) := by decide +kernel
theorem dX7_findOneFold_26 : decode cX7_findOneFold 26 = .ok (.getfield 36, 3) := by decide +kernel
theorem dX7_findOneFold_29 : decode cX7_findOneFold 29 = .ok (.iload_n 1, 1) := by decide +kernel
theorem dX7_findOneFold_30 : decode cX7_findOneFold 30 = .ok (.iload_n 2, 1) := by decide +kernel
theorem dX7_findOneFold_31 : decode cX7_findOneFold 31 = .ok (.invokevirtual 411, 3) := by decide +kernel
theorem dX7_findOneFold_34 : decode cX7_findOneFold 34 = .ok (.ifCond .eq 5, 3) := by decide +kernel
theorem dX7_findOneFold_37 : decode cX7_findOneFold 37 = .ok (.iconst 1, 1) := by decide +kernel
theorem dX7_findOneFold_38 : decode cX7_findOneFold 38 = .ok (.ireturn, 1) := by decide +kernel
theorem dX7_findOneFold_39 : decode cX7_findOneFold 39 = .ok (.iinc 3 1, 3) := by decide +kernel
theorem dX7_findOneFold_42 : decode cX7_findOneFold 42 = .ok (.goto (-40), 3) := by decide +kernel
theorem dX7_findOneFold_45 : decode cX7_findOneFold 45 = .ok (.iconst 0, 1) := by decide +kernel
theorem dX7_findOneFold_46 : decode cX7_findOneFold 46 = .ok (.ireturn, 1) := by decide +kernel
theorem dX7_findTwoFolds_0 : decode cX7_findTwoFolds 0 = .ok (.iconst 0, 1) := by decide +kernel
theorem dX7_findTwoFolds_1 : decode cX7_findTwoFolds 1 = .ok (.istore_n 3, 1) := by decide +kernel
theorem dX7_findTwoFolds_2 : decode cX7_findTwoFolds 2 = .ok (.iload_n 3, 1) := by decide +kernel
theorem dX7_findTwoFolds_3 : decode cX7_findTwoFolds 3 = .ok (.bipush 18, 2) := by decide +kernel
theorem dX7_findTwoFolds_5 : decode cX7_findTwoFolds 5 = .ok (.if_icmp .ge 37, 3) := by decide +kernel
theorem dX7_findTwoFolds_8 : decode cX7_findTwoFolds 8 = .ok (.aload_n 0, 1) := by decide +kernel
theorem dX7_findTwoFolds_9 : decode cX7_findTwoFolds 9 = .ok (.iload_n 3, 1) := by decide +kernel
theorem dX7_findTwoFolds_10 : decode cX7_findTwoFolds 10 = .ok (.invokevirtual 414, 3) := by decide +kernel
theorem dX7_findTwoFolds_13 : decode cX7_findTwoFolds 13 = .ok (.aload_n 0, 1) := by decide +kernel
theorem dX7_findTwoFolds_14 : decode cX7_findTwoFolds 14 = .ok (.aload_n 0, 1) := by decide +kernel
theorem dX7_findTwoFolds_15 : decode cX7_findTwoFolds 15 = .ok (.getfield 57, 3) := by decide +kernel
theorem dX7_findTwoFolds_18 : decode cX7_findTwoFolds 18 = .ok (.invokevirtual 137, 3) := by decide +kernel
theorem dX7_findTwoFolds_21 : decode cX7_findTwoFolds 21 = .ok (.iconst (-1), 1) := by decide +kernel
theorem dX7_findTwoFolds_22 : decode cX7_findTwoFolds 22 = .ok (.if_icmp .ne 14, 3) := by decide +kernel
theorem dX7_findTwoFolds_25 : decode cX7_findTwoFolds 25 = .ok (.aload_n 0, 1) := by decide +kernel
theorem dX7_findTwoFolds_26 : decode cX7_findTwoFolds 26 = .ok (.iload_n 1, 1) := by decide +kernel
theorem dX7_findTwoFolds_27 : decode cX7_findTwoFolds 27 = .ok (.iload_n 2, 1) := by decide +kernel
theorem dX7_findTwoFolds_28 : decode cX7_findTwoFolds 28 = .ok (.invokevirtual 417, 3) := by decide +kernel
theorem dX7_findTwoFolds_31 : decode cX7_findTwoFolds 31 = .ok (.ifCond .eq 5, 3) := by decide +kernel
theorem dX7_findTwoFolds_34 : decode cX7_findTwoFolds 34 = .ok (.iconst 1, 1) := by decide +kernel
theorem dX7_findTwoFolds_35 : decode cX7_findTwoFolds 35 = .ok (.ireturn, 1) := by decide +kernel
theorem dX7_findTwoFolds_36 : decode cX7_findTwoFolds 36 = .ok (.iinc 3 1, 3) := by decide +kernel
theorem dX7_findTwoFolds_39 : decode cX7_findTwoFolds 39 = .ok (.goto (-37), 3) := by decide +kernel
theorem dX7_findTwoFolds_42 : decode cX7_findTwoFolds 42 = .ok (.iconst 0, 1) := by decide +kernel
theorem dX7_findTwoFolds_43 : decode cX7_findTwoFolds 43 = .ok (.ireturn, 1) := by decide +kernel
theorem dX7_tryFirst_0 : decode cX7_tryFirst 0 = .ok (.aload_n 0, 1) := by decide +kernel
theorem dX7_tryFirst_1 : decode cX7_tryFirst 1 = .ok (.getfield 57, 3) := by decide +kernel
theorem dX7_tryFirst_4 : decode cX7_tryFirst 4 = .ok (.iconst 0, 1) := by decide +kernel
theorem dX7_tryFirst_5 : decode cX7_tryFirst 5 = .ok (.putfield 130, 3) := by decide +kernel
theorem dX7_tryFirst_8 : decode cX7_tryFirst 8 = .ok (.aload_n 0, 1) := by decide +kernel
theorem dX7_tryFirst_9 : decode cX7_tryFirst 9 = .ok (.getfield 57, 3) := by decide +kernel
theorem dX7_tryFirst_12 : decode cX7_tryFirst 12 = .ok (.iload_n 1, 1) := by decide +kernel
theorem dX7_tryFirst_13 : decode cX7_tryFirst 13 = .ok (.invokestatic 420, 3) := by decide +kernel
theorem dX7_tryFirst_16 : decode cX7_tryFirst 16 = .ok (.iload_n 1, 1) := by decide +kernel
theorem dX7_tryFirst_17 : decode cX7_tryFirst 17 = .ok (.invokestatic 423, 3) := by decide +kernel
theorem dX7_tryFirst_20 : decode cX7_tryFirst 20 = .ok (.iconst 0, 1) := by decide +kernel
theorem dX7_tryFirst_21 : decode cX7_tryFirst 21 = .ok (.invokevirtual 218, 3) := by decide +kernel
theorem dX7_tryFirst_24 : decode cX7_tryFirst 24 = .ok (.pop, 1) := by decide +kernel
theorem dX7_tryFirst_25 : decode cX7_tryFirst 25 = .ok (.return_, 1) := by decide +kernel
theorem dX7_findSecond_0 : decode cX7_findSecond 0 = .ok (.aload_n 0, 1) := by decide +kernel
theorem dX7_findSecond_1 : decode cX7_findSecond 1 = .ok (.getfield 40, 3) := by decide +kernel
theorem dX7_findSecond_4 : decode cX7_findSecond 4 = .ok (.aload_n 0, 1) := by decide +kernel
theorem dX7_findSecond_5 : decode cX7_findSecond 5 = .ok (.getfield 36, 3) := by decide +kernel
theorem dX7_findSecond_8 : decode cX7_findSecond 8 = .ok (.invokevirtual 426, 3) := by decide +kernel
theorem dX7_findSecond_11 : decode cX7_findSecond 11 = .ok (.iconst 0, 1) := by decide +kernel
theorem dX7_findSecond_12 : decode cX7_findSecond 12 = .ok (.istore_n 3, 1) := by decide +kernel
theorem dX7_findSecond_13 : decode cX7_findSecond 13 = .ok (.iload_n 3, 1) := by decide +kernel
theorem dX7_findSecond_14 : decode cX7_findSecond 14 = .ok (.bipush 18, 2) := by decide +kernel
theorem dX7_findSecond_16 : decode cX7_findSecond 16 = .ok (.if_icmp .ge 76, 3) := by decide +kernel
theorem dX7_findSecond_19 : decode cX7_findSecond 19 = .ok (.aload_n 0, 1) := by decide +kernel
theorem dX7_findSecond_20 : decode cX7_findSecond 20 = .ok (.getfield 36, 3) := by decide +kernel
theorem dX7_findSecond_23 : decode cX7_findSecond 23 = .ok (.aload_n 0, 1) := by decide +kernel
theorem dX7_findSecond_24 : decode cX7_findSecond 24 = .ok (.getfield 40, 3) := by decide +kernel
theorem dX7_findSecond_27 : decode cX7_findSecond 27 = .ok (.invokevirtual 426, 3) := by decide +kernel
theorem dX7_findSecond_30 : decode cX7_findSecond 30 = .ok (.aload_n 0, 1) := by decide +kernel
theorem dX7_findSecond_31 : decode cX7_findSecond 31 = .ok (.getfield 36, 3) := by decide +kernel
theorem dX7_findSecond_34 : decode cX7_findSecond 34 = .ok (.iload_n 3, 1) := by decide +kernel
theorem dX7_findSecond_35 : decode cX7_findSecond 35 = .ok (.invokestatic 420, 3) := by decide +kernel
theorem dX7_findSecond_38 : decode cX7_findSecond 38 = .ok (.iload_n 3, 1) := by decide +kernel
theorem dX7_findSecond_39 : decode cX7_findSecond 39 = .ok (.invokestatic 423, 3) := by decide +kernel
theorem dX7_findSecond_42 : decode cX7_findSecond 42 = .ok (.invokevirtual 429, 3) := by decide +kernel
theorem dX7_findSecond_45 : decode cX7_findSecond 45 = .ok (.ifCond .eq 41, 3) := by decide +kernel
theorem dX7_findSecond_48 : decode cX7_findSecond 48 = .ok (.aload_n 0, 1) := by decide +kernel
theorem dX7_findSecond_49 : decode cX7_findSecond 49 = .ok (.getfield 36, 3) := by decide +kernel
theorem dX7_findSecond_52 : decode cX7_findSecond 52 = .ok (.invokevirtual 432, 3) := by decide +kernel
theorem dX7_findSecond_55 : decode cX7_findSecond 55 = .ok (.aload_n 0, 1) := by decide +kernel
theorem dX7_findSecond_56 : decode cX7_findSecond 56 = .ok (.getfield 36, 3) := by decide +kernel
theorem dX7_findSecond_59 : decode cX7_findSecond 59 = .ok (.iload_n 1, 1) := by decide +kernel
theorem dX7_findSecond_60 : decode cX7_findSecond 60 = .ok (.iload_n 2, 1) := by decide +kernel
theorem dX7_findSecond_61 : decode cX7_findSecond 61 = .ok (.invokevirtual 411, 3) := by decide +kernel
theorem dX7_findSecond_64 : decode cX7_findSecond 64 = .ok (.ifCond .eq 22, 3) := by decide +kernel
theorem dX7_findSecond_67 : decode cX7_findSecond 67 = .ok (.aload_n 0, 1) := by decide +kernel
theorem dX7_findSecond_68 : decode cX7_findSecond 68 = .ok (.getfield 57, 3) := by decide +kernel
theorem dX7_findSecond_71 : decode cX7_findSecond 71 = .ok (.iload_n 3, 1) := by decide +kernel
theorem dX7_findSecond_72 : decode cX7_findSecond 72 = .ok (.invokestatic 420, 3) := by decide +kernel
theorem dX7_findSecond_75 : decode cX7_findSecond 75 = .ok (.iload_n 3, 1) := by decide +kernel
theorem dX7_findSecond_76 : decode cX7_findSecond 76 = .ok (.invokestatic 423, 3) := by decide +kernel
theorem dX7_findSecond_79 : decode cX7_findSecond 79 = .ok (.iconst 0, 1) := by decide +kernel
theorem dX7_findSecond_80 : decode cX7_findSecond 80 = .ok (.invokevirtual 218, 3) := by decide +kernel
theorem dX7_findSecond_83 : decode cX7_findSecond 83 = .ok (.pop, 1) := by decide +kernel
theorem dX7_findSecond_84 : decode cX7_findSecond 84 = .ok (.iconst 1, 1) := by decide +kernel
theorem dX7_findSecond_85 : decode cX7_findSecond 85 = .ok (.ireturn, 1) := by decide +kernel
theorem dX7_findSecond_86 : decode cX7_findSecond 86 = .ok (.iinc 3 1, 3) := by decide +kernel
theorem dX7_findSecond_89 : decode cX7_findSecond 89 = .ok (.goto (-76), 3) := by decide +kernel
theorem dX7_findSecond_92 : decode cX7_findSecond 92 = .ok (.iconst 0, 1) := by decide +kernel
theorem dX7_findSecond_93 : decode cX7_findSecond 93 = .ok (.ireturn, 1) := by decide +kernel
theorem dX7_triedKind_0 : decode cX7_triedKind 0 = .ok (.iload_n 0, 1) := by decide +kernel
theorem dX7_triedKind_1 : decode cX7_triedKind 1 = .ok (.bipush 6, 2) := by decide +kernel
theorem dX7_triedKind_3 : decode cX7_triedKind 3 = .ok (.idiv, 1) := by decide +kernel
theorem dX7_triedKind_4 : decode cX7_triedKind 4 = .ok (.ireturn, 1) := by decide +kernel
theorem dX7_triedN_0 : decode cX7_triedN 0 = .ok (.iload_n 0, 1) := by decide +kernel
theorem dX7_triedN_1 : decode cX7_triedN 1 = .ok (.bipush 6, 2) := by decide +kernel
theorem dX7_triedN_3 : decode cX7_triedN 3 = .ok (.irem, 1) := by decide +kernel
theorem dX7_triedN_4 : decode cX7_triedN 4 = .ok (.iconst 1, 1) := by decide +kernel
theorem dX7_triedN_5 : decode cX7_triedN 5 = .ok (.iadd, 1) := by decide +kernel
theorem dX7_triedN_6 : decode cX7_triedN 6 = .ok (.ireturn, 1) := by decide +kernel
theorem dX7_isRest_0 : decode cX7_isRest 0 = .ok (.aload_n 0, 1) := by decide +kernel
theorem dX7_isRest_1 : decode cX7_isRest 1 = .ok (.iload_n 1, 1) := by decide +kernel
theorem dX7_isRest_2 : decode cX7_isRest 2 = .ok (.iload_n 2, 1) := by decide +kernel
theorem dX7_isRest_3 : decode cX7_isRest 3 = .ok (.invokevirtual 240, 3) := by decide +kernel
theorem dX7_isRest_6 : decode cX7_isRest 6 = .ok (.istore_n 3, 1) := by decide +kernel
theorem dX7_isRest_7 : decode cX7_isRest 7 = .ok (.iload_n 3, 1) := by decide +kernel
theorem dX7_isRest_8 : decode cX7_isRest 8 = .ok (.ifCond .eq 24, 3) := by decide +kernel
theorem dX7_isRest_11 : decode cX7_isRest 11 = .ok (.iload_n 3, 1) := by decide +kernel
theorem dX7_isRest_12 : decode cX7_isRest 12 = .ok (.ifCond .le 24, 3) := by decide +kernel
theorem dX7_isRest_15 : decode cX7_isRest 15 = .ok (.iload_n 2, 1) := by decide +kernel
theorem dX7_isRest_16 : decode cX7_isRest 16 = .ok (.bipush 8, 2) := by decide +kernel
theorem dX7_isRest_18 : decode cX7_isRest 18 = .ok (.if_icmp .ge 18, 3) := by decide +kernel
theorem dX7_isRest_21 : decode cX7_isRest 21 = .ok (.aload_n 0, 1) := by decide +kernel
theorem dX7_isRest_22 : decode cX7_isRest 22 = .ok (.iload_n 1, 1) := by decide +kernel
theorem dX7_isRest_23 : decode cX7_isRest 23 = .ok (.iload_n 2, 1) := by decide +kernel
theorem dX7_isRest_24 : decode cX7_isRest 24 = .ok (.iconst 1, 1) := by decide +kernel
theorem dX7_isRest_25 : decode cX7_isRest 25 = .ok (.iadd, 1) := by decide +kernel
theorem dX7_isRest_26 : decode cX7_isRest 26 = .ok (.invokevirtual 240, 3) := by decide +kernel
theorem dX7_isRest_29 : decode cX7_isRest 29 = .ok (.ifCond .ge 7, 3) := by decide +kernel
theorem dX7_isRest_32 : decode cX7_isRest 32 = .ok (.iconst 1, 1) := by decide +kernel
theorem dX7_isRest_33 : decode cX7_isRest 33 = .ok (.goto 4, 3) := by decide +kernel
theorem dX7_isRest_36 : decode cX7_isRest 36 = .ok (.iconst 0, 1) := by decide +kernel
theorem dX7_isRest_37 : decode cX7_isRest 37 = .ok (.ireturn, 1) := by decide +kernel
theorem dX7_torque_0 : decode cX7_torque 0 = .ok (.aload_n 0, 1) := by decide +kernel
theorem dX7_torque_1 : decode cX7_torque 1 = .ok (.getfield 12, 3) := by decide +kernel
theorem dX7_torque_4 : decode cX7_torque 4 = .ok (.getfield 120, 3) := by decide +kernel
theorem dX7_torque_7 : decode cX7_torque 7 = .ok (.iconst 0, 1) := by decide +kernel
theorem dX7_torque_8 : decode cX7_torque 8 = .ok (.iload_n 2, 1) := by decide +kernel
theorem dX7_torque_9 : decode cX7_torque 9 = .ok (.invokestatic 328, 3) := by decide +kernel
theorem dX7_torque_12 : decode cX7_torque 12 = .ok (.bipush 8, 2) := by decide +kernel
theorem dX7_torque_14 : decode cX7_torque 14 = .ok (.invokestatic 435, 3) := by decide +kernel
theorem dX7_torque_17 : decode cX7_torque 17 = .ok (.iadd, 1) := by decide +kernel
theorem dX7_torque_18 : decode cX7_torque 18 = .ok (.iaload, 1) := by decide +kernel
theorem dX7_torque_19 : decode cX7_torque 19 = .ok (.istore_n 3, 1) := by decide +kernel
theorem dX7_torque_20 : decode cX7_torque 20 = .ok (.iload_n 2, 1) := by decide +kernel
theorem dX7_torque_21 : decode cX7_torque 21 = .ok (.ifCond .ge 8, 3) := by decide +kernel
theorem dX7_torque_24 : decode cX7_torque 24 = .ok (.iload_n 3, 1) := by decide +kernel
theorem dX7_torque_25 : decode cX7_torque 25 = .ok (.ineg, 1) := by decide +kernel
theorem dX7_torque_26 : decode cX7_torque 26 = .ok (.goto 4, 3) := by decide +kernel
theorem dX7_torque_29 : decode cX7_torque 29 = .ok (.iload_n 3, 1) := by decide +kernel
theorem dX7_torque_30 : decode cX7_torque 30 = .ok (.istore 4, 2) := by decide +kernel
theorem dX7_torque_32 : decode cX7_torque 32 = .ok (.iload_n 1, 1) := by decide +kernel
theorem dX7_torque_33 : decode cX7_torque 33 = .ok (.aload_n 0, 1) := by decide +kernel
theorem dX7_torque_34 : decode cX7_torque 34 = .ok (.getfield 36, 3) := by decide +kernel
theorem dX7_torque_37 : decode cX7_torque 37 = .ok (.aload_n 0, 1) := by decide +kernel
theorem dX7_torque_38 : decode cX7_torque 38 = .ok (.getfield 12, 3) := by decide +kernel
theorem dX7_torque_41 : decode cX7_torque 41 = .ok (.getfield 226, 3) := by decide +kernel
theorem dX7_torque_44 : decode cX7_torque 44 = .ok (.invokevirtual 438, 3) := by decide +kernel
theorem dX7_torque_47 : decode cX7_torque 47 = .ok (.imul, 1) := by decide +kernel
theorem dX7_torque_48 : decode cX7_torque 48 = .ok (.aload_n 0, 1) := by decide +kernel
theorem dX7_torque_49 : decode cX7_torque 49 = .ok (.getfield 12, 3) := by decide +kernel
theorem dX7_torque_52 : decode cX7_torque 52 = .ok (.getfield 120, 3) := by decide +kernel
theorem dX7_torque_55 : decode cX7_torque 55 = .ok (.bipush 19, 2) := by decide +kernel
theorem dX7_torque_57 : decode cX7_torque 57 = .ok (.iaload, 1) := by decide +kernel
theorem dX7_torque_58 : decode cX7_torque 58 = .ok (.imul, 1) := by decide +kernel
theorem dX7_torque_59 : decode cX7_torque 59 = .ok (.aload_n 0, 1) := by decide +kernel
theorem dX7_torque_60 : decode cX7_torque 60 = .ok (.getfield 36, 3) := by decide +kernel
theorem dX7_torque_63 : decode cX7_torque 63 = .ok (.getfield 158, 3) := by decide +kernel
theorem dX7_torque_66 : decode cX7_torque 66 = .ok (.aload_n 0, 1) := by decide +kernel
theorem dX7_torque_67 : decode cX7_torque 67 = .ok (.getfield 36, 3) := by decide +kernel
theorem dX7_torque_70 : decode cX7_torque 70 = .ok (.getfield 146, 3) := by decide +kernel
theorem dX7_torque_73 : decode cX7_torque 73 = .ok (.imul, 1) := by decide +kernel
theorem dX7_torque_74 : decode cX7_torque 74 = .ok (.iload 4, 2) := by decide +kernel
theorem dX7_torque_76 : decode cX7_torque 76 = .ok (.imul, 1) := by decide +kernel
theorem dX7_torque_77 : decode cX7_torque 77 = .ok (.isub, 1) := by decide +kernel
theorem dX7_torque_78 : decode cX7_torque 78 = .ok (.ireturn, 1) := by decide +kernel
theorem dX7_isThrow_0 : decode cX7_isThrow 0 = .ok (.lload_n 0, 1) := by decide +kernel
theorem dX7_isThrow_1 : decode cX7_isThrow 1 = .ok (.ldc2_w 441, 3) := by decide +kernel
theorem dX7_isThrow_4 : decode cX7_isThrow 4 = .ok (.lcmp, 1) := by decide +kernel
theorem dX7_isThrow_5 : decode cX7_isThrow 5 = .ok (.ifCond .lt 47, 3) := by decide +kernel
theorem dX7_isThrow_8 : decode cX7_isThrow 8 = .ok (.lload_n 0, 1) := by decide +kernel
theorem dX7_isThrow_9 : decode cX7_isThrow 9 = .ok (.ldc2_w 443, 3) := by decide +kernel
theorem dX7_isThrow_12 : decode cX7_isThrow 12 = .ok (.lcmp, 1) := by decide +kernel
theorem dX7_isThrow_13 : decode cX7_isThrow 13 = .ok (.ifCond .gt 39, 3) := by decide +kernel
theorem dX7_isThrow_16 : decode cX7_isThrow 16 = .ok (.lload_n 2, 1) := by decide +kernel
theorem dX7_isThrow_17 : decode cX7_isThrow 17 = .ok (.ldc2_w 445, 3) := by decide +kernel
theorem dX7_isThrow_20 : decode cX7_isThrow 20 = .ok (.lcmp, 1) := by decide +kernel
theorem dX7_isThrow_21 : decode cX7_isThrow 21 = .ok (.ifCond .lt 31, 3) := by decide +kernel
theorem dX7_isThrow_24 : decode cX7_isThrow 24 = .ok (.lload_n 2, 1) := by decide +kernel
theorem dX7_isThrow_25 : decode cX7_isThrow 25 = .ok (.ldc2_w 447, 3) := by decide +kernel
theorem dX7_isThrow_28 : decode cX7_isThrow 28 = .ok (.lcmp, 1) := by decide +kernel
theorem dX7_isThrow_29 : decode cX7_isThrow 29 = .ok (.ifCond .gt 23, 3) := by decide +kernel
theorem dX7_isThrow_32 : decode cX7_isThrow 32 = .ok (.lload 4, 2) := by decide +kernel
theorem dX7_isThrow_34 : decode cX7_isThrow 34 = .ok (.lconst 1, 1) := by decide +kernel
theorem dX7_isThrow_35 : decode cX7_isThrow 35 = .ok (.lcmp, 1) := by decide +kernel
theorem dX7_isThrow_36 : decode cX7_isThrow 36 = .ok (.ifCond .lt 16, 3) := by decide +kernel
theorem dX7_isThrow_39 : decode cX7_isThrow 39 = .ok (.lload 4, 2) := by decide +kernel
theorem dX7_isThrow_41 : decode cX7_isThrow 41 = .ok (.ldc2_w 449, 3) := by decide +kernel
theorem dX7_isThrow_44 : decode cX7_isThrow 44 = .ok (.lcmp, 1) := by decide +kernel
theorem dX7_isThrow_45 : decode cX7_isThrow 45 = .ok (.ifCond .gt 7, 3) := by decide +kernel
theorem dX7_isThrow_48 : decode cX7_isThrow 48 = .ok (.iconst 1, 1) := by decide +kernel
theorem dX7_isThrow_49 : decode cX7_isThrow 49 = .ok (.goto 4, 3) := by decide +kernel
theorem dX7_isThrow_52 : decode cX7_isThrow 52 = .ok (.iconst 0, 1) := by decide +kernel
theorem dX7_isThrow_53 : decode cX7_isThrow 53 = .ok (.ireturn, 1) := by decide +kernel
theorem dX7_reachOf_0 : decode cX7_reachOf 0 = .ok (.lconst 0, 1) := by decide +kernel
theorem dX7_reachOf_1 : decode cX7_reachOf 1 = .ok (.lstore 4, 2) := by decide +kernel
theorem dX7_reachOf_3 : decode cX7_reachOf 3 = .ok (.iconst 0, 1) := by decide +kernel
theorem dX7_reachOf_4 : decode cX7_reachOf 4 = .ok (.istore 6, 2) := by decide +kernel
theorem dX7_reachOf_6 : decode cX7_reachOf 6 = .ok (.iload 6, 2) := by decide +kernel
theorem dX7_reachOf_8 : decode cX7_reachOf 8 = .ok (.aload_n 1, 1) := by decide +kernel
theorem dX7_reachOf_9 : decode cX7_reachOf 9 = .ok (.getfield 130, 3) := by decide +kernel
theorem dX7_reachOf_12 : decode cX7_reachOf 12 = .ok (.if_icmp .ge 53, 3) := by decide +kernel
theorem dX7_reachOf_15 : decode cX7_reachOf 15 = .ok (.aload_n 0, 1) := by decide +kernel
theorem dX7_reachOf_16 : decode cX7_reachOf 16 = .ok (.getfield 48, 3) := by decide +kernel
theorem dX7_reachOf_19 : decode cX7_reachOf 19 = .ok (.iload_n 2, 1) := by decide +kernel
theorem dX7_reachOf_20 : decode cX7_reachOf 20 = .ok (.aload_n 1, 1) := by decide +kernel
theorem dX7_reachOf_21 : decode cX7_reachOf 21 = .ok (.iload 6, 2) := by decide +kernel
theorem dX7_reachOf_23 : decode cX7_reachOf 23 = .ok (.iconst 0, 1) := by decide +kernel
theorem dX7_reachOf_24 : decode cX7_reachOf 24 = .ok (.invokevirtual 300, 3) := by decide +kernel
theorem dX7_reachOf_27 : decode cX7_reachOf 27 = .ok (.aload_n 1, 1) := by decide +kernel
theorem dX7_reachOf_28 : decode cX7_reachOf 28 = .ok (.iload 6, 2) := by decide +kernel
theorem dX7_reachOf_30 : decode cX7_reachOf 30 = .ok (.iconst 1, 1) := by decide +kernel
theorem dX7_reachOf_31 : decode cX7_reachOf 31 = .ok (.invokevirtual 300, 3) := by decide +kernel
theorem dX7_reachOf_34 : decode cX7_reachOf 34 = .ok (.invokevirtual 168, 3) := by decide +kernel
theorem dX7_reachOf_37 : decode cX7_reachOf 37 = .ok (.lload 4, 2) := by decide +kernel
theorem dX7_reachOf_39 : decode cX7_reachOf 39 = .ok (.aload_n 1, 1) := by decide +kernel
theorem dX7_reachOf_40 : decode cX7_reachOf 40 = .ok (.iload 6, 2) := by decide +kernel
theorem dX7_reachOf_42 : decode cX7_reachOf 42 = .ok (.iconst 2, 1) := by decide +kernel
theorem dX7_reachOf_43 : decode cX7_reachOf 43 = .ok (.invokevirtual 300, 3) := by decide +kernel
theorem dX7_reachOf_46 : decode cX7_reachOf 46 = .ok (.aload_n 0, 1) := by decide +kernel
theorem dX7_reachOf_47 : decode cX7_reachOf 47 = .ok (.getfield 48, 3) := by decide +kernel
theorem dX7_reachOf_50 : decode cX7_reachOf 50 = .ok (.iload_n 3, 1) := by decide +kernel
theorem dX7_reachOf_51 : decode cX7_reachOf 51 = .ok (.invokevirtual 232, 3) := by decide +kernel
theorem dX7_reachOf_54 : decode cX7_reachOf 54 = .ok (.imul, 1) := by decide +kernel
theorem dX7_reachOf_55 : decode cX7_reachOf 55 = .ok (.i2l, 1) := by decide +kernel
theorem dX7_reachOf_56 : decode cX7_reachOf 56 = .ok (.ladd, 1) := by decide +kernel
theorem dX7_reachOf_57 : decode cX7_reachOf 57 = .ok (.lstore 4, 2) := by decide +kernel
theorem dX7_reachOf_59 : decode cX7_reachOf 59 = .ok (.iinc 6 1, 3) := by decide +kernel
theorem dX7_reachOf_62 : decode cX7_reachOf 62 = .ok (.goto (-56), 3) := by decide +kernel
theorem dX7_reachOf_65 : decode cX7_reachOf 65 = .ok (.lload 4, 2) := by decide +kernel
theorem dX7_reachOf_67 : decode cX7_reachOf 67 = .ok (.lreturn, 1) := by decide +kernel
theorem dX7_bestEarsOf_0 : decode cX7_bestEarsOf 0 = .ok (.iconst 0, 1) := by decide +kernel
theorem dX7_bestEarsOf_1 : decode cX7_bestEarsOf 1 = .ok (.istore_n 3, 1) := by decide +kernel
theorem dX7_bestEarsOf_2 : decode cX7_bestEarsOf 2 = .ok (.aload_n 0, 1) := by decide +kernel
theorem dX7_bestEarsOf_3 : decode cX7_bestEarsOf 3 = .ok (.aload_n 1, 1) := by decide +kernel
theorem dX7_bestEarsOf_4 : decode cX7_bestEarsOf 4 = .ok (.iconst 0, 1) := by decide +kernel
theorem dX7_bestEarsOf_5 : decode cX7_bestEarsOf 5 = .ok (.iload_n 2, 1) := by decide +kernel
theorem dX7_bestEarsOf_6 : decode cX7_bestEarsOf 6 = .ok (.invokevirtual 260, 3) := by decide +kernel
theorem dX7_bestEarsOf_9 : decode cX7_bestEarsOf 9 = .ok (.lstore 4, 2) := by decide +kernel
theorem dX7_bestEarsOf_11 : decode cX7_bestEarsOf 11 = .ok (.iconst 1, 1) := by decide +kernel
theorem dX7_bestEarsOf_12 : decode cX7_bestEarsOf 12 = .ok (.istore 6, 2) := by decide +kernel
theorem dX7_bestEarsOf_14 : decode cX7_bestEarsOf 14 = .ok (.iload 6, 2) := by decide +kernel
theorem dX7_bestEarsOf_16 : decode cX7_bestEarsOf 16 = .ok (.bipush 9, 2) := by decide +kernel
theorem dX7_bestEarsOf_18 : decode cX7_bestEarsOf 18 = .ok (.if_icmp .gt 61, 3) := by decide +kernel
theorem dX7_bestEarsOf_21 : decode cX7_bestEarsOf 21 = .ok (.aload_n 0, 1) := by decide +kernel
theorem dX7_bestEarsOf_22 : decode cX7_bestEarsOf 22 = .ok (.aload_n 1, 1) := by decide +kernel
theorem dX7_bestEarsOf_23 : decode cX7_bestEarsOf 23 = .ok (.iload 6, 2) := by decide +kernel
theorem dX7_bestEarsOf_25 : decode cX7_bestEarsOf 25 = .ok (.ineg, 1) := by decide +kernel
theorem dX7_bestEarsOf_26 : decode cX7_bestEarsOf 26 = .ok (.iload_n 2, 1) := by decide +kernel
theorem dX7_bestEarsOf_27 : decode cX7_bestEarsOf 27 = .ok (.invokevirtual 260, 3) := by decide +kernel
theorem dX7_bestEarsOf_30 : decode cX7_bestEarsOf 30 = .ok (.lstore 7, 2) := by decide +kernel
theorem dX7_bestEarsOf_32 : decode cX7_bestEarsOf 32 = .ok (.lload 7, 2) := by decide +kernel
theorem dX7_bestEarsOf_34 : decode cX7_bestEarsOf 34 = .ok (.lload 4, 2) := by decide +kernel
theorem dX7_bestEarsOf_36 : decode cX7_bestEarsOf 36 = .ok (.lcmp, 1) := by decide +kernel
theorem dX7_bestEarsOf_37 : decode cX7_bestEarsOf 37 = .ok (.ifCond .le 11, 3) := by decide +kernel
theorem dX7_bestEarsOf_40 : decode cX7_bestEarsOf 40 = .ok (.lload 7, 2) := by decide +kernel
theorem dX7_bestEarsOf_42 : decode cX7_bestEarsOf 42 = .ok (.lstore 4, 2) := by decide +kernel
theorem dX7_bestEarsOf_44 : decode cX7_bestEarsOf 44 = .ok (.iload 6, 2) := by decide +kernel
theorem dX7_bestEarsOf_46 : decode cX7_bestEarsOf 46 = .ok (.ineg, 1) := by decide +kernel
theorem dX7_bestEarsOf_47 : decode cX7_bestEarsOf 47 = .ok (.istore_n 3, 1) := by decide +kernel
theorem dX7_bestEarsOf_48 : decode cX7_bestEarsOf 48 = .ok (.aload_n 0, 1) := by decide +kernel
theorem dX7_bestEarsOf_49 : decode cX7_bestEarsOf 49 = .ok (.aload_n 1, 1) := by decide +kernel
theorem dX7_bestEarsOf_50 : decode cX7_bestEarsOf 50 = .ok (.iload 6, 2) := by decide +kernel
theorem dX7_bestEarsOf_52 : decode cX7_bestEarsOf 52 = .ok (.iload_n 2, 1) := by decide +kernel
theorem dX7_bestEarsOf_53 : decode cX7_bestEarsOf 53 = .ok (.invokevirtual 260, 3) := by decide +kernel
theorem dX7_bestEarsOf_56 : decode cX7_bestEarsOf 56 = .ok (.lstore 9, 2) := by decide +kernel
theorem dX7_bestEarsOf_58 : decode cX7_bestEarsOf 58 = .ok (.lload 9, 2) := by decide +kernel
theorem dX7_bestEarsOf_60 : decode cX7_bestEarsOf 60 = .ok (.lload 4, 2) := by decide +kernel
theorem dX7_bestEarsOf_62 : decode cX7_bestEarsOf 62 = .ok (.lcmp, 1) := by decide +kernel
theorem dX7_bestEarsOf_63 : decode cX7_bestEarsOf 63 = .ok (.ifCond .le 10, 3) := by decide +kernel
theorem dX7_bestEarsOf_66 : decode cX7_bestEarsOf 66 = .ok (.lload 9, 2) := by decide +kernel
theorem dX7_bestEarsOf_68 : decode cX7_bestEarsOf 68 = .ok (.lstore 4, 2) := by decide +kernel
theorem dX7_bestEarsOf_70 : decode cX7_bestEarsOf 70 = .ok (.iload 6, 2) := by decide +kernel
theorem dX7_bestEarsOf_72 : decode cX7_bestEarsOf 72 = .ok (.istore_n 3, 1) := by decide +kernel
theorem dX7_bestEarsOf_73 : decode cX7_bestEarsOf 73 = .ok (.iinc 6 1, 3) := by decide +kernel
theorem dX7_bestEarsOf_76 : decode cX7_bestEarsOf 76 = .ok (.goto (-62), 3) := by decide +kernel
theorem dX7_bestEarsOf_79 : decode cX7_bestEarsOf 79 = .ok (.iload_n 3, 1) := by decide +kernel
theorem dX7_bestEarsOf_80 : decode cX7_bestEarsOf 80 = .ok (.ireturn, 1) := by decide +kernel
theorem dX7_findBestChange_0 : decode cX7_findBestChange 0 = .ok (.aload_n 0, 1) := by decide +kernel
theorem dX7_findBestChange_1 : decode cX7_findBestChange 1 = .ok (.getfield 68, 3) := by decide +kernel
theorem dX7_findBestChange_4 : decode cX7_findBestChange 4 = .ok (.iconst (-1), 1) := by decide +kernel
theorem dX7_findBestChange_5 : decode cX7_findBestChange 5 = .ok (.putfield 275, 3) := by decide +kernel
theorem dX7_findBestChange_8 : decode cX7_findBestChange 8 = .ok (.aload_n 0, 1) := by decide +kernel
theorem dX7_findBestChange_9 : decode cX7_findBestChange 9 = .ok (.getfield 57, 3) := by decide +kernel
theorem dX7_findBestChange_12 : decode cX7_findBestChange 12 = .ok (.aload_n 1, 1) := by decide +kernel
theorem dX7_findBestChange_13 : decode cX7_findBestChange 13 = .ok (.invokevirtual 451, 3) := by decide +kernel
theorem dX7_findBestChange_16 : decode cX7_findBestChange 16 = .ok (.iconst 0, 1) := by decide +kernel
theorem dX7_findBestChange_17 : decode cX7_findBestChange 17 = .ok (.istore 5, 2) := by decide +kernel
theorem dX7_findBestChange_19 : decode cX7_findBestChange 19 = .ok (.iload 5, 2) := by decide +kernel
theorem dX7_findBestChange_21 : decode cX7_findBestChange 21 = .ok (.aload_n 1, 1) := by decide +kernel
theorem dX7_findBestChange_22 : decode cX7_findBestChange 22 = .ok (.getfield 130, 3) := by decide +kernel
theorem dX7_findBestChange_25 : decode cX7_findBestChange 25 = .ok (.if_icmp .ge 129, 3) := by decide +kernel
theorem dX7_findBestChange_28 : decode cX7_findBestChange 28 = .ok (.aload_n 1, 1) := by decide +kernel
theorem dX7_findBestChange_29 : decode cX7_findBestChange 29 = .ok (.iload 5, 2) := by decide +kernel
theorem dX7_findBestChange_31 : decode cX7_findBestChange 31 = .ok (.iconst 0, 1) := by decide +kernel
theorem dX7_findBestChange_32 : decode cX7_findBestChange 32 = .ok (.invokevirtual 300, 3) := by decide +kernel
theorem dX7_findBestChange_35 : decode cX7_findBestChange 35 = .ok (.istore 6, 2) := by decide +kernel
theorem dX7_findBestChange_37 : decode cX7_findBestChange 37 = .ok (.aload_n 1, 1) := by decide +kernel
theorem dX7_findBestChange_38 : decode cX7_findBestChange 38 = .ok (.iload 5, 2) := by decide +kernel
theorem dX7_findBestChange_40 : decode cX7_findBestChange 40 = .ok (.iconst 1, 1) := by decide +kernel
theorem dX7_findBestChange_41 : decode cX7_findBestChange 41 = .ok (.invokevirtual 300, 3) := by decide +kernel
theorem dX7_findBestChange_44 : decode cX7_findBestChange 44 = .ok (.istore 7, 2) := by decide +kernel
theorem dX7_findBestChange_46 : decode cX7_findBestChange 46 = .ok (.iconst 0, 1) := by decide +kernel
theorem dX7_findBestChange_47 : decode cX7_findBestChange 47 = .ok (.istore 8, 2) := by decide +kernel
theorem dX7_findBestChange_49 : decode cX7_findBestChange 49 = .ok (.iload 8, 2) := by decide +kernel
theorem dX7_findBestChange_51 : decode cX7_findBestChange 51 = .ok (.bipush 18, 2) := by decide +kernel
theorem dX7_findBestChange_53 : decode cX7_findBestChange 53 = .ok (.if_icmp .ge 82, 3) := by decide +kernel
theorem dX7_findBestChange_56 : decode cX7_findBestChange 56 = .ok (.iload 8, 2) := by decide +kernel
theorem dX7_findBestChange_58 : decode cX7_findBestChange 58 = .ok (.invokestatic 420, 3) := by decide +kernel
theorem dX7_findBestChange_61 : decode cX7_findBestChange 61 = .ok (.iload 6, 2) := by decide +kernel
theorem dX7_findBestChange_63 : decode cX7_findBestChange 63 = .ok (.if_icmp .ne 16, 3) := by decide +kernel
theorem dX7_findBestChange_66 : decode cX7_findBestChange 66 = .ok (.iload 8, 2) := by decide +kernel
theorem dX7_findBestChange_68 : decode cX7_findBestChange 68 = .ok (.invokestatic 423, 3) := by decide +kernel
theorem dX7_findBestChange_71 : decode cX7_findBestChange 71 = .ok (.iload 7, 2) := by decide +kernel
theorem dX7_findBestChange_73 : decode cX7_findBestChange 73 = .ok (.if_icmp .ne 6, 3) := by decide +kernel
theorem dX7_findBestChange_76 : decode cX7_findBestChange 76 = .ok (.goto 53, 3) := by decide +kernel
theorem dX7_findBestChange_79 : decode cX7_findBestChange 79 = .ok (.aload_n 0, 1) := by decide +kernel
theorem dX7_findBestChange_80 : decode cX7_findBestChange 80 = .ok (.getfield 57, 3) := by decide +kernel
theorem dX7_findBestChange_83 : decode cX7_findBestChange 83 = .ok (.iload 5, 2) := by decide +kernel
theorem dX7_findBestChange_85 : decode cX7_findBestChange 85 = .ok (.iload 8, 2) := by decide +kernel
theorem dX7_findBestChange_87 : decode cX7_findBestChange 87 = .ok (.invokestatic 420, 3) := by decide +kernel
theorem dX7_findBestChange_90 : decode cX7_findBestChange 90 = .ok (.iload 8, 2) := by decide +kernel
theorem dX7_findBestChange_92 : decode cX7_findBestChange 92 = .ok (.invokestatic 423, 3) := by decide +kernel
theorem dX7_findBestChange_95 : decode cX7_findBestChange 95 = .ok (.invokevirtual 290, 3) := by decide +kernel
theorem dX7_findBestChange_98 : decode cX7_findBestChange 98 = .ok (.aload_n 0, 1) := by decide +kernel
theorem dX7_findBestChange_99 : decode cX7_findBestChange 99 = .ok (.aload_n 0, 1) := by decide +kernel
theorem dX7_findBestChange_100 : decode cX7_findBestChange 100 = .ok (.getfield 57, 3) := by decide +kernel
theorem dX7_findBestChange_103 : decode cX7_findBestChange 103 = .ok (.invokevirtual 137, 3) := by decide +kernel
theorem dX7_findBestChange_106 : decode cX7_findBestChange 106 = .ok (.iconst (-1), 1) := by decide +kernel
theorem dX7_findBestChange_107 : decode cX7_findBestChange 107 = .ok (.if_icmp .ne 22, 3) := by decide +kernel
theorem dX7_findBestChange_110 : decode cX7_findBestChange 110 = .ok (.aload_n 0, 1) := by decide +kernel
theorem dX7_findBestChange_111 : decode cX7_findBestChange 111 = .ok (.getfield 68, 3) := by decide +kernel
theorem dX7_findBestChange_114 : decode cX7_findBestChange 114 = .ok (.iload 5, 2) := by decide +kernel
theorem dX7_findBestChange_116 : decode cX7_findBestChange 116 = .ok (.iload 8, 2) := by decide +kernel
theorem dX7_findBestChange_118 : decode cX7_findBestChange 118 = .ok (.aload_n 0, 1) := by decide +kernel
theorem dX7_findBestChange_119 : decode cX7_findBestChange 119 = .ok (.aload_n 2, 1) := by decide +kernel
theorem dX7_findBestChange_120 : decode cX7_findBestChange 120 = .ok (.iload_n 3, 1) := by decide +kernel
theorem dX7_findBestChange_121 : decode cX7_findBestChange 121 = .ok (.iload 4, 2) := by decide +kernel
theorem dX7_findBestChange_123 : decode cX7_findBestChange 123 = .ok (.invokevirtual 260, 3) := by decide +kernel
theorem dX7_findBestChange_126 : decode cX7_findBestChange 126 = .ok (.invokevirtual 453, 3) := by decide +kernel
theorem dX7_findBestChange_129 : decode cX7_findBestChange 129 = .ok (.iinc 8 1, 3) := by decide +kernel
theorem dX7_findBestChange_132 : decode cX7_findBestChange 132 = .ok (.goto (-83), 3) := by decide +kernel
theorem dX7_findBestChange_135 : decode cX7_findBestChange 135 = .ok (.aload_n 0, 1) := by decide +kernel
theorem dX7_findBestChange_136 : decode cX7_findBestChange 136 = .ok (.getfield 57, 3) := by decide +kernel
theorem dX7_findBestChange_139 : decode cX7_findBestChange 139 = .ok (.iload 5, 2) := by decide +kernel
theorem dX7_findBestChange_141 : decode cX7_findBestChange 141 = .ok (.iload 6, 2) := by decide +kernel
theorem dX7_findBestChange_143 : decode cX7_findBestChange 143 = .ok (.iload 7, 2) := by decide +kernel
theorem dX7_findBestChange_145 : decode cX7_findBestChange 145 = .ok (.invokevirtual 290, 3) := by decide +kernel
theorem dX7_findBestChange_148 : decode cX7_findBestChange 148 = .ok (.iinc 5 1, 3) := by decide +kernel
theorem dX7_findBestChange_151 : decode cX7_findBestChange 151 = .ok (.goto (-132), 3) := by decide +kernel
theorem dX7_findBestChange_154 : decode cX7_findBestChange 154 = .ok (.return_, 1) := by decide +kernel
theorem dX7_power_0 : decode cX7_power 0 = .ok (.lconst 1, 1) := by decide +kernel
theorem dX7_power_1 : decode cX7_power 1 = .ok (.lstore_n 3, 1) := by decide +kernel
theorem dX7_power_2 : decode cX7_power 2 = .ok (.iconst 0, 1) := by decide +kernel
theorem dX7_power_3 : decode cX7_power 3 = .ok (.istore 5, 2) := by decide +kernel
theorem dX7_power_5 : decode cX7_power 5 = .ok (.iload 5, 2) := by decide +kernel
theorem dX7_power_7 : decode cX7_power 7 = .ok (.iload_n 2, 1) := by decide +kernel
theorem dX7_power_8 : decode cX7_power 8 = .ok (.if_icmp .ge 13, 3) := by decide +kernel
theorem dX7_power_11 : decode cX7_power 11 = .ok (.lload_n 3, 1) := by decide +kernel
theorem dX7_power_12 : decode cX7_power 12 = .ok (.lload_n 0, 1) := by decide +kernel
theorem dX7_power_13 : decode cX7_power 13 = .ok (.lmul, 1) := by decide +kernel
theorem dX7_power_14 : decode cX7_power 14 = .ok (.lstore_n 3, 1) := by decide +kernel
theorem dX7_power_15 : decode cX7_power 15 = .ok (.iinc 5 1, 3) := by decide +kernel
theorem dX7_power_18 : decode cX7_power 18 = .ok (.goto (-13), 3) := by decide +kernel
theorem dX7_power_21 : decode cX7_power 21 = .ok (.lload_n 3, 1) := by decide +kernel
theorem dX7_power_22 : decode cX7_power 22 = .ok (.lreturn, 1) := by decide +kernel
theorem dX7_allEntriesThrow_0 : decode cX7_allEntriesThrow 0 = .ok (.iconst 0, 1) := by decide +kernel
theorem dX7_allEntriesThrow_1 : decode cX7_allEntriesThrow 1 = .ok (.istore_n 1, 1) := by decide +kernel
theorem dX7_allEntriesThrow_2 : decode cX7_allEntriesThrow 2 = .ok (.iload_n 1, 1) := by decide +kernel
theorem dX7_allEntriesThrow_3 : decode cX7_allEntriesThrow 3 = .ok (.aload_n 0, 1) := by decide +kernel
theorem dX7_allEntriesThrow_4 : decode cX7_allEntriesThrow 4 = .ok (.getfield 12, 3) := by decide +kernel
theorem dX7_allEntriesThrow_7 : decode cX7_allEntriesThrow 7 = .ok (.getfield 307, 3) := by decide +kernel
theorem dX7_allEntriesThrow_10 : decode cX7_allEntriesThrow 10 = .ok (.getfield 130, 3) := by decide +kernel
theorem dX7_allEntriesThrow_13 : decode cX7_allEntriesThrow 13 = .ok (.if_icmp .ge 159, 3) := by decide +kernel
theorem dX7_allEntriesThrow_16 : decode cX7_allEntriesThrow 16 = .ok (.aload_n 0, 1) := by decide +kernel
theorem dX7_allEntriesThrow_17 : decode cX7_allEntriesThrow 17 = .ok (.getfield 12, 3) := by decide +kernel
theorem dX7_allEntriesThrow_20 : decode cX7_allEntriesThrow 20 = .ok (.aload_n 0, 1) := by decide +kernel
theorem dX7_allEntriesThrow_21 : decode cX7_allEntriesThrow 21 = .ok (.getfield 12, 3) := by decide +kernel
theorem dX7_allEntriesThrow_24 : decode cX7_allEntriesThrow 24 = .ok (.getfield 307, 3) := by decide +kernel
theorem dX7_allEntriesThrow_27 : decode cX7_allEntriesThrow 27 = .ok (.iload_n 1, 1) := by decide +kernel
theorem dX7_allEntriesThrow_28 : decode cX7_allEntriesThrow 28 = .ok (.iconst 0, 1) := by decide +kernel
theorem dX7_allEntriesThrow_29 : decode cX7_allEntriesThrow 29 = .ok (.invokevirtual 300, 3) := by decide +kernel
theorem dX7_allEntriesThrow_32 : decode cX7_allEntriesThrow 32 = .ok (.invokevirtual 268, 3) := by decide +kernel
theorem dX7_allEntriesThrow_35 : decode cX7_allEntriesThrow 35 = .ok (.astore_n 2, 1) := by decide +kernel
theorem dX7_allEntriesThrow_36 : decode cX7_allEntriesThrow 36 = .ok (.aload_n 0, 1) := by decide +kernel
theorem dX7_allEntriesThrow_37 : decode cX7_allEntriesThrow 37 = .ok (.getfield 12, 3) := by decide +kernel
theorem dX7_allEntriesThrow_40 : decode cX7_allEntriesThrow 40 = .ok (.aload_n 0, 1) := by decide +kernel
theorem dX7_allEntriesThrow_41 : decode cX7_allEntriesThrow 41 = .ok (.getfield 12, 3) := by decide +kernel
theorem dX7_allEntriesThrow_44 : decode cX7_allEntriesThrow 44 = .ok (.getfield 307, 3) := by decide +kernel
theorem dX7_allEntriesThrow_47 : decode cX7_allEntriesThrow 47 = .ok (.iload_n 1, 1) := by decide +kernel
theorem dX7_allEntriesThrow_48 : decode cX7_allEntriesThrow 48 = .ok (.iconst 2, 1) := by decide +kernel
theorem dX7_allEntriesThrow_49 : decode cX7_allEntriesThrow 49 = .ok (.invokevirtual 300, 3) := by decide +kernel
theorem dX7_allEntriesThrow_52 : decode cX7_allEntriesThrow 52 = .ok (.invokevirtual 318, 3) := by decide +kernel
theorem dX7_allEntriesThrow_55 : decode cX7_allEntriesThrow 55 = .ok (.astore_n 3, 1) := by decide +kernel
theorem dX7_allEntriesThrow_56 : decode cX7_allEntriesThrow 56 = .ok (.aload_n 2, 1) := by decide +kernel
theorem dX7_allEntriesThrow_57 : decode cX7_allEntriesThrow 57 = .ok (.ifnull 23, 3) := by decide +kernel
theorem dX7_allEntriesThrow_60 : decode cX7_allEntriesThrow 60 = .ok (.aload_n 3, 1) := by decide +kernel
theorem dX7_allEntriesThrow_61 : decode cX7_allEntriesThrow 61 = .ok (.ifnull 19, 3) := by decide +kernel
theorem dX7_allEntriesThrow_64 : decode cX7_allEntriesThrow 64 = .ok (.aload_n 3, 1) := by decide +kernel
theorem dX7_allEntriesThrow_65 : decode cX7_allEntriesThrow 65 = .ok (.getfield 130, 3) := by decide +kernel
theorem dX7_allEntriesThrow_68 : decode cX7_allEntriesThrow 68 = .ok (.ifCond .eq 12, 3) := by decide +kernel
theorem dX7_allEntriesThrow_71 : decode cX7_allEntriesThrow 71 = .ok (.aload_n 0, 1) := by decide +kernel
theorem dX7_allEntriesThrow_72 : decode cX7_allEntriesThrow 72 = .ok (.aload_n 2, 1) := by decide +kernel
theorem dX7_allEntriesThrow_73 : decode cX7_allEntriesThrow 73 = .ok (.invokevirtual 137, 3) := by decide +kernel
theorem dX7_allEntriesThrow_76 : decode cX7_allEntriesThrow 76 = .ok (.iconst (-1), 1) := by decide +kernel
theorem dX7_allEntriesThrow_77 : decode cX7_allEntriesThrow 77 = .ok (.if_icmp .eq 5, 3) := by decide +kernel
theorem dX7_allEntriesThrow_80 : decode cX7_allEntriesThrow 80 = .ok (.iconst 0, 1) := by decide +kernel
theorem dX7_allEntriesThrow_81 : decode cX7_allEntriesThrow 81 = .ok (.ireturn, 1) := by decide +kernel
theorem dX7_allEntriesThrow_82 : decode cX7_allEntriesThrow 82 = .ok (.aload_n 0, 1) := by decide +kernel
theorem dX7_allEntriesThrow_83 : decode cX7_allEntriesThrow 83 = .ok (.getfield 12, 3) := by decide +kernel
theorem dX7_allEntriesThrow_86 : decode cX7_allEntriesThrow 86 = .ok (.getfield 307, 3) := by decide +kernel
theorem dX7_allEntriesThrow_89 : decode cX7_allEntriesThrow 89 = .ok (.iload_n 1, 1) := by decide +kernel
theorem dX7_allEntriesThrow_90 : decode cX7_allEntriesThrow 90 = .ok (.iconst 1, 1) := by decide +kernel
theorem dX7_allEntriesThrow_91 : decode cX7_allEntriesThrow 91 = .ok (.invokevirtual 300, 3) := by decide +kernel
theorem dX7_allEntriesThrow_94 : decode cX7_allEntriesThrow 94 = .ok (.istore 4, 2) := by decide +kernel
theorem dX7_allEntriesThrow_96 : decode cX7_allEntriesThrow 96 = .ok (.iconst 0, 1) := by decide +kernel
theorem dX7_allEntriesThrow_97 : decode cX7_allEntriesThrow 97 = .ok (.istore 5, 2) := by decide +kernel
theorem dX7_allEntriesThrow_99 : decode cX7_allEntriesThrow 99 = .ok (.iload 5, 2) := by decide +kernel
theorem dX7_allEntriesThrow_101 : decode cX7_allEntriesThrow 101 = .ok (.aload_n 3, 1) := by decide +kernel
theorem dX7_allEntriesThrow_102 : decode cX7_allEntriesThrow 102 = .ok (.getfield 130, 3) := by decide +kernel
theorem dX7_allEntriesThrow_105 : decode cX7_allEntriesThrow 105 = .ok (.if_icmp .ge 61, 3) := by decide +kernel
theorem dX7_allEntriesThrow_108 : decode cX7_allEntriesThrow 108 = .ok (.iload 5, 2) := by decide +kernel
theorem dX7_allEntriesThrow_110 : decode cX7_allEntriesThrow 110 = .ok (.iconst 4, 1) := by decide +kernel
theorem dX7_allEntriesThrow_111 : decode cX7_allEntriesThrow 111 = .ok (.if_icmp .ge 55, 3) := by decide +kernel
theorem dX7_allEntriesThrow_114 : decode cX7_allEntriesThrow 114 = .ok (.iload_n 1, 1) := by decide +kernel
theorem dX7_allEntriesThrow_115 : decode cX7_allEntriesThrow 115 = .ok (.iconst 4, 1) := by decide +kernel
theorem dX7_allEntriesThrow_116 : decode cX7_allEntriesThrow 116 = .ok (.if_icmp .ge 50, 3) := by decide +kernel
theorem dX7_allEntriesThrow_119 : decode cX7_allEntriesThrow 119 = .ok (.aload_n 0, 1) := by decide +kernel
theorem dX7_allEntriesThrow_120 : decode cX7_allEntriesThrow 120 = .ok (.getfield 48, 3) := by decide +kernel
theorem dX7_allEntriesThrow_123 : decode cX7_allEntriesThrow 123 = .ok (.iload 4, 2) := by decide +kernel
theorem dX7_allEntriesThrow_125 : decode cX7_allEntriesThrow 125 = .ok (.aload_n 3, 1) := by decide +kernel
theorem dX7_allEntriesThrow_126 : decode cX7_allEntriesThrow 126 = .ok (.iload 5, 2) := by decide +kernel
theorem dX7_allEntriesThrow_128 : decode cX7_allEntriesThrow 128 = .ok (.iconst 0, 1) := by decide +kernel
theorem dX7_allEntriesThrow_129 : decode cX7_allEntriesThrow 129 = .ok (.invokevirtual 300, 3) := by decide +kernel
theorem dX7_allEntriesThrow_132 : decode cX7_allEntriesThrow 132 = .ok (.aload_n 3, 1) := by decide +kernel
theorem dX7_allEntriesThrow_133 : decode cX7_allEntriesThrow 133 = .ok (.iload 5, 2) := by decide +kernel
theorem dX7_allEntriesThrow_135 : decode cX7_allEntriesThrow 135 = .ok (.iconst 1, 1) := by decide +kernel
theorem dX7_allEntriesThrow_136 : decode cX7_allEntriesThrow 136 = .ok (.invokevirtual 300, 3) := by decide +kernel
theorem dX7_allEntriesThrow_139 : decode cX7_allEntriesThrow 139 = .ok (.invokevirtual 168, 3) := by decide +kernel
theorem dX7_allEntriesThrow_142 : decode cX7_allEntriesThrow 142 = .ok (.aload_n 0, 1) := by decide +kernel
theorem dX7_allEntriesThrow_143 : decode cX7_allEntriesThrow 143 = .ok (.getfield 72, 3) := by decide +kernel
theorem dX7_allEntriesThrow_146 : decode cX7_allEntriesThrow 146 = .ok (.iload_n 1, 1) := by decide +kernel
theorem dX7_allEntriesThrow_147 : decode cX7_allEntriesThrow 147 = .ok (.iconst 4, 1) := by decide +kernel
theorem dX7_allEntriesThrow_148 : decode cX7_allEntriesThrow 148 = .ok (.imul, 1) := by decide +kernel
theorem dX7_allEntriesThrow_149 : decode cX7_allEntriesThrow 149 = .ok (.iload 5, 2) := by decide +kernel
theorem dX7_allEntriesThrow_151 : decode cX7_allEntriesThrow 151 = .ok (.iadd, 1) := by decide +kernel
theorem dX7_allEntriesThrow_152 : decode cX7_allEntriesThrow 152 = .ok (.aload_n 0, 1) := by decide +kernel
theorem dX7_allEntriesThrow_153 : decode cX7_allEntriesThrow 153 = .ok (.getfield 48, 3) := by decide +kernel
theorem dX7_allEntriesThrow_156 : decode cX7_allEntriesThrow 156 = .ok (.getfield 171, 3) := by decide +kernel
theorem dX7_allEntriesThrow_159 : decode cX7_allEntriesThrow 159 = .ok (.iastore, 1) := by decide +kernel
theorem dX7_allEntriesThrow_160 : decode cX7_allEntriesThrow 160 = .ok (.iinc 5 1, 3) := by decide +kernel
theorem dX7_allEntriesThrow_163 : decode cX7_allEntriesThrow 163 = .ok (.goto (-64), 3) := by decide +kernel
theorem dX7_allEntriesThrow_166 : decode cX7_allEntriesThrow 166 = .ok (.iinc 1 1, 3) := by decide +kernel
theorem dX7_allEntriesThrow_169 : decode cX7_allEntriesThrow 169 = .ok (.goto (-167), 3) := by decide +kernel
theorem dX7_allEntriesThrow_172 : decode cX7_allEntriesThrow 172 = .ok (.iconst 1, 1) := by decide +kernel
theorem dX7_allEntriesThrow_173 : decode cX7_allEntriesThrow 173 = .ok (.ireturn, 1) := by decide +kernel
theorem dX7_farOf_0 : decode cX7_farOf 0 = .ok (.iload_n 1, 1) := by decide +kernel
theorem dX7_farOf_1 : decode cX7_farOf 1 = .ok (.iconst 4, 1) := by decide +kernel
theorem dX7_farOf_2 : decode cX7_farOf 2 = .ok (.imul, 1) := by decide +kernel
theorem dX7_farOf_3 : decode cX7_farOf 3 = .ok (.iload_n 2, 1) := by decide +kernel
theorem dX7_farOf_4 : decode cX7_farOf 4 = .ok (.iadd, 1) := by decide +kernel
theorem dX7_farOf_5 : decode cX7_farOf 5 = .ok (.istore_n 3, 1) := by decide +kernel
theorem dX7_farOf_6 : decode cX7_farOf 6 = .ok (.iload_n 3, 1) := by decide +kernel
theorem dX7_farOf_7 : decode cX7_farOf 7 = .ok (.ifCond .lt 21, 3) := by decide +kernel
theorem dX7_farOf_10 : decode cX7_farOf 10 = .ok (.iload_n 3, 1) := by decide +kernel
theorem dX7_farOf_11 : decode cX7_farOf 11 = .ok (.aload_n 0, 1) := by decide +kernel
theorem dX7_farOf_12 : decode cX7_farOf 12 = .ok (.getfield 72, 3) := by decide +kernel
theorem dX7_farOf_15 : decode cX7_farOf 15 = .ok (.arraylength, 1) := by decide +kernel
theorem dX7_farOf_16 : decode cX7_farOf 16 = .ok (.if_icmp .ge 12, 3) := by decide +kernel
theorem dX7_farOf_19 : decode cX7_farOf 19 = .ok (.aload_n 0, 1) := by decide +kernel
theorem dX7_farOf_20 : decode cX7_farOf 20 = .ok (.getfield 72, 3) := by decide +kernel
theorem dX7_farOf_23 : decode cX7_farOf 23 = .ok (.iload_n 3, 1) := by decide +kernel
theorem dX7_farOf_24 : decode cX7_farOf 24 = .ok (.iaload, 1) := by decide +kernel
theorem dX7_farOf_25 : decode cX7_farOf 25 = .ok (.goto 4, 3) := by decide +kernel
theorem dX7_farOf_28 : decode cX7_farOf 28 = .ok (.iconst 0, 1) := by decide +kernel
theorem dX7_farOf_29 : decode cX7_farOf 29 = .ok (.ireturn, 1) := by decide +kernel
theorem dX7_rowsBelow_0 : decode cX7_rowsBelow 0 = .ok (.lconst 1, 1) := by decide +kernel
theorem dX7_rowsBelow_1 : decode cX7_rowsBelow 1 = .ok (.lstore_n 3, 1) := by decide +kernel
theorem dX7_rowsBelow_2 : decode cX7_rowsBelow 2 = .ok (.iconst 0, 1) := by decide +kernel
theorem dX7_rowsBelow_3 : decode cX7_rowsBelow 3 = .ok (.istore 5, 2) := by decide +kernel
theorem dX7_rowsBelow_5 : decode cX7_rowsBelow 5 = .ok (.iload 5, 2) := by decide +kernel
theorem dX7_rowsBelow_7 : decode cX7_rowsBelow 7 = .ok (.aload_n 0, 1) := by decide +kernel
theorem dX7_rowsBelow_8 : decode cX7_rowsBelow 8 = .ok (.getfield 12, 3) := by decide +kernel
theorem dX7_rowsBelow_11 : decode cX7_rowsBelow 11 = .ok (.getfield 307, 3) := by decide +kernel
theorem dX7_rowsBelow_14 : decode cX7_rowsBelow 14 = .ok (.getfield 130, 3) := by decide +kernel
theorem dX7_rowsBelow_17 : decode cX7_rowsBelow 17 = .ok (.if_icmp .ge 26, 3) := by decide +kernel
theorem dX7_rowsBelow_20 : decode cX7_rowsBelow 20 = .ok (.iload 5, 2) := by decide +kernel
theorem dX7_rowsBelow_22 : decode cX7_rowsBelow 22 = .ok (.iload_n 1, 1) := by decide +kernel
theorem dX7_rowsBelow_23 : decode cX7_rowsBelow 23 = .ok (.if_icmp .eq 14, 3) := by decide +kernel
theorem dX7_rowsBelow_26 : decode cX7_rowsBelow 26 = .ok (.lload_n 3, 1) := by decide +kernel
theorem dX7_rowsBelow_27 : decode cX7_rowsBelow 27 = .ok (.aload_n 0, 1) := by decide +kernel
theorem dX7_rowsBelow_28 : decode cX7_rowsBelow 28 = .ok (.iload 5, 2) := by decide +kernel
theorem dX7_rowsBelow_30 : decode cX7_rowsBelow 30 = .ok (.iload_n 2, 1) := by decide +kernel
theorem dX7_rowsBelow_31 : decode cX7_rowsBelow 31 = .ok (.invokevirtual 457, 3) := by decide +kernel
theorem dX7_rowsBelow_34 : decode cX7_rowsBelow 34 = .ok (.i2l, 1) := by decide +kernel
theorem dX7_rowsBelow_35 : decode cX7_rowsBelow 35 = .ok (.lmul, 1) := by decide +kernel
theorem dX7_rowsBelow_36 : decode cX7_rowsBelow 36 = .ok (.lstore_n 3, 1) := by decide +kernel
theorem dX7_rowsBelow_37 : decode cX7_rowsBelow 37 = .ok (.iinc 5 1, 3) := by decide +kernel
theorem dX7_rowsBelow_40 : decode cX7_rowsBelow 40 = .ok (.goto (-35), 3) := by decide +kernel
theorem dX7_rowsBelow_43 : decode cX7_rowsBelow 43 = .ok (.lload_n 3, 1) := by decide +kernel
theorem dX7_rowsBelow_44 : decode cX7_rowsBelow 44 = .ok (.lreturn, 1) := by decide +kernel
theorem dX7_chancesBelow_0 : decode cX7_chancesBelow 0 = .ok (.aload_n 0, 1) := by decide +kernel
theorem dX7_chancesBelow_1 : decode cX7_chancesBelow 1 = .ok (.getfield 12, 3) := by decide +kernel
theorem dX7_chancesBelow_4 : decode cX7_chancesBelow 4 = .ok (.aload_n 0, 1) := by decide +kernel
theorem dX7_chancesBelow_5 : decode cX7_chancesBelow 5 = .ok (.getfield 12, 3) := by decide +kernel
theorem dX7_chancesBelow_8 : decode cX7_chancesBelow 8 = .ok (.getfield 307, 3) := by decide +kernel
theorem dX7_chancesBelow_11 : decode cX7_chancesBelow 11 = .ok (.iload_n 1, 1) := by decide +kernel
theorem dX7_chancesBelow_12 : decode cX7_chancesBelow 12 = .ok (.iconst 2, 1) := by decide +kernel
theorem dX7_chancesBelow_13 : decode cX7_chancesBelow 13 = .ok (.invokevirtual 300, 3) := by decide +kernel
theorem dX7_chancesBelow_16 : decode cX7_chancesBelow 16 = .ok (.invokevirtual 318, 3) := by decide +kernel
theorem dX7_chancesBelow_19 : decode cX7_chancesBelow 19 = .ok (.astore_n 3, 1) := by decide +kernel
theorem dX7_chancesBelow_20 : decode cX7_chancesBelow 20 = .ok (.aload_n 3, 1) := by decide +kernel
theorem dX7_chancesBelow_21 : decode cX7_chancesBelow 21 = .ok (.ifnonnull 5, 3) := by decide +kernel
theorem dX7_chancesBelow_24 : decode cX7_chancesBelow 24 = .ok (.iconst 0, 1) := by decide +kernel
theorem dX7_chancesBelow_25 : decode cX7_chancesBelow 25 = .ok (.ireturn, 1) := by decide +kernel
theorem dX7_chancesBelow_26 : decode cX7_chancesBelow 26 = .ok (.iconst 0, 1) := by decide +kernel
theorem dX7_chancesBelow_27 : decode cX7_chancesBelow 27 = .ok (.istore 4, 2) := by decide +kernel
theorem dX7_chancesBelow_29 : decode cX7_chancesBelow 29 = .ok (.iconst 0, 1) := by decide +kernel
theorem dX7_chancesBelow_30 : decode cX7_chancesBelow 30 = .ok (.istore 5, 2) := by decide +kernel
theorem dX7_chancesBelow_32 : decode cX7_chancesBelow 32 = .ok (.iload 5, 2) := by decide +kernel
theorem dX7_chancesBelow_34 : decode cX7_chancesBelow 34 = .ok (.aload_n 3, 1) := by decide +kernel
theorem dX7_chancesBelow_35 : decode cX7_chancesBelow 35 = .ok (.getfield 130, 3) := by decide +kernel
theorem dX7_chancesBelow_38 : decode cX7_chancesBelow 38 = .ok (.if_icmp .ge 32, 3) := by decide +kernel
theorem dX7_chancesBelow_41 : decode cX7_chancesBelow 41 = .ok (.aload_n 0, 1) := by decide +kernel
theorem dX7_chancesBelow_42 : decode cX7_chancesBelow 42 = .ok (.iload_n 1, 1) := by decide +kernel
theorem dX7_chancesBelow_43 : decode cX7_chancesBelow 43 = .ok (.iload 5, 2) := by decide +kernel
theorem dX7_chancesBelow_45 : decode cX7_chancesBelow 45 = .ok (.invokevirtual 321, 3) := by decide +kernel
theorem dX7_chancesBelow_48 : decode cX7_chancesBelow 48 = .ok (.iload_n 2, 1) := by decide +kernel
theorem dX7_chancesBelow_49 : decode cX7_chancesBelow 49 = .ok (.if_icmp .ge 15, 3) := by decide +kernel
theorem dX7_chancesBelow_52 : decode cX7_chancesBelow 52 = .ok (.iload 4, 2) := by decide +kernel
theorem dX7_chancesBelow_54 : decode cX7_chancesBelow 54 = .ok (.aload_n 3, 1) := by decide +kernel
theorem dX7_chancesBelow_55 : decode cX7_chancesBelow 55 = .ok (.iload 5, 2) := by decide +kernel
theorem dX7_chancesBelow_57 : decode cX7_chancesBelow 57 = .ok (.iconst 2, 1) := by decide +kernel
theorem dX7_chancesBelow_58 : decode cX7_chancesBelow 58 = .ok (.invokevirtual 300, 3) := by decide +kernel
theorem dX7_chancesBelow_61 : decode cX7_chancesBelow 61 = .ok (.iadd, 1) := by decide +kernel
theorem dX7_chancesBelow_62 : decode cX7_chancesBelow 62 = .ok (.istore 4, 2) := by decide +kernel
theorem dX7_chancesBelow_64 : decode cX7_chancesBelow 64 = .ok (.iinc 5 1, 3) := by decide +kernel
theorem dX7_chancesBelow_67 : decode cX7_chancesBelow 67 = .ok (.goto (-35), 3) := by decide +kernel
theorem dX7_chancesBelow_70 : decode cX7_chancesBelow 70 = .ok (.iload 4, 2) := by decide +kernel
theorem dX7_chancesBelow_72 : decode cX7_chancesBelow 72 = .ok (.ireturn, 1) := by decide +kernel
theorem dX7_sine_0 : decode cX7_sine 0 = .ok (.iload_n 0, 1) := by decide +kernel
theorem dX7_sine_1 : decode cX7_sine 1 = .ok (.bipush 63, 2) := by decide +kernel
theorem dX7_sine_3 : decode cX7_sine 3 = .ok (.iand, 1) := by decide +kernel
theorem dX7_sine_4 : decode cX7_sine 4 = .ok (.istore_n 1, 1) := by decide +kernel
theorem dX7_sine_5 : decode cX7_sine 5 = .ok (.iload_n 1, 1) := by decide +kernel
theorem dX7_sine_6 : decode cX7_sine 6 = .ok (.bipush 31, 2) := by decide +kernel
theorem dX7_sine_8 : decode cX7_sine 8 = .ok (.iand, 1) := by decide +kernel
theorem dX7_sine_9 : decode cX7_sine 9 = .ok (.istore_n 2, 1) := by decide +kernel
theorem dX7_sine_10 : decode cX7_sine 10 = .ok (.getstatic 460, 3) := by decide +kernel
theorem dX7_sine_13 : decode cX7_sine 13 = .ok (.iload_n 2, 1) := by decide +kernel
theorem dX7_sine_14 : decode cX7_sine 14 = .ok (.bipush 16, 2) := by decide +kernel
theorem dX7_sine_16 : decode cX7_sine 16 = .ok (.if_icmp .gt 7, 3) := by decide +kernel
theorem dX7_sine_19 : decode cX7_sine 19 = .ok (.iload_n 2, 1) := by decide +kernel
theorem dX7_sine_20 : decode cX7_sine 20 = .ok (.goto 7, 3) := by decide +kernel
theorem dX7_sine_23 : decode cX7_sine 23 = .ok (.bipush 32, 2) := by decide +kernel
theorem dX7_sine_25 : decode cX7_sine 25 = .ok (.iload_n 2, 1) := by decide +kernel
theorem dX7_sine_26 : decode cX7_sine 26 = .ok (.isub, 1) := by decide +kernel
theorem dX7_sine_27 : decode cX7_sine 27 = .ok (.iaload, 1) := by decide +kernel
theorem dX7_sine_28 : decode cX7_sine 28 = .ok (.istore_n 3, 1) := by decide +kernel
theorem dX7_sine_29 : decode cX7_sine 29 = .ok (.iload_n 1, 1) := by decide +kernel
theorem dX7_sine_30 : decode cX7_sine 30 = .ok (.bipush 32, 2) := by decide +kernel
theorem dX7_sine_32 : decode cX7_sine 32 = .ok (.if_icmp .ge 7, 3) := by decide +kernel
theorem dX7_sine_35 : decode cX7_sine 35 = .ok (.iload_n 3, 1) := by decide +kernel
theorem dX7_sine_36 : decode cX7_sine 36 = .ok (.goto 5, 3) := by decide +kernel
theorem dX7_sine_39 : decode cX7_sine 39 = .ok (.iload_n 3, 1) := by decide +kernel
theorem dX7_sine_40 : decode cX7_sine 40 = .ok (.ineg, 1) := by decide +kernel
theorem dX7_sine_41 : decode cX7_sine 41 = .ok (.ireturn, 1) := by decide +kernel
theorem dX7_cosine_0 : decode cX7_cosine 0 = .ok (.iload_n 0, 1) := by decide +kernel
theorem dX7_cosine_1 : decode cX7_cosine 1 = .ok (.bipush 16, 2) := by decide +kernel
theorem dX7_cosine_3 : decode cX7_cosine 3 = .ok (.iadd, 1) := by decide +kernel
theorem dX7_cosine_4 : decode cX7_cosine 4 = .ok (.invokestatic 463, 3) := by decide +kernel
theorem dX7_cosine_7 : decode cX7_cosine 7 = .ok (.ireturn, 1) := by decide +kernel
theorem dX7_steepness_0 : decode cX7_steepness 0 = .ok (.iconst 0, 1) := by decide +kernel
theorem dX7_steepness_1 : decode cX7_steepness 1 = .ok (.istore_n 2, 1) := by decide +kernel
theorem dX7_steepness_2 : decode cX7_steepness 2 = .ok (.bipush 16, 2) := by decide +kernel
theorem dX7_steepness_4 : decode cX7_steepness 4 = .ok (.istore_n 3, 1) := by decide +kernel
theorem dX7_steepness_5 : decode cX7_steepness 5 = .ok (.iconst 0, 1) := by decide +kernel
theorem dX7_steepness_6 : decode cX7_steepness 6 = .ok (.istore 4, 2) := by decide +kernel
theorem dX7_steepness_8 : decode cX7_steepness 8 = .ok (.iload 4, 2) := by decide +kernel
theorem dX7_steepness_10 : decode cX7_steepness 10 = .ok (.bipush 16, 2) := by decide +kernel
theorem dX7_steepness_12 : decode cX7_steepness 12 = .ok (.if_icmp .ge 54, 3) := by decide +kernel
theorem dX7_steepness_15 : decode cX7_steepness 15 = .ok (.iload_n 2, 1) := by decide +kernel
theorem dX7_steepness_16 : decode cX7_steepness 16 = .ok (.iload_n 3, 1) := by decide +kernel
theorem dX7_steepness_17 : decode cX7_steepness 17 = .ok (.if_icmp .ge 49, 3) := by decide +kernel
theorem dX7_steepness_20 : decode cX7_steepness 20 = .ok (.iload_n 2, 1) := by decide +kernel
theorem dX7_steepness_21 : decode cX7_steepness 21 = .ok (.iload_n 3, 1) := by decide +kernel
theorem dX7_steepness_22 : decode cX7_steepness 22 = .ok (.iadd, 1) := by decide +kernel
theorem dX7_steepness_23 : decode cX7_steepness 23 = .ok (.iconst 2, 1) := by decide +kernel
theorem dX7_steepness_24 : decode cX7_steepness 24 = .ok (.idiv, 1) := by decide +kernel
theorem dX7_steepness_25 : decode cX7_steepness 25 = .ok (.istore 5, 2) := by decide +kernel
theorem dX7_steepness_27 : decode cX7_steepness 27 = .ok (.iload_n 1, 1) := by decide +kernel
theorem dX7_steepness_28 : decode cX7_steepness 28 = .ok (.getstatic 466, 3) := by decide +kernel
theorem dX7_steepness_31 : decode cX7_steepness 31 = .ok (.iload 5, 2) := by decide +kernel
theorem dX7_steepness_33 : decode cX7_steepness 33 = .ok (.iaload, 1) := by decide +kernel
theorem dX7_steepness_34 : decode cX7_steepness 34 = .ok (.imul, 1) := by decide +kernel
theorem dX7_steepness_35 : decode cX7_steepness 35 = .ok (.iload_n 0, 1) := by decide +kernel
theorem dX7_steepness_36 : decode cX7_steepness 36 = .ok (.getstatic 466, 3) := by decide +kernel
theorem dX7_steepness_39 : decode cX7_steepness 39 = .ok (.bipush 15, 2) := by decide +kernel
theorem dX7_steepness_41 : decode cX7_steepness 41 = .ok (.iload 5, 2) := by decide +kernel
theorem dX7_steepness_43 : decode cX7_steepness 43 = .ok (.isub, 1) := by decide +kernel
theorem dX7_steepness_44 : decode cX7_steepness 44 = .ok (.iaload, 1) := by decide +kernel
theorem dX7_steepness_45 : decode cX7_steepness 45 = .ok (.imul, 1) := by decide +kernel
theorem dX7_steepness_46 : decode cX7_steepness 46 = .ok (.if_icmp .le 11, 3) := by decide +kernel
theorem dX7_steepness_49 : decode cX7_steepness 49 = .ok (.iload 5, 2) := by decide +kernel
theorem dX7_steepness_51 : decode cX7_steepness 51 = .ok (.iconst 1, 1) := by decide +kernel
theorem dX7_steepness_52 : decode cX7_steepness 52 = .ok (.iadd, 1) := by decide +kernel
theorem dX7_steepness_53 : decode cX7_steepness 53 = .ok (.istore_n 2, 1) := by decide +kernel
theorem dX7_steepness_54 : decode cX7_steepness 54 = .ok (.goto 6, 3) := by decide +kernel
theorem dX7_steepness_57 : decode cX7_steepness 57 = .ok (.iload 5, 2) := by decide +kernel
theorem dX7_steepness_59 : decode cX7_steepness 59 = .ok (.istore_n 3, 1) := by decide +kernel
theorem dX7_steepness_60 : decode cX7_steepness 60 = .ok (.iinc 4 1, 3) := by decide +kernel
theorem dX7_steepness_63 : decode cX7_steepness 63 = .ok (.goto (-55), 3) := by decide +kernel
theorem dX7_steepness_66 : decode cX7_steepness 66 = .ok (.iload_n 2, 1) := by decide +kernel
theorem dX7_steepness_67 : decode cX7_steepness 67 = .ok (.ireturn, 1) := by decide +kernel
theorem dX7_pathOf_0 : decode cX7_pathOf 0 = .ok (.iload_n 0, 1) := by decide +kernel
theorem dX7_pathOf_1 : decode cX7_pathOf 1 = .ok (.invokestatic 328, 3) := by decide +kernel
theorem dX7_pathOf_4 : decode cX7_pathOf 4 = .ok (.istore_n 2, 1) := by decide +kernel
theorem dX7_pathOf_5 : decode cX7_pathOf 5 = .ok (.iload_n 1, 1) := by decide +kernel
theorem dX7_pathOf_6 : decode cX7_pathOf 6 = .ok (.invokestatic 328, 3) := by decide +kernel
theorem dX7_pathOf_9 : decode cX7_pathOf 9 = .ok (.istore_n 3, 1) := by decide +kernel
theorem dX7_pathOf_10 : decode cX7_pathOf 10 = .ok (.iload_n 2, 1) := by decide +kernel
theorem dX7_pathOf_11 : decode cX7_pathOf 11 = .ok (.iload_n 3, 1) := by decide +kernel
theorem dX7_pathOf_12 : decode cX7_pathOf 12 = .ok (.invokestatic 469, 3) := by decide +kernel
theorem dX7_pathOf_15 : decode cX7_pathOf 15 = .ok (.istore 4, 2) := by decide +kernel
theorem dX7_pathOf_17 : decode cX7_pathOf 17 = .ok (.iload_n 0, 1) := by decide +kernel
theorem dX7_pathOf_18 : decode cX7_pathOf 18 = .ok (.ifCond .lt 10, 3) := by decide +kernel
theorem dX7_pathOf_21 : decode cX7_pathOf 21 = .ok (.iload_n 1, 1) := by decide +kernel
theorem dX7_pathOf_22 : decode cX7_pathOf 22 = .ok (.ifCond .lt 6, 3) := by decide +kernel
theorem dX7_pathOf_25 : decode cX7_pathOf 25 = .ok (.iload 4, 2) := by decide +kernel
theorem dX7_pathOf_27 : decode cX7_pathOf 27 = .ok (.ireturn, 1) := by decide +kernel
theorem dX7_pathOf_28 : decode cX7_pathOf 28 = .ok (.iload_n 0, 1) := by decide +kernel
theorem dX7_pathOf_29 : decode cX7_pathOf 29 = .ok (.ifCond .ge 13, 3) := by decide +kernel
theorem dX7_pathOf_32 : decode cX7_pathOf 32 = .ok (.iload_n 1, 1) := by decide +kernel
theorem dX7_pathOf_33 : decode cX7_pathOf 33 = .ok (.ifCond .ge 9, 3) := by decide +kernel
theorem dX7_pathOf_36 : decode cX7_pathOf 36 = .ok (.bipush 32, 2) := by decide +kernel
theorem dX7_pathOf_38 : decode cX7_pathOf 38 = .ok (.iload 4, 2) := by decide +kernel
theorem dX7_pathOf_40 : decode cX7_pathOf 40 = .ok (.iadd, 1) := by decide +kernel
theorem dX7_pathOf_41 : decode cX7_pathOf 41 = .ok (.ireturn, 1) := by decide +kernel
theorem dX7_pathOf_42 : decode cX7_pathOf 42 = .ok (.iload_n 0, 1) := by decide +kernel
theorem dX7_pathOf_43 : decode cX7_pathOf 43 = .ok (.ifCond .lt 10, 3) := by decide +kernel
theorem dX7_pathOf_46 : decode cX7_pathOf 46 = .ok (.iload 4, 2) := by decide +kernel
theorem dX7_pathOf_48 : decode cX7_pathOf 48 = .ok (.ifCond .ne 5, 3) := by decide +kernel
theorem dX7_pathOf_51 : decode cX7_pathOf 51 = .ok (.iconst 0, 1) := by decide +kernel
theorem dX7_pathOf_52 : decode cX7_pathOf 52 = .ok (.ireturn, 1) := by decide +kernel
theorem dX7_pathOf_53 : decode cX7_pathOf 53 = .ok (.iload 4, 2) := by decide +kernel
theorem dX7_pathOf_55 : decode cX7_pathOf 55 = .ok (.bipush 16, 2) := by decide +kernel
theorem dX7_pathOf_57 : decode cX7_pathOf 57 = .ok (.if_icmp .ge 28, 3) := by decide +kernel
theorem dX7_pathOf_60 : decode cX7_pathOf 60 = .ok (.iload_n 3, 1) := by decide +kernel
theorem dX7_pathOf_61 : decode cX7_pathOf 61 = .ok (.getstatic 466, 3) := by decide +kernel
theorem dX7_pathOf_64 : decode cX7_pathOf 64 = .ok (.iload 4, 2) := by decide +kernel
theorem dX7_pathOf_66 : decode cX7_pathOf 66 = .ok (.iaload, 1) := by decide +kernel
theorem dX7_pathOf_67 : decode cX7_pathOf 67 = .ok (.imul, 1) := by decide +kernel
theorem dX7_pathOf_68 : decode cX7_pathOf 68 = .ok (.iload_n 2, 1) := by decide +kernel
theorem dX7_pathOf_69 : decode cX7_pathOf 69 = .ok (.getstatic 466, 3) := by decide +kernel
theorem dX7_pathOf_72 : decode cX7_pathOf 72 = .ok (.bipush 15, 2) := by decide +kernel
theorem dX7_pathOf_74 : decode cX7_pathOf 74 = .ok (.iload 4, 2) := by decide +kernel
theorem dX7_pathOf_76 : decode cX7_pathOf 76 = .ok (.isub, 1) := by decide +kernel
theorem dX7_pathOf_77 : decode cX7_pathOf 77 = .ok (.iaload, 1) := by decide +kernel
theorem dX7_pathOf_78 : decode cX7_pathOf 78 = .ok (.imul, 1) := by decide +kernel
theorem dX7_pathOf_79 : decode cX7_pathOf 79 = .ok (.if_icmp .ne 6, 3) := by decide +kernel
theorem dX7_pathOf_82 : decode cX7_pathOf 82 = .ok (.iinc 4 1, 3) := by decide +kernel
theorem dX7_pathOf_85 : decode cX7_pathOf 85 = .ok (.iload_n 0, 1) := by decide +kernel
theorem dX7_pathOf_86 : decode cX7_pathOf 86 = .ok (.ifCond .ge 11, 3) := by decide +kernel
theorem dX7_pathOf_89 : decode cX7_pathOf 89 = .ok (.bipush 32, 2) := by decide +kernel
theorem dX7_pathOf_91 : decode cX7_pathOf 91 = .ok (.iload 4, 2) := by decide +kernel
theorem dX7_pathOf_93 : decode cX7_pathOf 93 = .ok (.isub, 1) := by decide +kernel
theorem dX7_pathOf_94 : decode cX7_pathOf 94 = .ok (.goto 8, 3) := by decide +kernel
theorem dX7_pathOf_97 : decode cX7_pathOf 97 = .ok (.bipush 64, 2) := by decide +kernel
theorem dX7_pathOf_99 : decode cX7_pathOf 99 = .ok (.iload 4, 2) := by decide +kernel
theorem dX7_pathOf_101 : decode cX7_pathOf 101 = .ok (.isub, 1) := by decide +kernel
theorem dX7_pathOf_102 : decode cX7_pathOf 102 = .ok (.ireturn, 1) := by decide +kernel
theorem dX7_attackOf_0 : decode cX7_attackOf 0 = .ok (.iload_n 0, 1) := by decide +kernel
theorem dX7_attackOf_1 : decode cX7_attackOf 1 = .ok (.bipush 16, 2) := by decide +kernel
theorem dX7_attackOf_3 : decode cX7_attackOf 3 = .ok (.idiv, 1) := by decide +kernel
theorem dX7_attackOf_4 : decode cX7_attackOf 4 = .ok (.iload_n 1, 1) := by decide +kernel
theorem dX7_attackOf_5 : decode cX7_attackOf 5 = .ok (.isub, 1) := by decide +kernel
theorem dX7_attackOf_6 : decode cX7_attackOf 6 = .ok (.istore_n 2, 1) := by decide +kernel
theorem dX7_attackOf_7 : decode cX7_attackOf 7 = .ok (.iload_n 2, 1) := by decide +kernel
theorem dX7_attackOf_8 : decode cX7_attackOf 8 = .ok (.bipush (-32), 2) := by decide +kernel
theorem dX7_attackOf_10 : decode cX7_attackOf 10 = .ok (.if_icmp .ge 9, 3) := by decide +kernel
theorem dX7_attackOf_13 : decode cX7_attackOf 13 = .ok (.iinc 2 64, 3) := by decide +kernel
theorem dX7_attackOf_16 : decode cX7_attackOf 16 = .ok (.goto 12, 3) := by decide +kernel
theorem dX7_attackOf_19 : decode cX7_attackOf 19 = .ok (.iload_n 2, 1) := by decide +kernel
theorem dX7_attackOf_20 : decode cX7_attackOf 20 = .ok (.bipush 32, 2) := by decide +kernel
theorem dX7_attackOf_22 : decode cX7_attackOf 22 = .ok (.if_icmp .lt 6, 3) := by decide +kernel
theorem dX7_attackOf_25 : decode cX7_attackOf 25 = .ok (.iinc 2 (-64), 3) := by decide +kernel
theorem dX7_attackOf_28 : decode cX7_attackOf 28 = .ok (.iload_n 2, 1) := by decide +kernel
theorem dX7_attackOf_29 : decode cX7_attackOf 29 = .ok (.i2l, 1) := by decide +kernel
theorem dX7_attackOf_30 : decode cX7_attackOf 30 = .ok (.bipush 8, 2) := by decide +kernel
theorem dX7_attackOf_32 : decode cX7_attackOf 32 = .ok (.invokestatic 472, 3) := by decide +kernel
theorem dX7_attackOf_35 : decode cX7_attackOf 35 = .ok (.ireturn, 1) := by decide +kernel
theorem dX7_keptWithin_0 : decode cX7_keptWithin 0 = .ok (.iload_n 2, 1) := by decide +kernel
theorem dX7_keptWithin_1 : decode cX7_keptWithin 1 = .ok (.ineg, 1) := by decide +kernel
theorem dX7_keptWithin_2 : decode cX7_keptWithin 2 = .ok (.i2l, 1) := by decide +kernel
theorem dX7_keptWithin_3 : decode cX7_keptWithin 3 = .ok (.iload_n 2, 1) := by decide +kernel
theorem dX7_keptWithin_4 : decode cX7_keptWithin 4 = .ok (.i2l, 1) := by decide +kernel
theorem dX7_keptWithin_5 : decode cX7_keptWithin 5 = .ok (.lload_n 0, 1) := by decide +kernel
theorem dX7_keptWithin_6 : decode cX7_keptWithin 6 = .ok (.invokestatic 476, 3) := by decide +kernel
theorem dX7_keptWithin_9 : decode cX7_keptWithin 9 = .ok (.invokestatic 479, 3) := by decide +kernel
theorem dX7_keptWithin_12 : decode cX7_keptWithin 12 = .ok (.l2i, 1) := by decide +kernel
theorem dX7_keptWithin_13 : decode cX7_keptWithin 13 = .ok (.ireturn, 1) := by decide +kernel
