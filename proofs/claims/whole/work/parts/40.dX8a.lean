theorem dX8_init_0 : decode cX8_init 0 = .ok (.aload_n 0, 1) := by decide +kernel
theorem dX8_init_1 : decode cX8_init 1 = .ok (.invokespecial 3, 3) := by decide +kernel
theorem dX8_init_4 : decode cX8_init 4 = .ok (.aload_n 0, 1) := by decide +kernel
theorem dX8_init_5 : decode cX8_init 5 = .ok (.sipush 264, 3) := by decide +kernel
theorem dX8_init_8 : decode cX8_init 8 = .ok (.newarray .int, 2) := by decide +kernel
theorem dX8_init_10 : decode cX8_init 10 = .ok (.putfield 9, 3) := by decide +kernel
theorem dX8_init_13 : decode cX8_init 13 = .ok (.aload_n 0, 1) := by decide +kernel
theorem dX8_init_14 : decode cX8_init 14 = .ok (.sipush 792, 3) := by decide +kernel
theorem dX8_init_17 : decode cX8_init 17 = .ok (.newarray .int, 2) := by decide +kernel
theorem dX8_init_19 : decode cX8_init 19 = .ok (.putfield 13, 3) := by decide +kernel
theorem dX8_init_22 : decode cX8_init 22 = .ok (.aload_n 0, 1) := by decide +kernel
theorem dX8_init_23 : decode cX8_init 23 = .ok (.iconst 3, 1) := by decide +kernel
theorem dX8_init_24 : decode cX8_init 24 = .ok (.newarray .boolean, 2) := by decide +kernel
theorem dX8_init_26 : decode cX8_init 26 = .ok (.putfield 16, 3) := by decide +kernel
theorem dX8_init_29 : decode cX8_init 29 = .ok (.aload_n 0, 1) := by decide +kernel
theorem dX8_init_30 : decode cX8_init 30 = .ok (.sipush 400, 3) := by decide +kernel
theorem dX8_init_33 : decode cX8_init 33 = .ok (.newarray .int, 2) := by decide +kernel
theorem dX8_init_35 : decode cX8_init 35 = .ok (.putfield 20, 3) := by decide +kernel
theorem dX8_init_38 : decode cX8_init 38 = .ok (.aload_n 0, 1) := by decide +kernel
theorem dX8_init_39 : decode cX8_init 39 = .ok (.bipush 23, 2) := by decide +kernel
theorem dX8_init_41 : decode cX8_init 41 = .ok (.newarray .int, 2) := by decide +kernel
theorem dX8_init_43 : decode cX8_init 43 = .ok (.putfield 23, 3) := by decide +kernel
theorem dX8_init_46 : decode cX8_init 46 = .ok (.aload_n 0, 1) := by decide +kernel
theorem dX8_init_47 : decode cX8_init 47 = .ok (.bipush 23, 2) := by decide +kernel
theorem dX8_init_49 : decode cX8_init 49 = .ok (.newarray .int, 2) := by decide +kernel
theorem dX8_init_51 : decode cX8_init 51 = .ok (.putfield 26, 3) := by decide +kernel
theorem dX8_init_54 : decode cX8_init 54 = .ok (.aload_n 0, 1) := by decide +kernel
theorem dX8_init_55 : decode cX8_init 55 = .ok (.iconst (-1), 1) := by decide +kernel
theorem dX8_init_56 : decode cX8_init 56 = .ok (.putfield 29, 3) := by decide +kernel
theorem dX8_init_59 : decode cX8_init 59 = .ok (.aload_n 0, 1) := by decide +kernel
theorem dX8_init_60 : decode cX8_init 60 = .ok (.sipush 288, 3) := by decide +kernel
theorem dX8_init_63 : decode cX8_init 63 = .ok (.newarray .int, 2) := by decide +kernel
theorem dX8_init_65 : decode cX8_init 65 = .ok (.putfield 33, 3) := by decide +kernel
theorem dX8_init_68 : decode cX8_init 68 = .ok (.aload_n 0, 1) := by decide +kernel
theorem dX8_init_69 : decode cX8_init 69 = .ok (.sipush 288, 3) := by decide +kernel
theorem dX8_init_72 : decode cX8_init 72 = .ok (.newarray .int, 2) := by decide +kernel
theorem dX8_init_74 : decode cX8_init 74 = .ok (.putfield 36, 3) := by decide +kernel
theorem dX8_init_77 : decode cX8_init 77 = .ok (.aload_n 0, 1) := by decide +kernel
theorem dX8_init_78 : decode cX8_init 78 = .ok (.sipush 288, 3) := by decide +kernel
theorem dX8_init_81 : decode cX8_init 81 = .ok (.newarray .int, 2) := by decide +kernel
theorem dX8_init_83 : decode cX8_init 83 = .ok (.putfield 39, 3) := by decide +kernel
theorem dX8_init_86 : decode cX8_init 86 = .ok (.aload_n 0, 1) := by decide +kernel
theorem dX8_init_87 : decode cX8_init 87 = .ok (.bipush 64, 2) := by decide +kernel
theorem dX8_init_89 : decode cX8_init 89 = .ok (.newarray .int, 2) := by decide +kernel
theorem dX8_init_91 : decode cX8_init 91 = .ok (.putfield 42, 3) := by decide +kernel
theorem dX8_init_94 : decode cX8_init 94 = .ok (.aload_n 0, 1) := by decide +kernel
theorem dX8_init_95 : decode cX8_init 95 = .ok (.bipush 64, 2) := by decide +kernel
theorem dX8_init_97 : decode cX8_init 97 = .ok (.newarray .int, 2) := by decide +kernel
theorem dX8_init_99 : decode cX8_init 99 = .ok (.putfield 45, 3) := by decide +kernel
theorem dX8_init_102 : decode cX8_init 102 = .ok (.aload_n 0, 1) := by decide +kernel
theorem dX8_init_103 : decode cX8_init 103 = .ok (.bipush 16, 2) := by decide +kernel
theorem dX8_init_105 : decode cX8_init 105 = .ok (.newarray .int, 2) := by decide +kernel
theorem dX8_init_107 : decode cX8_init 107 = .ok (.putfield 48, 3) := by decide +kernel
theorem dX8_init_110 : decode cX8_init 110 = .ok (.aload_n 0, 1) := by decide +kernel
theorem dX8_init_111 : decode cX8_init 111 = .ok (.iconst 4, 1) := by decide +kernel
theorem dX8_init_112 : decode cX8_init 112 = .ok (.newarray .int, 2) := by decide +kernel
theorem dX8_init_114 : decode cX8_init 114 = .ok (.dup, 1) := by decide +kernel
theorem dX8_init_115 : decode cX8_init 115 = .ok (.iconst 0, 1) := by decide +kernel
theorem dX8_init_116 : decode cX8_init 116 = .ok (.iconst (-1), 1) := by decide +kernel
theorem dX8_init_117 : decode cX8_init 117 = .ok (.iastore, 1) := by decide +kernel
theorem dX8_init_118 : decode cX8_init 118 = .ok (.dup, 1) := by decide +kernel
theorem dX8_init_119 : decode cX8_init 119 = .ok (.iconst 1, 1) := by decide +kernel
theorem dX8_init_120 : decode cX8_init 120 = .ok (.iconst (-1), 1) := by decide +kernel
theorem dX8_init_121 : decode cX8_init 121 = .ok (.iastore, 1) := by decide +kernel
theorem dX8_init_122 : decode cX8_init 122 = .ok (.dup, 1) := by decide +kernel
theorem dX8_init_123 : decode cX8_init 123 = .ok (.iconst 2, 1) := by decide +kernel
theorem dX8_init_124 : decode cX8_init 124 = .ok (.iconst (-1), 1) := by decide +kernel
theorem dX8_init_125 : decode cX8_init 125 = .ok (.iastore, 1) := by decide +kernel
theorem dX8_init_126 : decode cX8_init 126 = .ok (.dup, 1) := by decide +kernel
theorem dX8_init_127 : decode cX8_init 127 = .ok (.iconst 3, 1) := by decide +kernel
theorem dX8_init_128 : decode cX8_init 128 = .ok (.iconst (-1), 1) := by decide +kernel
theorem dX8_init_129 : decode cX8_init 129 = .ok (.iastore, 1) := by decide +kernel
theorem dX8_init_130 : decode cX8_init 130 = .ok (.putfield 51, 3) := by decide +kernel
theorem dX8_init_133 : decode cX8_init 133 = .ok (.aload_n 0, 1) := by decide +kernel
theorem dX8_init_134 : decode cX8_init 134 = .ok (.iconst 4, 1) := by decide +kernel
theorem dX8_init_135 : decode cX8_init 135 = .ok (.newarray .int, 2) := by decide +kernel
theorem dX8_init_137 : decode cX8_init 137 = .ok (.putfield 54, 3) := by decide +kernel
theorem dX8_init_140 : decode cX8_init 140 = .ok (.aload_n 0, 1) := by decide +kernel
theorem dX8_init_141 : decode cX8_init 141 = .ok (.bipush 48, 2) := by decide +kernel
theorem dX8_init_143 : decode cX8_init 143 = .ok (.newarray .long, 2) := by decide +kernel
theorem dX8_init_145 : decode cX8_init 145 = .ok (.putfield 57, 3) := by decide +kernel
theorem dX8_init_148 : decode cX8_init 148 = .ok (.aload_n 0, 1) := by decide +kernel
theorem dX8_init_149 : decode cX8_init 149 = .ok (.getfield 9, 3) := by decide +kernel
theorem dX8_init_152 : decode cX8_init 152 = .ok (.iconst 0, 1) := by decide +kernel
theorem dX8_init_153 : decode cX8_init 153 = .ok (.bipush 8, 2) := by decide +kernel
theorem dX8_init_155 : decode cX8_init 155 = .ok (.iastore, 1) := by decide +kernel
theorem dX8_init_156 : decode cX8_init 156 = .ok (.aload_n 0, 1) := by decide +kernel
theorem dX8_init_157 : decode cX8_init 157 = .ok (.getfield 9, 3) := by decide +kernel
theorem dX8_init_160 : decode cX8_init 160 = .ok (.iconst 1, 1) := by decide +kernel
theorem dX8_init_161 : decode cX8_init 161 = .ok (.bipush 6, 2) := by decide +kernel
theorem dX8_init_163 : decode cX8_init 163 = .ok (.iastore, 1) := by decide +kernel
theorem dX8_init_164 : decode cX8_init 164 = .ok (.aload_n 0, 1) := by decide +kernel
theorem dX8_init_165 : decode cX8_init 165 = .ok (.invokevirtual 61, 3) := by decide +kernel
theorem dX8_init_168 : decode cX8_init 168 = .ok (.iconst 0, 1) := by decide +kernel
theorem dX8_init_169 : decode cX8_init 169 = .ok (.istore_n 1, 1) := by decide +kernel
theorem dX8_init_170 : decode cX8_init 170 = .ok (.iload_n 1, 1) := by decide +kernel
theorem dX8_init_171 : decode cX8_init 171 = .ok (.bipush 23, 2) := by decide +kernel
theorem dX8_init_173 : decode cX8_init 173 = .ok (.if_icmp .ge 24, 3) := by decide +kernel
theorem dX8_init_176 : decode cX8_init 176 = .ok (.aload_n 0, 1) := by decide +kernel
theorem dX8_init_177 : decode cX8_init 177 = .ok (.getfield 9, 3) := by decide +kernel
theorem dX8_init_180 : decode cX8_init 180 = .ok (.bipush 8, 2) := by decide +kernel
theorem dX8_init_182 : decode cX8_init 182 = .ok (.iload_n 1, 1) := by decide +kernel
theorem dX8_init_183 : decode cX8_init 183 = .ok (.iadd, 1) := by decide +kernel
theorem dX8_init_184 : decode cX8_init 184 = .ok (.aload_n 0, 1) := by decide +kernel
theorem dX8_init_185 : decode cX8_init 185 = .ok (.getfield 23, 3) := by decide +kernel
theorem dX8_init_188 : decode cX8_init 188 = .ok (.iload_n 1, 1) := by decide +kernel
theorem dX8_init_189 : decode cX8_init 189 = .ok (.iaload, 1) := by decide +kernel
theorem dX8_init_190 : decode cX8_init 190 = .ok (.iastore, 1) := by decide +kernel
theorem dX8_init_191 : decode cX8_init 191 = .ok (.iinc 1 1, 3) := by decide +kernel
theorem dX8_init_194 : decode cX8_init 194 = .ok (.goto (-24), 3) := by decide +kernel
theorem dX8_init_197 : decode cX8_init 197 = .ok (.return_, 1) := by decide +kernel
theorem dX8_thrown_0 : decode cX8_thrown 0 = .ok (.aload_n 0, 1) := by decide +kernel
theorem dX8_thrown_1 : decode cX8_thrown 1 = .ok (.getfield 64, 3) := by decide +kernel
theorem dX8_thrown_4 : decode cX8_thrown 4 = .ok (.ireturn, 1) := by decide +kernel
theorem dX8_fails_0 : decode cX8_fails 0 = .ok (.aload_n 0, 1) := by decide +kernel
theorem dX8_fails_1 : decode cX8_fails 1 = .ok (.iload_n 1, 1) := by decide +kernel
theorem dX8_fails_2 : decode cX8_fails 2 = .ok (.putfield 64, 3) := by decide +kernel
theorem dX8_fails_5 : decode cX8_fails 5 = .ok (.iconst 0, 1) := by decide +kernel
theorem dX8_fails_6 : decode cX8_fails 6 = .ok (.ireturn, 1) := by decide +kernel
theorem dX8_within_0 : decode cX8_within 0 = .ok (.lload_n 0, 1) := by decide +kernel
theorem dX8_within_1 : decode cX8_within 1 = .ok (.lload_n 2, 1) := by decide +kernel
theorem dX8_within_2 : decode cX8_within 2 = .ok (.lcmp, 1) := by decide +kernel
theorem dX8_within_3 : decode cX8_within 3 = .ok (.ifCond .lt 14, 3) := by decide +kernel
theorem dX8_within_6 : decode cX8_within 6 = .ok (.lload_n 0, 1) := by decide +kernel
theorem dX8_within_7 : decode cX8_within 7 = .ok (.lload 4, 2) := by decide +kernel
theorem dX8_within_9 : decode cX8_within 9 = .ok (.lcmp, 1) := by decide +kernel
theorem dX8_within_10 : decode cX8_within 10 = .ok (.ifCond .gt 7, 3) := by decide +kernel
theorem dX8_within_13 : decode cX8_within 13 = .ok (.iconst 1, 1) := by decide +kernel
theorem dX8_within_14 : decode cX8_within 14 = .ok (.goto 4, 3) := by decide +kernel
theorem dX8_within_17 : decode cX8_within 17 = .ok (.iconst 0, 1) := by decide +kernel
theorem dX8_within_18 : decode cX8_within 18 = .ok (.ireturn, 1) := by decide +kernel
theorem dX8_isWay_0 : decode cX8_isWay 0 = .ok (.iload_n 1, 1) := by decide +kernel
theorem dX8_isWay_1 : decode cX8_isWay 1 = .ok (.i2l, 1) := by decide +kernel
theorem dX8_isWay_2 : decode cX8_isWay 2 = .ok (.lconst 0, 1) := by decide +kernel
theorem dX8_isWay_3 : decode cX8_isWay 3 = .ok (.aload_n 0, 1) := by decide +kernel
theorem dX8_isWay_4 : decode cX8_isWay 4 = .ok (.getfield 9, 3) := by decide +kernel
theorem dX8_isWay_7 : decode cX8_isWay 7 = .ok (.iconst 2, 1) := by decide +kernel
theorem dX8_isWay_8 : decode cX8_isWay 8 = .ok (.iaload, 1) := by decide +kernel
theorem dX8_isWay_9 : decode cX8_isWay 9 = .ok (.iconst 1, 1) := by decide +kernel
theorem dX8_isWay_10 : decode cX8_isWay 10 = .ok (.isub, 1) := by decide +kernel
theorem dX8_isWay_11 : decode cX8_isWay 11 = .ok (.i2l, 1) := by decide +kernel
theorem dX8_isWay_12 : decode cX8_isWay 12 = .ok (.invokestatic 67, 3) := by decide +kernel
theorem dX8_isWay_15 : decode cX8_isWay 15 = .ok (.ireturn, 1) := by decide +kernel
theorem dX8_isHand_0 : decode cX8_isHand 0 = .ok (.iload_n 1, 1) := by decide +kernel
theorem dX8_isHand_1 : decode cX8_isHand 1 = .ok (.i2l, 1) := by decide +kernel
theorem dX8_isHand_2 : decode cX8_isHand 2 = .ok (.lconst 0, 1) := by decide +kernel
theorem dX8_isHand_3 : decode cX8_isHand 3 = .ok (.aload_n 0, 1) := by decide +kernel
theorem dX8_isHand_4 : decode cX8_isHand 4 = .ok (.getfield 9, 3) := by decide +kernel
theorem dX8_isHand_7 : decode cX8_isHand 7 = .ok (.iconst 3, 1) := by decide +kernel
theorem dX8_isHand_8 : decode cX8_isHand 8 = .ok (.iaload, 1) := by decide +kernel
theorem dX8_isHand_9 : decode cX8_isHand 9 = .ok (.iconst 1, 1) := by decide +kernel
theorem dX8_isHand_10 : decode cX8_isHand 10 = .ok (.isub, 1) := by decide +kernel
theorem dX8_isHand_11 : decode cX8_isHand 11 = .ok (.i2l, 1) := by decide +kernel
theorem dX8_isHand_12 : decode cX8_isHand 12 = .ok (.invokestatic 67, 3) := by decide +kernel
theorem dX8_isHand_15 : decode cX8_isHand 15 = .ok (.ireturn, 1) := by decide +kernel
theorem dX8_isEars_0 : decode cX8_isEars 0 = .ok (.iload_n 0, 1) := by decide +kernel
theorem dX8_isEars_1 : decode cX8_isEars 1 = .ok (.i2l, 1) := by decide +kernel
theorem dX8_isEars_2 : decode cX8_isEars 2 = .ok (.ldc2_w 71, 3) := by decide +kernel
theorem dX8_isEars_5 : decode cX8_isEars 5 = .ok (.ldc2_w 73, 3) := by decide +kernel
theorem dX8_isEars_8 : decode cX8_isEars 8 = .ok (.invokestatic 67, 3) := by decide +kernel
theorem dX8_isEars_11 : decode cX8_isEars 11 = .ok (.ireturn, 1) := by decide +kernel
theorem dX8_isSpeed_0 : decode cX8_isSpeed 0 = .ok (.iload_n 0, 1) := by decide +kernel
theorem dX8_isSpeed_1 : decode cX8_isSpeed 1 = .ok (.i2l, 1) := by decide +kernel
theorem dX8_isSpeed_2 : decode cX8_isSpeed 2 = .ok (.ldc2_w 75, 3) := by decide +kernel
theorem dX8_isSpeed_5 : decode cX8_isSpeed 5 = .ok (.ldc2_w 77, 3) := by decide +kernel
theorem dX8_isSpeed_8 : decode cX8_isSpeed 8 = .ok (.invokestatic 67, 3) := by decide +kernel
theorem dX8_isSpeed_11 : decode cX8_isSpeed 11 = .ok (.ireturn, 1) := by decide +kernel
theorem dX8_isSlant_0 : decode cX8_isSlant 0 = .ok (.iload_n 0, 1) := by decide +kernel
theorem dX8_isSlant_1 : decode cX8_isSlant 1 = .ok (.i2l, 1) := by decide +kernel
theorem dX8_isSlant_2 : decode cX8_isSlant 2 = .ok (.ldc2_w 79, 3) := by decide +kernel
theorem dX8_isSlant_5 : decode cX8_isSlant 5 = .ok (.ldc2_w 81, 3) := by decide +kernel
theorem dX8_isSlant_8 : decode cX8_isSlant 8 = .ok (.invokestatic 67, 3) := by decide +kernel
theorem dX8_isSlant_11 : decode cX8_isSlant 11 = .ok (.ireturn, 1) := by decide +kernel
theorem dX8_sheet_0 : decode cX8_sheet 0 = .ok (.aload_n 0, 1) := by decide +kernel
theorem dX8_sheet_1 : decode cX8_sheet 1 = .ok (.iload_n 1, 1) := by decide +kernel
theorem dX8_sheet_2 : decode cX8_sheet 2 = .ok (.i2l, 1) := by decide +kernel
theorem dX8_sheet_3 : decode cX8_sheet 3 = .ok (.ldc2_w 83, 3) := by decide +kernel
theorem dX8_sheet_6 : decode cX8_sheet 6 = .ok (.ldc2_w 85, 3) := by decide +kernel
theorem dX8_sheet_9 : decode cX8_sheet 9 = .ok (.invokestatic 67, 3) := by decide +kernel
theorem dX8_sheet_12 : decode cX8_sheet 12 = .ok (.ifCond .eq 21, 3) := by decide +kernel
theorem dX8_sheet_15 : decode cX8_sheet 15 = .ok (.iload_n 2, 1) := by decide +kernel
theorem dX8_sheet_16 : decode cX8_sheet 16 = .ok (.i2l, 1) := by decide +kernel
theorem dX8_sheet_17 : decode cX8_sheet 17 = .ok (.ldc2_w 87, 3) := by decide +kernel
theorem dX8_sheet_20 : decode cX8_sheet 20 = .ok (.ldc2_w 89, 3) := by decide +kernel
theorem dX8_sheet_23 : decode cX8_sheet 23 = .ok (.invokestatic 67, 3) := by decide +kernel
theorem dX8_sheet_26 : decode cX8_sheet 26 = .ok (.ifCond .eq 7, 3) := by decide +kernel
theorem dX8_sheet_29 : decode cX8_sheet 29 = .ok (.iconst 0, 1) := by decide +kernel
theorem dX8_sheet_30 : decode cX8_sheet 30 = .ok (.goto 4, 3) := by decide +kernel
theorem dX8_sheet_33 : decode cX8_sheet 33 = .ok (.iconst 1, 1) := by decide +kernel
theorem dX8_sheet_34 : decode cX8_sheet 34 = .ok (.putfield 64, 3) := by decide +kernel
theorem dX8_sheet_37 : decode cX8_sheet 37 = .ok (.aload_n 0, 1) := by decide +kernel
theorem dX8_sheet_38 : decode cX8_sheet 38 = .ok (.getfield 64, 3) := by decide +kernel
theorem dX8_sheet_41 : decode cX8_sheet 41 = .ok (.ifCond .le 4, 3) := by decide +kernel
theorem dX8_sheet_44 : decode cX8_sheet 44 = .ok (.return_, 1) := by decide +kernel
theorem dX8_sheet_45 : decode cX8_sheet 45 = .ok (.aload_n 0, 1) := by decide +kernel
theorem dX8_sheet_46 : decode cX8_sheet 46 = .ok (.getfield 9, 3) := by decide +kernel
theorem dX8_sheet_49 : decode cX8_sheet 49 = .ok (.iconst 0, 1) := by decide +kernel
theorem dX8_sheet_50 : decode cX8_sheet 50 = .ok (.iload_n 1, 1) := by decide +kernel
theorem dX8_sheet_51 : decode cX8_sheet 51 = .ok (.iastore, 1) := by decide +kernel
theorem dX8_sheet_52 : decode cX8_sheet 52 = .ok (.aload_n 0, 1) := by decide +kernel
theorem dX8_sheet_53 : decode cX8_sheet 53 = .ok (.getfield 9, 3) := by decide +kernel
theorem dX8_sheet_56 : decode cX8_sheet 56 = .ok (.iconst 1, 1) := by decide +kernel
theorem dX8_sheet_57 : decode cX8_sheet 57 = .ok (.iload_n 2, 1) := by decide +kernel
theorem dX8_sheet_58 : decode cX8_sheet 58 = .ok (.iastore, 1) := by decide +kernel
theorem dX8_sheet_59 : decode cX8_sheet 59 = .ok (.return_, 1) := by decide +kernel
theorem dX8_feed_0 : decode cX8_feed 0 = .ok (.aload_n 0, 1) := by decide +kernel
theorem dX8_feed_1 : decode cX8_feed 1 = .ok (.iconst 0, 1) := by decide +kernel
theorem dX8_feed_2 : decode cX8_feed 2 = .ok (.putfield 64, 3) := by decide +kernel
theorem dX8_feed_5 : decode cX8_feed 5 = .ok (.aload_n 0, 1) := by decide +kernel
theorem dX8_feed_6 : decode cX8_feed 6 = .ok (.getfield 91, 3) := by decide +kernel
theorem dX8_feed_9 : decode cX8_feed 9 = .ok (.bipush 20, 2) := by decide +kernel
theorem dX8_feed_11 : decode cX8_feed 11 = .ok (.iadd, 1) := by decide +kernel
theorem dX8_feed_12 : decode cX8_feed 12 = .ok (.sipush 400, 3) := by decide +kernel
theorem dX8_feed_15 : decode cX8_feed 15 = .ok (.if_icmp .le 5, 3) := by decide +kernel
theorem dX8_feed_18 : decode cX8_feed 18 = .ok (.iconst (-1), 1) := by decide +kernel
theorem dX8_feed_19 : decode cX8_feed 19 = .ok (.ireturn, 1) := by decide +kernel
theorem dX8_feed_20 : decode cX8_feed 20 = .ok (.iconst 0, 1) := by decide +kernel
theorem dX8_feed_21 : decode cX8_feed 21 = .ok (.istore 6, 2) := by decide +kernel
theorem dX8_feed_23 : decode cX8_feed 23 = .ok (.iload 6, 2) := by decide +kernel
theorem dX8_feed_25 : decode cX8_feed 25 = .ok (.bipush 20, 2) := by decide +kernel
theorem dX8_feed_27 : decode cX8_feed 27 = .ok (.if_icmp .ge 93, 3) := by decide +kernel
theorem dX8_feed_30 : decode cX8_feed 30 = .ok (.iload 6, 2) := by decide +kernel
theorem dX8_feed_32 : decode cX8_feed 32 = .ok (.iconst 4, 1) := by decide +kernel
theorem dX8_feed_33 : decode cX8_feed 33 = .ok (.if_icmp .ge 7, 3) := by decide +kernel
theorem dX8_feed_36 : decode cX8_feed 36 = .ok (.iload_n 1, 1) := by decide +kernel
theorem dX8_feed_37 : decode cX8_feed 37 = .ok (.goto 39, 3) := by decide +kernel
theorem dX8_feed_40 : decode cX8_feed 40 = .ok (.iload 6, 2) := by decide +kernel
theorem dX8_feed_42 : decode cX8_feed 42 = .ok (.bipush 8, 2) := by decide +kernel
theorem dX8_feed_44 : decode cX8_feed 44 = .ok (.if_icmp .ge 7, 3) := by decide +kernel
theorem dX8_feed_47 : decode cX8_feed 47 = .ok (.iload_n 2, 1) := by decide +kernel
theorem dX8_feed_48 : decode cX8_feed 48 = .ok (.goto 28, 3) := by decide +kernel
theorem dX8_feed_51 : decode cX8_feed 51 = .ok (.iload 6, 2) := by decide +kernel
theorem dX8_feed_53 : decode cX8_feed 53 = .ok (.bipush 12, 2) := by decide +kernel
theorem dX8_feed_55 : decode cX8_feed 55 = .ok (.if_icmp .ge 7, 3) := by decide +kernel
theorem dX8_feed_58 : decode cX8_feed 58 = .ok (.iload_n 3, 1) := by decide +kernel
theorem dX8_feed_59 : decode cX8_feed 59 = .ok (.goto 17, 3) := by decide +kernel
theorem dX8_feed_62 : decode cX8_feed 62 = .ok (.iload 6, 2) := by decide +kernel
theorem dX8_feed_64 : decode cX8_feed 64 = .ok (.bipush 16, 2) := by decide +kernel
theorem dX8_feed_66 : decode cX8_feed 66 = .ok (.if_icmp .ge 8, 3) := by decide +kernel
theorem dX8_feed_69 : decode cX8_feed 69 = .ok (.iload 4, 2) := by decide +kernel
theorem dX8_feed_71 : decode cX8_feed 71 = .ok (.goto 5, 3) := by decide +kernel
theorem dX8_feed_74 : decode cX8_feed 74 = .ok (.iload 5, 2) := by decide +kernel
theorem dX8_feed_76 : decode cX8_feed 76 = .ok (.istore 7, 2) := by decide +kernel
theorem dX8_feed_78 : decode cX8_feed 78 = .ok (.aload_n 0, 1) := by decide +kernel
theorem dX8_feed_79 : decode cX8_feed 79 = .ok (.getfield 20, 3) := by decide +kernel
theorem dX8_feed_82 : decode cX8_feed 82 = .ok (.aload_n 0, 1) := by decide +kernel
theorem dX8_feed_83 : decode cX8_feed 83 = .ok (.getfield 91, 3) := by decide +kernel
theorem dX8_feed_86 : decode cX8_feed 86 = .ok (.iload 7, 2) := by decide +kernel
theorem dX8_feed_88 : decode cX8_feed 88 = .ok (.bipush 24, 2) := by decide +kernel
theorem dX8_feed_90 : decode cX8_feed 90 = .ok (.bipush 8, 2) := by decide +kernel
theorem dX8_feed_92 : decode cX8_feed 92 = .ok (.iload 6, 2) := by decide +kernel
theorem dX8_feed_94 : decode cX8_feed 94 = .ok (.iconst 3, 1) := by decide +kernel
theorem dX8_feed_95 : decode cX8_feed 95 = .ok (.iand, 1) := by decide +kernel
theorem dX8_feed_96 : decode cX8_feed 96 = .ok (.imul, 1) := by decide +kernel
theorem dX8_feed_97 : decode cX8_feed 97 = .ok (.isub, 1) := by decide +kernel
theorem dX8_feed_98 : decode cX8_feed 98 = .ok (.iushr, 1) := by decide +kernel
theorem dX8_feed_99 : decode cX8_feed 99 = .ok (.sipush 255, 3) := by decide +kernel
theorem dX8_feed_102 : decode cX8_feed 102 = .ok (.iand, 1) := by decide +kernel
theorem dX8_feed_103 : decode cX8_feed 103 = .ok (.iastore, 1) := by decide +kernel
theorem dX8_feed_104 : decode cX8_feed 104 = .ok (.aload_n 0, 1) := by decide +kernel
theorem dX8_feed_105 : decode cX8_feed 105 = .ok (.dup, 1) := by decide +kernel
theorem dX8_feed_106 : decode cX8_feed 106 = .ok (.getfield 91, 3) := by decide +kernel
theorem dX8_feed_109 : decode cX8_feed 109 = .ok (.iconst 1, 1) := by decide +kernel
theorem dX8_feed_110 : decode cX8_feed 110 = .ok (.iadd, 1) := by decide +kernel
theorem dX8_feed_111 : decode cX8_feed 111 = .ok (.putfield 91, 3) := by decide +kernel
theorem dX8_feed_114 : decode cX8_feed 114 = .ok (.iinc 6 1, 3) := by decide +kernel
theorem dX8_feed_117 : decode cX8_feed 117 = .ok (.goto (-94), 3) := by decide +kernel
theorem dX8_feed_120 : decode cX8_feed 120 = .ok (.aload_n 0, 1) := by decide +kernel
theorem dX8_feed_121 : decode cX8_feed 121 = .ok (.getfield 91, 3) := by decide +kernel
theorem dX8_feed_124 : decode cX8_feed 124 = .ok (.ireturn, 1) := by decide +kernel
theorem dX8_see_0 : decode cX8_see 0 = .ok (.iload_n 1, 1) := by decide +kernel
theorem dX8_see_1 : decode cX8_see 1 = .ok (.aload_n 0, 1) := by decide +kernel
theorem dX8_see_2 : decode cX8_see 2 = .ok (.getfield 94, 3) := by decide +kernel
theorem dX8_see_5 : decode cX8_see 5 = .ok (.if_icmp .ge 12, 3) := by decide +kernel
theorem dX8_see_8 : decode cX8_see 8 = .ok (.aload_n 0, 1) := by decide +kernel
theorem dX8_see_9 : decode cX8_see 9 = .ok (.getfield 20, 3) := by decide +kernel
theorem dX8_see_12 : decode cX8_see 12 = .ok (.iload_n 1, 1) := by decide +kernel
theorem dX8_see_13 : decode cX8_see 13 = .ok (.iaload, 1) := by decide +kernel
theorem dX8_see_14 : decode cX8_see 14 = .ok (.goto 4, 3) := by decide +kernel
theorem dX8_see_17 : decode cX8_see 17 = .ok (.iconst 0, 1) := by decide +kernel
theorem dX8_see_18 : decode cX8_see 18 = .ok (.ireturn, 1) := by decide +kernel
theorem dX8_isLetter_0 : decode cX8_isLetter 0 = .ok (.iload_n 0, 1) := by decide +kernel
theorem dX8_isLetter_1 : decode cX8_isLetter 1 = .ok (.bipush 97, 2) := by decide +kernel
theorem dX8_isLetter_3 : decode cX8_isLetter 3 = .ok (.if_icmp .lt 13, 3) := by decide +kernel
theorem dX8_isLetter_6 : decode cX8_isLetter 6 = .ok (.iload_n 0, 1) := by decide +kernel
theorem dX8_isLetter_7 : decode cX8_isLetter 7 = .ok (.bipush 122, 2) := by decide +kernel
theorem dX8_isLetter_9 : decode cX8_isLetter 9 = .ok (.if_icmp .gt 7, 3) := by decide +kernel
theorem dX8_isLetter_12 : decode cX8_isLetter 12 = .ok (.iconst 1, 1) := by decide +kernel
theorem dX8_isLetter_13 : decode cX8_isLetter 13 = .ok (.goto 4, 3) := by decide +kernel
theorem dX8_isLetter_16 : decode cX8_isLetter 16 = .ok (.iconst 0, 1) := by decide +kernel
theorem dX8_isLetter_17 : decode cX8_isLetter 17 = .ok (.ireturn, 1) := by decide +kernel
theorem dX8_isDigit_0 : decode cX8_isDigit 0 = .ok (.iload_n 0, 1) := by decide +kernel
theorem dX8_isDigit_1 : decode cX8_isDigit 1 = .ok (.bipush 48, 2) := by decide +kernel
theorem dX8_isDigit_3 : decode cX8_isDigit 3 = .ok (.if_icmp .lt 13, 3) := by decide +kernel
theorem dX8_isDigit_6 : decode cX8_isDigit 6 = .ok (.iload_n 0, 1) := by decide +kernel
theorem dX8_isDigit_7 : decode cX8_isDigit 7 = .ok (.bipush 57, 2) := by decide +kernel
theorem dX8_isDigit_9 : decode cX8_isDigit 9 = .ok (.if_icmp .gt 7, 3) := by decide +kernel
theorem dX8_isDigit_12 : decode cX8_isDigit 12 = .ok (.iconst 1, 1) := by decide +kernel
theorem dX8_isDigit_13 : decode cX8_isDigit 13 = .ok (.goto 4, 3) := by decide +kernel
theorem dX8_isDigit_16 : decode cX8_isDigit 16 = .ok (.iconst 0, 1) := by decide +kernel
theorem dX8_isDigit_17 : decode cX8_isDigit 17 = .ok (.ireturn, 1) := by decide +kernel
theorem dX8_next_0 : decode cX8_next 0 = .ok (.aload_n 0, 1) := by decide +kernel
theorem dX8_next_1 : decode cX8_next 1 = .ok (.getfield 97, 3) := by decide +kernel
theorem dX8_next_4 : decode cX8_next 4 = .ok (.aload_n 0, 1) := by decide +kernel
theorem dX8_next_5 : decode cX8_next 5 = .ok (.getfield 94, 3) := by decide +kernel
theorem dX8_next_8 : decode cX8_next 8 = .ok (.if_icmp .ge 44, 3) := by decide +kernel
theorem dX8_next_11 : decode cX8_next 11 = .ok (.aload_n 0, 1) := by decide +kernel
theorem dX8_next_12 : decode cX8_next 12 = .ok (.getfield 20, 3) := by decide +kernel
theorem dX8_next_15 : decode cX8_next 15 = .ok (.aload_n 0, 1) := by decide +kernel
theorem dX8_next_16 : decode cX8_next 16 = .ok (.getfield 97, 3) := by decide +kernel
theorem dX8_next_19 : decode cX8_next 19 = .ok (.iaload, 1) := by decide +kernel
theorem dX8_next_20 : decode cX8_next 20 = .ok (.bipush 32, 2) := by decide +kernel
theorem dX8_next_22 : decode cX8_next 22 = .ok (.if_icmp .eq 17, 3) := by decide +kernel
theorem dX8_next_25 : decode cX8_next 25 = .ok (.aload_n 0, 1) := by decide +kernel
theorem dX8_next_26 : decode cX8_next 26 = .ok (.getfield 20, 3) := by decide +kernel
theorem dX8_next_29 : decode cX8_next 29 = .ok (.aload_n 0, 1) := by decide +kernel
theorem dX8_next_30 : decode cX8_next 30 = .ok (.getfield 97, 3) := by decide +kernel
theorem dX8_next_33 : decode cX8_next 33 = .ok (.iaload, 1) := by decide +kernel
theorem dX8_next_34 : decode cX8_next 34 = .ok (.bipush 10, 2) := by decide +kernel
theorem dX8_next_36 : decode cX8_next 36 = .ok (.if_icmp .ne 16, 3) := by decide +kernel
theorem dX8_next_39 : decode cX8_next 39 = .ok (.aload_n 0, 1) := by decide +kernel
theorem dX8_next_40 : decode cX8_next 40 = .ok (.dup, 1) := by decide +kernel
theorem dX8_next_41 : decode cX8_next 41 = .ok (.getfield 97, 3) := by decide +kernel
theorem dX8_next_44 : decode cX8_next 44 = .ok (.iconst 1, 1) := by decide +kernel
theorem dX8_next_45 : decode cX8_next 45 = .ok (.iadd, 1) := by decide +kernel
theorem dX8_next_46 : decode cX8_next 46 = .ok (.putfield 97, 3) := by decide +kernel
theorem dX8_next_49 : decode cX8_next 49 = .ok (.goto (-49), 3) := by decide +kernel
theorem dX8_next_52 : decode cX8_next 52 = .ok (.aload_n 0, 1) := by decide +kernel
theorem dX8_next_53 : decode cX8_next 53 = .ok (.aload_n 0, 1) := by decide +kernel
theorem dX8_next_54 : decode cX8_next 54 = .ok (.getfield 97, 3) := by decide +kernel
theorem dX8_next_57 : decode cX8_next 57 = .ok (.putfield 100, 3) := by decide +kernel
theorem dX8_next_60 : decode cX8_next 60 = .ok (.aload_n 0, 1) := by decide +kernel
theorem dX8_next_61 : decode cX8_next 61 = .ok (.getfield 97, 3) := by decide +kernel
theorem dX8_next_64 : decode cX8_next 64 = .ok (.aload_n 0, 1) := by decide +kernel
theorem dX8_next_65 : decode cX8_next 65 = .ok (.getfield 94, 3) := by decide +kernel
theorem dX8_next_68 : decode cX8_next 68 = .ok (.if_icmp .lt 9, 3) := by decide +kernel
theorem dX8_next_71 : decode cX8_next 71 = .ok (.aload_n 0, 1) := by decide +kernel
theorem dX8_next_72 : decode cX8_next 72 = .ok (.iconst 0, 1) := by decide +kernel
theorem dX8_next_73 : decode cX8_next 73 = .ok (.putfield 103, 3) := by decide +kernel
theorem dX8_next_76 : decode cX8_next 76 = .ok (.return_, 1) := by decide +kernel
theorem dX8_next_77 : decode cX8_next 77 = .ok (.aload_n 0, 1) := by decide +kernel
theorem dX8_next_78 : decode cX8_next 78 = .ok (.getfield 20, 3) := by decide +kernel
theorem dX8_next_81 : decode cX8_next 81 = .ok (.aload_n 0, 1) := by decide +kernel
theorem dX8_next_82 : decode cX8_next 82 = .ok (.getfield 97, 3) := by decide +kernel
theorem dX8_next_85 : decode cX8_next 85 = .ok (.iaload, 1) := by decide +kernel
theorem dX8_next_86 : decode cX8_next 86 = .ok (.istore_n 1, 1) := by decide +kernel
theorem dX8_next_87 : decode cX8_next 87 = .ok (.iload_n 1, 1) := by decide +kernel
theorem dX8_next_88 : decode cX8_next 88 = .ok (.invokestatic 106, 3) := by decide +kernel
theorem dX8_next_91 : decode cX8_next 91 = .ok (.ifCond .eq 38, 3) := by decide +kernel
theorem dX8_next_94 : decode cX8_next 94 = .ok (.aload_n 0, 1) := by decide +kernel
theorem dX8_next_95 : decode cX8_next 95 = .ok (.aload_n 0, 1) := by decide +kernel
theorem dX8_next_96 : decode cX8_next 96 = .ok (.getfield 97, 3) := by decide +kernel
theorem dX8_next_99 : decode cX8_next 99 = .ok (.invokevirtual 110, 3) := by decide +kernel
theorem dX8_next_102 : decode cX8_next 102 = .ok (.invokestatic 106, 3) := by decide +kernel
theorem dX8_next_105 : decode cX8_next 105 = .ok (.ifCond .eq 16, 3) := by decide +kernel
theorem dX8_next_108 : decode cX8_next 108 = .ok (.aload_n 0, 1) := by decide +kernel
theorem dX8_next_109 : decode cX8_next 109 = .ok (.dup, 1) := by decide +kernel
theorem dX8_next_110 : decode cX8_next 110 = .ok (.getfield 97, 3) := by decide +kernel
theorem dX8_next_113 : decode cX8_next 113 = .ok (.iconst 1, 1) := by decide +kernel
theorem dX8_next_114 : decode cX8_next 114 = .ok (.iadd, 1) := by decide +kernel
theorem dX8_next_115 : decode cX8_next 115 = .ok (.putfield 97, 3) := by decide +kernel
theorem dX8_next_118 : decode cX8_next 118 = .ok (.goto (-24), 3) := by decide +kernel
theorem dX8_next_121 : decode cX8_next 121 = .ok (.aload_n 0, 1) := by decide +kernel
theorem dX8_next_122 : decode cX8_next 122 = .ok (.iconst 1, 1) := by decide +kernel
theorem dX8_next_123 : decode cX8_next 123 = .ok (.putfield 103, 3) := by decide +kernel
theorem dX8_next_126 : decode cX8_next 126 = .ok (.goto 136, 3) := by decide +kernel
theorem dX8_next_129 : decode cX8_next 129 = .ok (.iload_n 1, 1) := by decide +kernel
theorem dX8_next_130 : decode cX8_next 130 = .ok (.invokestatic 114, 3) := by decide +kernel
theorem dX8_next_133 : decode cX8_next 133 = .ok (.ifCond .eq 104, 3) := by decide +kernel
theorem dX8_next_136 : decode cX8_next 136 = .ok (.aload_n 0, 1) := by decide +kernel
theorem dX8_next_137 : decode cX8_next 137 = .ok (.iconst 0, 1) := by decide +kernel
theorem dX8_next_138 : decode cX8_next 138 = .ok (.putfield 117, 3) := by decide +kernel
theorem dX8_next_141 : decode cX8_next 141 = .ok (.aload_n 0, 1) := by decide +kernel
theorem dX8_next_142 : decode cX8_next 142 = .ok (.aload_n 0, 1) := by decide +kernel
theorem dX8_next_143 : decode cX8_next 143 = .ok (.getfield 97, 3) := by decide +kernel
theorem dX8_next_146 : decode cX8_next 146 = .ok (.invokevirtual 110, 3) := by decide +kernel
theorem dX8_next_149 : decode cX8_next 149 = .ok (.invokestatic 114, 3) := by decide +kernel
theorem dX8_next_152 : decode cX8_next 152 = .ok (.ifCond .eq 60, 3) := by decide +kernel
theorem dX8_next_155 : decode cX8_next 155 = .ok (.aload_n 0, 1) := by decide +kernel
theorem dX8_next_156 : decode cX8_next 156 = .ok (.aload_n 0, 1) := by decide +kernel
theorem dX8_next_157 : decode cX8_next 157 = .ok (.getfield 97, 3) := by decide +kernel
theorem dX8_next_160 : decode cX8_next 160 = .ok (.aload_n 0, 1) := by decide +kernel
theorem dX8_next_161 : decode cX8_next 161 = .ok (.getfield 100, 3) := by decide +kernel
theorem dX8_next_164 : decode cX8_next 164 = .ok (.isub, 1) := by decide +kernel
theorem dX8_next_165 : decode cX8_next 165 = .ok (.iconst 2, 1) := by decide +kernel
theorem dX8_next_166 : decode cX8_next 166 = .ok (.if_icmp .ge 26, 3) := by decide +kernel
theorem dX8_next_169 : decode cX8_next 169 = .ok (.bipush 10, 2) := by decide +kernel
theorem dX8_next_171 : decode cX8_next 171 = .ok (.aload_n 0, 1) := by decide +kernel
theorem dX8_next_172 : decode cX8_next 172 = .ok (.getfield 117, 3) := by decide +kernel
theorem dX8_next_175 : decode cX8_next 175 = .ok (.imul, 1) := by decide +kernel
theorem dX8_next_176 : decode cX8_next 176 = .ok (.aload_n 0, 1) := by decide +kernel
theorem dX8_next_177 : decode cX8_next 177 = .ok (.getfield 20, 3) := by decide +kernel
theorem dX8_next_180 : decode cX8_next 180 = .ok (.aload_n 0, 1) := by decide +kernel
theorem dX8_next_181 : decode cX8_next 181 = .ok (.getfield 97, 3) := by decide +kernel
theorem dX8_next_184 : decode cX8_next 184 = .ok (.iaload, 1) := by decide +kernel
theorem dX8_next_185 : decode cX8_next 185 = .ok (.iadd, 1) := by decide +kernel
theorem dX8_next_186 : decode cX8_next 186 = .ok (.bipush 48, 2) := by decide +kernel
theorem dX8_next_188 : decode cX8_next 188 = .ok (.isub, 1) := by decide +kernel
theorem dX8_next_189 : decode cX8_next 189 = .ok (.goto 7, 3) := by decide +kernel
theorem dX8_next_192 : decode cX8_next 192 = .ok (.aload_n 0, 1) := by decide +kernel
theorem dX8_next_193 : decode cX8_next 193 = .ok (.getfield 117, 3) := by decide +kernel
theorem dX8_next_196 : decode cX8_next 196 = .ok (.putfield 117, 3) := by decide +kernel
theorem dX8_next_199 : decode cX8_next 199 = .ok (.aload_n 0, 1) := by decide +kernel
theorem dX8_next_200 : decode cX8_next 200 = .ok (.dup, 1) := by decide +kernel
theorem dX8_next_201 : decode cX8_next 201 = .ok (.getfield 97, 3) := by decide +kernel
theorem dX8_next_204 : decode cX8_next 204 = .ok (.iconst 1, 1) := by decide +kernel
theorem dX8_next_205 : decode cX8_next 205 = .ok (.iadd, 1) := by decide +kernel
theorem dX8_next_206 : decode cX8_next 206 = .ok (.putfield 97, 3) := by decide +kernel
theorem dX8_next_209 : decode cX8_next 209 = .ok (.goto (-68), 3) := by decide +kernel
theorem dX8_next_212 : decode cX8_next 212 = .ok (.aload_n 0, 1) := by decide +kernel
theorem dX8_next_213 : decode cX8_next 213 = .ok (.aload_n 0, 1) := by decide +kernel
theorem dX8_next_214 : decode cX8_next 214 = .ok (.getfield 97, 3) := by decide +kernel
theorem dX8_next_217 : decode cX8_next 217 = .ok (.aload_n 0, 1) := by decide +kernel
theorem dX8_next_218 : decode cX8_next 218 = .ok (.getfield 100, 3) := by decide +kernel
theorem dX8_next_221 : decode cX8_next 221 = .ok (.isub, 1) := by decide +kernel
theorem dX8_next_222 : decode cX8_next 222 = .ok (.iconst 2, 1) := by decide +kernel
theorem dX8_next_223 : decode cX8_next 223 = .ok (.if_icmp .le 7, 3) := by decide +kernel
theorem dX8_next_226 : decode cX8_next 226 = .ok (.iconst 4, 1) := by decide +kernel
theorem dX8_next_227 : decode cX8_next 227 = .ok (.goto 4, 3) := by decide +kernel
theorem dX8_next_230 : decode cX8_next 230 = .ok (.iconst 2, 1) := by decide +kernel
theorem dX8_next_231 : decode cX8_next 231 = .ok (.putfield 103, 3) := by decide +kernel
theorem dX8_next_234 : decode cX8_next 234 = .ok (.goto 28, 3) := by decide +kernel
theorem dX8_next_237 : decode cX8_next 237 = .ok (.aload_n 0, 1) := by decide +kernel
theorem dX8_next_238 : decode cX8_next 238 = .ok (.iload_n 1, 1) := by decide +kernel
theorem dX8_next_239 : decode cX8_next 239 = .ok (.bipush 59, 2) := by decide +kernel
theorem dX8_next_241 : decode cX8_next 241 = .ok (.if_icmp .ne 7, 3) := by decide +kernel
theorem dX8_next_244 : decode cX8_next 244 = .ok (.iconst 3, 1) := by decide +kernel
theorem dX8_next_245 : decode cX8_next 245 = .ok (.goto 4, 3) := by decide +kernel
theorem dX8_next_248 : decode cX8_next 248 = .ok (.iconst 4, 1) := by decide +kernel
theorem dX8_next_249 : decode cX8_next 249 = .ok (.putfield 103, 3) := by decide +kernel
theorem dX8_next_252 : decode cX8_next 252 = .ok (.aload_n 0, 1) := by decide +kernel
theorem dX8_next_253 : decode cX8_next 253 = .ok (.dup, 1) := by decide +kernel
theorem dX8_next_254 : decode cX8_next 254 = .ok (.getfield 97, 3) := by decide +kernel
theorem dX8_next_257 : decode cX8_next 257 = .ok (.iconst 1, 1) := by decide +kernel
theorem dX8_next_258 : decode cX8_next 258 = .ok (.iadd, 1) := by decide +kernel
theorem dX8_next_259 : decode cX8_next 259 = .ok (.putfield 97, 3) := by decide +kernel
theorem dX8_next_262 : decode cX8_next 262 = .ok (.return_, 1) := by decide +kernel
theorem dX8_blames_0 : decode cX8_blames 0 = .ok (.aload_n 0, 1) := by decide +kernel
theorem dX8_blames_1 : decode cX8_blames 1 = .ok (.getfield 120, 3) := by decide +kernel
theorem dX8_blames_4 : decode cX8_blames 4 = .ok (.ifCond .eq 4, 3) := by decide +kernel
theorem dX8_blames_7 : decode cX8_blames 7 = .ok (.return_, 1) := by decide +kernel
theorem dX8_blames_8 : decode cX8_blames 8 = .ok (.aload_n 0, 1) := by decide +kernel
theorem dX8_blames_9 : decode cX8_blames 9 = .ok (.aload_n 0, 1) := by decide +kernel
theorem dX8_blames_10 : decode cX8_blames 10 = .ok (.getfield 103, 3) := by decide +kernel
theorem dX8_blames_13 : decode cX8_blames 13 = .ok (.iconst 4, 1) := by decide +kernel
theorem dX8_blames_14 : decode cX8_blames 14 = .ok (.if_icmp .ne 7, 3) := by decide +kernel
theorem dX8_blames_17 : decode cX8_blames 17 = .ok (.iconst 1, 1) := by decide +kernel
theorem dX8_blames_18 : decode cX8_blames 18 = .ok (.goto 4, 3) := by decide +kernel
theorem dX8_blames_21 : decode cX8_blames 21 = .ok (.iload_n 1, 1) := by decide +kernel
theorem dX8_blames_22 : decode cX8_blames 22 = .ok (.putfield 120, 3) := by decide +kernel
theorem dX8_blames_25 : decode cX8_blames 25 = .ok (.aload_n 0, 1) := by decide +kernel
theorem dX8_blames_26 : decode cX8_blames 26 = .ok (.aload_n 0, 1) := by decide +kernel
theorem dX8_blames_27 : decode cX8_blames 27 = .ok (.getfield 100, 3) := by decide +kernel
theorem dX8_blames_30 : decode cX8_blames 30 = .ok (.putfield 123, 3) := by decide +kernel
theorem dX8_blames_33 : decode cX8_blames 33 = .ok (.return_, 1) := by decide +kernel
theorem dX8_isWord_0 : decode cX8_isWord 0 = .ok (.aload_n 0, 1) := by decide +kernel
theorem dX8_isWord_1 : decode cX8_isWord 1 = .ok (.getfield 120, 3) := by decide +kernel
theorem dX8_isWord_4 : decode cX8_isWord 4 = .ok (.ifCond .ne 31, 3) := by decide +kernel
theorem dX8_isWord_7 : decode cX8_isWord 7 = .ok (.aload_n 0, 1) := by decide +kernel
theorem dX8_isWord_8 : decode cX8_isWord 8 = .ok (.getfield 103, 3) := by decide +kernel
theorem dX8_isWord_11 : decode cX8_isWord 11 = .ok (.iconst 1, 1) := by decide +kernel
theorem dX8_isWord_12 : decode cX8_isWord 12 = .ok (.if_icmp .ne 23, 3) := by decide +kernel
theorem dX8_isWord_15 : decode cX8_isWord 15 = .ok (.aload_n 0, 1) := by decide +kernel
theorem dX8_isWord_16 : decode cX8_isWord 16 = .ok (.getfield 97, 3) := by decide +kernel
theorem dX8_isWord_19 : decode cX8_isWord 19 = .ok (.aload_n 0, 1) := by decide +kernel
theorem dX8_isWord_20 : decode cX8_isWord 20 = .ok (.getfield 100, 3) := by decide +kernel
theorem dX8_isWord_23 : decode cX8_isWord 23 = .ok (.isub, 1) := by decide +kernel
theorem dX8_isWord_24 : decode cX8_isWord 24 = .ok (.aload_n 1, 1) := by decide +kernel
theorem dX8_isWord_25 : decode cX8_isWord 25 = .ok (.invokevirtual 126, 3) := by decide +kernel
theorem dX8_isWord_28 : decode cX8_isWord 28 = .ok (.if_icmp .ne 7, 3) := by decide +kernel
theorem dX8_isWord_31 : decode cX8_isWord 31 = .ok (.iconst 1, 1) := by decide +kernel
theorem dX8_isWord_32 : decode cX8_isWord 32 = .ok (.goto 4, 3) := by decide +kernel
theorem dX8_isWord_35 : decode cX8_isWord 35 = .ok (.iconst 0, 1) := by decide +kernel
theorem dX8_isWord_36 : decode cX8_isWord 36 = .ok (.istore_n 2, 1) := by decide +kernel
theorem dX8_isWord_37 : decode cX8_isWord 37 = .ok (.iconst 0, 1) := by decide +kernel
theorem dX8_isWord_38 : decode cX8_isWord 38 = .ok (.istore_n 3, 1) := by decide +kernel
theorem dX8_isWord_39 : decode cX8_isWord 39 = .ok (.iload_n 2, 1) := by decide +kernel
theorem dX8_isWord_40 : decode cX8_isWord 40 = .ok (.ifCond .eq 42, 3) := by decide +kernel
theorem dX8_isWord_43 : decode cX8_isWord 43 = .ok (.iload_n 3, 1) := by decide +kernel
theorem dX8_isWord_44 : decode cX8_isWord 44 = .ok (.aload_n 1, 1) := by decide +kernel
theorem dX8_isWord_45 : decode cX8_isWord 45 = .ok (.invokevirtual 126, 3) := by decide +kernel
theorem dX8_isWord_48 : decode cX8_isWord 48 = .ok (.if_icmp .ge 34, 3) := by decide +kernel
theorem dX8_isWord_51 : decode cX8_isWord 51 = .ok (.aload_n 0, 1) := by decide +kernel
theorem dX8_isWord_52 : decode cX8_isWord 52 = .ok (.getfield 20, 3) := by decide +kernel
theorem dX8_isWord_55 : decode cX8_isWord 55 = .ok (.aload_n 0, 1) := by decide +kernel
theorem dX8_isWord_56 : decode cX8_isWord 56 = .ok (.getfield 100, 3) := by decide +kernel
theorem dX8_isWord_59 : decode cX8_isWord 59 = .ok (.iload_n 3, 1) := by decide +kernel
theorem dX8_isWord_60 : decode cX8_isWord 60 = .ok (.iadd, 1) := by decide +kernel
theorem dX8_isWord_61 : decode cX8_isWord 61 = .ok (.iaload, 1) := by decide +kernel
theorem dX8_isWord_62 : decode cX8_isWord 62 = .ok (.aload_n 1, 1) := by decide +kernel
theorem dX8_isWord_63 : decode cX8_isWord 63 = .ok (.iload_n 3, 1) := by decide +kernel
theorem dX8_isWord_64 : decode cX8_isWord 64 = .ok (.invokevirtual 132, 3) := by decide +kernel
theorem dX8_isWord_67 : decode cX8_isWord 67 = .ok (.if_icmp .ne 7, 3) := by decide +kernel
theorem dX8_isWord_70 : decode cX8_isWord 70 = .ok (.iconst 1, 1) := by decide +kernel
theorem dX8_isWord_71 : decode cX8_isWord 71 = .ok (.goto 4, 3) := by decide +kernel
theorem dX8_isWord_74 : decode cX8_isWord 74 = .ok (.iconst 0, 1) := by decide +kernel
theorem dX8_isWord_75 : decode cX8_isWord 75 = .ok (.istore_n 2, 1) := by decide +kernel
theorem dX8_isWord_76 : decode cX8_isWord 76 = .ok (.iinc 3 1, 3) := by decide +kernel
theorem dX8_isWord_79 : decode cX8_isWord 79 = .ok (.goto (-40), 3) := by decide +kernel
theorem dX8_isWord_82 : decode cX8_isWord 82 = .ok (.iload_n 2, 1) := by decide +kernel
theorem dX8_isWord_83 : decode cX8_isWord 83 = .ok (.ireturn, 1) := by decide +kernel
theorem dX8_number_0 : decode cX8_number 0 = .ok (.aload_n 0, 1) := by decide +kernel
theorem dX8_number_1 : decode cX8_number 1 = .ok (.getfield 103, 3) := by decide +kernel
theorem dX8_number_4 : decode cX8_number 4 = .ok (.iconst 2, 1) := by decide +kernel
theorem dX8_number_5 : decode cX8_number 5 = .ok (.if_icmp .eq 11, 3) := by decide +kernel
theorem dX8_number_8 : decode cX8_number 8 = .ok (.aload_n 0, 1) := by decide +kernel
theorem dX8_number_9 : decode cX8_number 9 = .ok (.iconst 2, 1) := by decide +kernel
theorem dX8_number_10 : decode cX8_number 10 = .ok (.invokevirtual 136, 3) := by decide +kernel
theorem dX8_number_13 : decode cX8_number 13 = .ok (.goto 23, 3) := by decide +kernel
theorem dX8_number_16 : decode cX8_number 16 = .ok (.aload_n 0, 1) := by decide +kernel
theorem dX8_number_17 : decode cX8_number 17 = .ok (.getfield 117, 3) := by decide +kernel
theorem dX8_number_20 : decode cX8_number 20 = .ok (.i2l, 1) := by decide +kernel
theorem dX8_number_21 : decode cX8_number 21 = .ok (.iload_n 1, 1) := by decide +kernel
theorem dX8_number_22 : decode cX8_number 22 = .ok (.i2l, 1) := by decide +kernel
theorem dX8_number_23 : decode cX8_number 23 = .ok (.iload_n 2, 1) := by decide +kernel
theorem dX8_number_24 : decode cX8_number 24 = .ok (.i2l, 1) := by decide +kernel
theorem dX8_number_25 : decode cX8_number 25 = .ok (.invokestatic 67, 3) := by decide +kernel
theorem dX8_number_28 : decode cX8_number 28 = .ok (.ifCond .ne 8, 3) := by decide +kernel
theorem dX8_number_31 : decode cX8_number 31 = .ok (.aload_n 0, 1) := by decide +kernel
theorem dX8_number_32 : decode cX8_number 32 = .ok (.iconst 3, 1) := by decide +kernel
theorem dX8_number_33 : decode cX8_number 33 = .ok (.invokevirtual 136, 3) := by decide +kernel
theorem dX8_number_36 : decode cX8_number 36 = .ok (.aload_n 0, 1) := by decide +kernel
theorem dX8_number_37 : decode cX8_number 37 = .ok (.getfield 117, 3) := by decide +kernel
theorem dX8_number_40 : decode cX8_number 40 = .ok (.istore_n 3, 1) := by decide +kernel
theorem dX8_number_41 : decode cX8_number 41 = .ok (.aload_n 0, 1) := by decide +kernel
theorem dX8_number_42 : decode cX8_number 42 = .ok (.getfield 120, 3) := by decide +kernel
theorem dX8_number_45 : decode cX8_number 45 = .ok (.ifCond .ne 7, 3) := by decide +kernel
theorem dX8_number_48 : decode cX8_number 48 = .ok (.aload_n 0, 1) := by decide +kernel
theorem dX8_number_49 : decode cX8_number 49 = .ok (.invokevirtual 140, 3) := by decide +kernel
theorem dX8_number_52 : decode cX8_number 52 = .ok (.iload_n 3, 1) := by decide +kernel
theorem dX8_number_53 : decode cX8_number 53 = .ok (.ireturn, 1) := by decide +kernel
theorem dX8_stop_0 : decode cX8_stop 0 = .ok (.aload_n 0, 1) := by decide +kernel
theorem dX8_stop_1 : decode cX8_stop 1 = .ok (.getfield 120, 3) := by decide +kernel
theorem dX8_stop_4 : decode cX8_stop 4 = .ok (.ifCond .ne 16, 3) := by decide +kernel
theorem dX8_stop_7 : decode cX8_stop 7 = .ok (.aload_n 0, 1) := by decide +kernel
theorem dX8_stop_8 : decode cX8_stop 8 = .ok (.getfield 103, 3) := by decide +kernel
theorem dX8_stop_11 : decode cX8_stop 11 = .ok (.iconst 3, 1) := by decide +kernel
theorem dX8_stop_12 : decode cX8_stop 12 = .ok (.if_icmp .eq 8, 3) := by decide +kernel
theorem dX8_stop_15 : decode cX8_stop 15 = .ok (.aload_n 0, 1) := by decide +kernel
theorem dX8_stop_16 : decode cX8_stop 16 = .ok (.iconst 2, 1) := by decide +kernel
theorem dX8_stop_17 : decode cX8_stop 17 = .ok (.invokevirtual 136, 3) := by decide +kernel
theorem dX8_stop_20 : decode cX8_stop 20 = .ok (.aload_n 0, 1) := by decide +kernel
theorem dX8_stop_21 : decode cX8_stop 21 = .ok (.getfield 120, 3) := by decide +kernel
theorem dX8_stop_24 : decode cX8_stop 24 = .ok (.ifCond .ne 7, 3) := by decide +kernel
theorem dX8_stop_27 : decode cX8_stop 27 = .ok (.aload_n 0, 1) := by decide +kernel
theorem dX8_stop_28 : decode cX8_stop 28 = .ok (.invokevirtual 140, 3) := by decide +kernel
theorem dX8_stop_31 : decode cX8_stop 31 = .ok (.return_, 1) := by decide +kernel
theorem dX8_begins_0 : decode cX8_begins 0 = .ok (.aload_n 0, 1) := by decide +kernel
theorem dX8_begins_1 : decode cX8_begins 1 = .ok (.iload_n 1, 1) := by decide +kernel
theorem dX8_begins_2 : decode cX8_begins 2 = .ok (.putfield 94, 3) := by decide +kernel
theorem dX8_begins_5 : decode cX8_begins 5 = .ok (.aload_n 0, 1) := by decide +kernel
theorem dX8_begins_6 : decode cX8_begins 6 = .ok (.iconst 0, 1) := by decide +kernel
theorem dX8_begins_7 : decode cX8_begins 7 = .ok (.putfield 91, 3) := by decide +kernel
theorem dX8_begins_10 : decode cX8_begins 10 = .ok (.aload_n 0, 1) := by decide +kernel
theorem dX8_begins_11 : decode cX8_begins 11 = .ok (.iconst 0, 1) := by decide +kernel
theorem dX8_begins_12 : decode cX8_begins 12 = .ok (.putfield 97, 3) := by decide +kernel
theorem dX8_begins_15 : decode cX8_begins 15 = .ok (.aload_n 0, 1) := by decide +kernel
theorem dX8_begins_16 : decode cX8_begins 16 = .ok (.iconst 0, 1) := by decide +kernel
theorem dX8_begins_17 : decode cX8_begins 17 = .ok (.putfield 120, 3) := by decide +kernel
theorem dX8_begins_20 : decode cX8_begins 20 = .ok (.aload_n 0, 1) := by decide +kernel
theorem dX8_begins_21 : decode cX8_begins 21 = .ok (.invokevirtual 140, 3) := by decide +kernel
theorem dX8_begins_24 : decode cX8_begins 24 = .ok (.return_, 1) := by decide +kernel
theorem dX8_ends_0 : decode cX8_ends 0 = .ok (.aload_n 0, 1) := by decide +kernel
theorem dX8_ends_1 : decode cX8_ends 1 = .ok (.aload_n 0, 1) := by decide +kernel
theorem dX8_ends_2 : decode cX8_ends 2 = .ok (.getfield 120, 3) := by decide +kernel
theorem dX8_ends_5 : decode cX8_ends 5 = .ok (.putfield 143, 3) := by decide +kernel
theorem dX8_ends_8 : decode cX8_ends 8 = .ok (.aload_n 0, 1) := by decide +kernel
theorem dX8_ends_9 : decode cX8_ends 9 = .ok (.aload_n 0, 1) := by decide +kernel
theorem dX8_ends_10 : decode cX8_ends 10 = .ok (.getfield 120, 3) := by decide +kernel
theorem dX8_ends_13 : decode cX8_ends 13 = .ok (.ifCond .ne 7, 3) := by decide +kernel
theorem dX8_ends_16 : decode cX8_ends 16 = .ok (.iconst (-1), 1) := by decide +kernel
theorem dX8_ends_17 : decode cX8_ends 17 = .ok (.goto 7, 3) := by decide +kernel
theorem dX8_ends_20 : decode cX8_ends 20 = .ok (.aload_n 0, 1) := by decide +kernel
theorem dX8_ends_21 : decode cX8_ends 21 = .ok (.getfield 123, 3) := by decide +kernel
theorem dX8_ends_24 : decode cX8_ends 24 = .ok (.putfield 29, 3) := by decide +kernel
theorem dX8_ends_27 : decode cX8_ends 27 = .ok (.aload_n 0, 1) := by decide +kernel
theorem dX8_ends_28 : decode cX8_ends 28 = .ok (.getfield 120, 3) := by decide +kernel
theorem dX8_ends_31 : decode cX8_ends 31 = .ok (.ifCond .ne 7, 3) := by decide +kernel
theorem dX8_ends_34 : decode cX8_ends 34 = .ok (.iload_n 1, 1) := by decide +kernel
theorem dX8_ends_35 : decode cX8_ends 35 = .ok (.goto 10, 3) := by decide +kernel
theorem dX8_ends_38 : decode cX8_ends 38 = .ok (.bipush (-10), 2) := by decide +kernel
theorem dX8_ends_40 : decode cX8_ends 40 = .ok (.aload_n 0, 1) := by decide +kernel
theorem dX8_ends_41 : decode cX8_ends 41 = .ok (.getfield 120, 3) := by decide +kernel
theorem dX8_ends_44 : decode cX8_ends 44 = .ok (.isub, 1) := by decide +kernel
theorem dX8_ends_45 : decode cX8_ends 45 = .ok (.ireturn, 1) := by decide +kernel
theorem dX8_way_0 : decode cX8_way 0 = .ok (.aload_n 0, 1) := by decide +kernel
theorem dX8_way_1 : decode cX8_way 1 = .ok (.iconst 0, 1) := by decide +kernel
theorem dX8_way_2 : decode cX8_way 2 = .ok (.putfield 64, 3) := by decide +kernel
theorem dX8_way_5 : decode cX8_way 5 = .ok (.iload_n 1, 1) := by decide +kernel
theorem dX8_way_6 : decode cX8_way 6 = .ok (.i2l, 1) := by decide +kernel
theorem dX8_way_7 : decode cX8_way 7 = .ok (.lconst 0, 1) := by decide +kernel
theorem dX8_way_8 : decode cX8_way 8 = .ok (.aload_n 0, 1) := by decide +kernel
theorem dX8_way_9 : decode cX8_way 9 = .ok (.getfield 91, 3) := by decide +kernel
theorem dX8_way_12 : decode cX8_way 12 = .ok (.i2l, 1) := by decide +kernel
theorem dX8_way_13 : decode cX8_way 13 = .ok (.invokestatic 67, 3) := by decide +kernel
theorem dX8_way_16 : decode cX8_way 16 = .ok (.ifCond .ne 9, 3) := by decide +kernel
theorem dX8_way_19 : decode cX8_way 19 = .ok (.aload_n 0, 1) := by decide +kernel
theorem dX8_way_20 : decode cX8_way 20 = .ok (.iconst 1, 1) := by decide +kernel
theorem dX8_way_21 : decode cX8_way 21 = .ok (.invokevirtual 146, 3) := by decide +kernel
theorem dX8_way_24 : decode cX8_way 24 = .ok (.ireturn, 1) := by decide +kernel
theorem dX8_way_25 : decode cX8_way 25 = .ok (.aload_n 0, 1) := by decide +kernel
theorem dX8_way_26 : decode cX8_way 26 = .ok (.getfield 9, 3) := by decide +kernel
theorem dX8_way_29 : decode cX8_way 29 = .ok (.iconst 2, 1) := by decide +kernel
theorem dX8_way_30 : decode cX8_way 30 = .ok (.iaload, 1) := by decide +kernel
theorem dX8_way_31 : decode cX8_way 31 = .ok (.bipush 6, 2) := by decide +kernel
theorem dX8_way_33 : decode cX8_way 33 = .ok (.if_icmp .ne 5, 3) := by decide +kernel
theorem dX8_way_36 : decode cX8_way 36 = .ok (.iconst (-1), 1) := by decide +kernel
theorem dX8_way_37 : decode cX8_way 37 = .ok (.ireturn, 1) := by decide +kernel
theorem dX8_way_38 : decode cX8_way 38 = .ok (.aload_n 0, 1) := by decide +kernel
theorem dX8_way_39 : decode cX8_way 39 = .ok (.iload_n 1, 1) := by decide +kernel
theorem dX8_way_40 : decode cX8_way 40 = .ok (.invokevirtual 149, 3) := by decide +kernel
theorem dX8_way_43 : decode cX8_way 43 = .ok (.aload_n 0, 1) := by decide +kernel
theorem dX8_way_44 : decode cX8_way 44 = .ok (.getfield 26, 3) := by decide +kernel
theorem dX8_way_47 : decode cX8_way 47 = .ok (.iconst 0, 1) := by decide +kernel
theorem dX8_way_48 : decode cX8_way 48 = .ok (.iconst 0, 1) := by decide +kernel
theorem dX8_way_49 : decode cX8_way 49 = .ok (.iastore, 1) := by decide +kernel
theorem dX8_way_50 : decode cX8_way 50 = .ok (.aload_n 0, 1) := by decide +kernel
theorem dX8_way_51 : decode cX8_way 51 = .ok (.getfield 120, 3) := by decide +kernel
theorem dX8_way_54 : decode cX8_way 54 = .ok (.ifCond .ne 135, 3) := by decide +kernel
theorem dX8_way_57 : decode cX8_way 57 = .ok (.aload_n 0, 1) := by decide +kernel
theorem dX8_way_58 : decode cX8_way 58 = .ok (.getfield 103, 3) := by decide +kernel
theorem dX8_way_61 : decode cX8_way 61 = .ok (.ifCond .eq 128, 3) := by decide +kernel
theorem dX8_way_64 : decode cX8_way 64 = .ok (.aload_n 0, 1) := by decide +kernel
theorem dX8_way_65 : decode cX8_way 65 = .ok (.ldc 152, 2) := by decide +kernel
theorem dX8_way_67 : decode cX8_way 67 = .ok (.invokevirtual 154, 3) := by decide +kernel
theorem dX8_way_70 : decode cX8_way 70 = .ok (.ifCond .eq 7, 3) := by decide +kernel
theorem dX8_way_73 : decode cX8_way 73 = .ok (.iconst 0, 1) := by decide +kernel
theorem dX8_way_74 : decode cX8_way 74 = .ok (.goto 30, 3) := by decide +kernel
theorem dX8_way_77 : decode cX8_way 77 = .ok (.aload_n 0, 1) := by decide +kernel
theorem dX8_way_78 : decode cX8_way 78 = .ok (.ldc 158, 2) := by decide +kernel
theorem dX8_way_80 : decode cX8_way 80 = .ok (.invokevirtual 154, 3) := by decide +kernel
theorem dX8_way_83 : decode cX8_way 83 = .ok (.ifCond .eq 7, 3) := by decide +kernel
theorem dX8_way_86 : decode cX8_way 86 = .ok (.iconst 1, 1) := by decide +kernel
theorem dX8_way_87 : decode cX8_way 87 = .ok (.goto 17, 3) := by decide +kernel
theorem dX8_way_90 : decode cX8_way 90 = .ok (.aload_n 0, 1) := by decide +kernel
theorem dX8_way_91 : decode cX8_way 91 = .ok (.ldc 160, 2) := by decide +kernel
theorem dX8_way_93 : decode cX8_way 93 = .ok (.invokevirtual 154, 3) := by decide +kernel
theorem dX8_way_96 : decode cX8_way 96 = .ok (.ifCond .eq 7, 3) := by decide +kernel
theorem dX8_way_99 : decode cX8_way 99 = .ok (.iconst 2, 1) := by decide +kernel
theorem dX8_way_100 : decode cX8_way 100 = .ok (.goto 4, 3) := by decide +kernel
theorem dX8_way_103 : decode cX8_way 103 = .ok (.iconst (-1), 1) := by decide +kernel
theorem dX8_way_104 : decode cX8_way 104 = .ok (.istore_n 2, 1) := by decide +kernel
theorem dX8_way_105 : decode cX8_way 105 = .ok (.aload_n 0, 1) := by decide +kernel
theorem dX8_way_106 : decode cX8_way 106 = .ok (.getfield 26, 3) := by decide +kernel
theorem dX8_way_109 : decode cX8_way 109 = .ok (.iconst 0, 1) := by decide +kernel
theorem dX8_way_110 : decode cX8_way 110 = .ok (.iaload, 1) := by decide +kernel
theorem dX8_way_111 : decode cX8_way 111 = .ok (.istore_n 3, 1) := by decide +kernel
theorem dX8_way_112 : decode cX8_way 112 = .ok (.iload_n 2, 1) := by decide +kernel
theorem dX8_way_113 : decode cX8_way 113 = .ok (.iconst (-1), 1) := by decide +kernel
theorem dX8_way_114 : decode cX8_way 114 = .ok (.if_icmp .eq 9, 3) := by decide +kernel
theorem dX8_way_117 : decode cX8_way 117 = .ok (.iload_n 3, 1) := by decide +kernel
theorem dX8_way_118 : decode cX8_way 118 = .ok (.bipush 11, 2) := by decide +kernel
theorem dX8_way_120 : decode cX8_way 120 = .ok (.if_icmp .ne 20, 3) := by decide +kernel
theorem dX8_way_123 : decode cX8_way 123 = .ok (.aload_n 0, 1) := by decide +kernel
theorem dX8_way_124 : decode cX8_way 124 = .ok (.iload_n 2, 1) := by decide +kernel
theorem dX8_way_125 : decode cX8_way 125 = .ok (.iconst (-1), 1) := by decide +kernel
theorem dX8_way_126 : decode cX8_way 126 = .ok (.if_icmp .ne 7, 3) := by decide +kernel
theorem dX8_way_129 : decode cX8_way 129 = .ok (.iconst 2, 1) := by decide +kernel
theorem dX8_way_130 : decode cX8_way 130 = .ok (.goto 4, 3) := by decide +kernel
theorem dX8_way_133 : decode cX8_way 133 = .ok (.iconst 4, 1) := by decide +kernel
theorem dX8_way_134 : decode cX8_way 134 = .ok (.invokevirtual 136, 3) := by decide +kernel
theorem dX8_way_137 : decode cX8_way 137 = .ok (.goto (-87), 3) := by decide +kernel
theorem dX8_way_140 : decode cX8_way 140 = .ok (.aload_n 0, 1) := by decide +kernel
theorem dX8_way_141 : decode cX8_way 141 = .ok (.invokevirtual 140, 3) := by decide +kernel
theorem dX8_way_144 : decode cX8_way 144 = .ok (.aload_n 0, 1) := by decide +kernel
theorem dX8_way_145 : decode cX8_way 145 = .ok (.getfield 26, 3) := by decide +kernel
theorem dX8_way_148 : decode cX8_way 148 = .ok (.iconst 1, 1) := by decide +kernel
theorem dX8_way_149 : decode cX8_way 149 = .ok (.iconst 2, 1) := by decide +kernel
theorem dX8_way_150 : decode cX8_way 150 = .ok (.iload_n 3, 1) := by decide +kernel
theorem dX8_way_151 : decode cX8_way 151 = .ok (.imul, 1) := by decide +kernel
theorem dX8_way_152 : decode cX8_way 152 = .ok (.iadd, 1) := by decide +kernel
theorem dX8_way_153 : decode cX8_way 153 = .ok (.iload_n 2, 1) := by decide +kernel
theorem dX8_way_154 : decode cX8_way 154 = .ok (.iastore, 1) := by decide +kernel
theorem dX8_way_155 : decode cX8_way 155 = .ok (.aload_n 0, 1) := by decide +kernel
theorem dX8_way_156 : decode cX8_way 156 = .ok (.getfield 26, 3) := by decide +kernel
theorem dX8_way_159 : decode cX8_way 159 = .ok (.iconst 2, 1) := by decide +kernel
theorem dX8_way_160 : decode cX8_way 160 = .ok (.iconst 2, 1) := by decide +kernel
theorem dX8_way_161 : decode cX8_way 161 = .ok (.iload_n 3, 1) := by decide +kernel
theorem dX8_way_162 : decode cX8_way 162 = .ok (.imul, 1) := by decide +kernel
theorem dX8_way_163 : decode cX8_way 163 = .ok (.iadd, 1) := by decide +kernel
theorem dX8_way_164 : decode cX8_way 164 = .ok (.aload_n 0, 1) := by decide +kernel
theorem dX8_way_165 : decode cX8_way 165 = .ok (.iconst 1, 1) := by decide +kernel
theorem dX8_way_166 : decode cX8_way 166 = .ok (.bipush 12, 2) := by decide +kernel
theorem dX8_way_168 : decode cX8_way 168 = .ok (.invokevirtual 162, 3) := by decide +kernel
theorem dX8_way_171 : decode cX8_way 171 = .ok (.iastore, 1) := by decide +kernel
theorem dX8_way_172 : decode cX8_way 172 = .ok (.aload_n 0, 1) := by decide +kernel
theorem dX8_way_173 : decode cX8_way 173 = .ok (.getfield 26, 3) := by decide +kernel
theorem dX8_way_176 : decode cX8_way 176 = .ok (.iconst 0, 1) := by decide +kernel
theorem dX8_way_177 : decode cX8_way 177 = .ok (.dup2, 1) := by decide +kernel
theorem dX8_way_178 : decode cX8_way 178 = .ok (.iaload, 1) := by decide +kernel
theorem dX8_way_179 : decode cX8_way 179 = .ok (.iconst 1, 1) := by decide +kernel
theorem dX8_way_180 : decode cX8_way 180 = .ok (.iadd, 1) := by decide +kernel
theorem dX8_way_181 : decode cX8_way 181 = .ok (.iastore, 1) := by decide +kernel
theorem dX8_way_182 : decode cX8_way 182 = .ok (.aload_n 0, 1) := by decide +kernel
theorem dX8_way_183 : decode cX8_way 183 = .ok (.invokevirtual 166, 3) := by decide +kernel
theorem dX8_way_186 : decode cX8_way 186 = .ok (.goto (-136), 3) := by decide +kernel
theorem dX8_way_189 : decode cX8_way 189 = .ok (.aload_n 0, 1) := by decide +kernel
theorem dX8_way_190 : decode cX8_way 190 = .ok (.getfield 120, 3) := by decide +kernel
theorem dX8_way_193 : decode cX8_way 193 = .ok (.ifCond .ne 52, 3) := by decide +kernel
theorem dX8_way_196 : decode cX8_way 196 = .ok (.iconst 0, 1) := by decide +kernel
theorem dX8_way_197 : decode cX8_way 197 = .ok (.istore_n 2, 1) := by decide +kernel
theorem dX8_way_198 : decode cX8_way 198 = .ok (.iload_n 2, 1) := by decide +kernel
theorem dX8_way_199 : decode cX8_way 199 = .ok (.bipush 23, 2) := by decide +kernel
theorem dX8_way_201 : decode cX8_way 201 = .ok (.if_icmp .ge 34, 3) := by decide +kernel
theorem dX8_way_204 : decode cX8_way 204 = .ok (.aload_n 0, 1) := by decide +kernel
theorem dX8_way_205 : decode cX8_way 205 = .ok (.getfield 9, 3) := by decide +kernel
theorem dX8_way_208 : decode cX8_way 208 = .ok (.bipush 31, 2) := by decide +kernel
theorem dX8_way_210 : decode cX8_way 210 = .ok (.bipush 23, 2) := by decide +kernel
theorem dX8_way_212 : decode cX8_way 212 = .ok (.aload_n 0, 1) := by decide +kernel
theorem dX8_way_213 : decode cX8_way 213 = .ok (.getfield 9, 3) := by decide +kernel
theorem dX8_way_216 : decode cX8_way 216 = .ok (.iconst 2, 1) := by decide +kernel
theorem dX8_way_217 : decode cX8_way 217 = .ok (.iaload, 1) := by decide +kernel
theorem dX8_way_218 : decode cX8_way 218 = .ok (.imul, 1) := by decide +kernel
theorem dX8_way_219 : decode cX8_way 219 = .ok (.iadd, 1) := by decide +kernel
theorem dX8_way_220 : decode cX8_way 220 = .ok (.iload_n 2, 1) := by decide +kernel
theorem dX8_way_221 : decode cX8_way 221 = .ok (.iadd, 1) := by decide +kernel
theorem dX8_way_222 : decode cX8_way 222 = .ok (.aload_n 0, 1) := by decide +kernel
theorem dX8_way_223 : decode cX8_way 223 = .ok (.getfield 26, 3) := by decide +kernel
theorem dX8_way_226 : decode cX8_way 226 = .ok (.iload_n 2, 1) := by decide +kernel
theorem dX8_way_227 : decode cX8_way 227 = .ok (.iaload, 1) := by decide +kernel
theorem dX8_way_228 : decode cX8_way 228 = .ok (.iastore, 1) := by decide +kernel
theorem dX8_way_229 : decode cX8_way 229 = .ok (.iinc 2 1, 3) := by decide +kernel
theorem dX8_way_232 : decode cX8_way 232 = .ok (.goto (-34), 3) := by decide +kernel
theorem dX8_way_235 : decode cX8_way 235 = .ok (.aload_n 0, 1) := by decide +kernel
theorem dX8_way_236 : decode cX8_way 236 = .ok (.getfield 9, 3) := by decide +kernel
theorem dX8_way_239 : decode cX8_way 239 = .ok (.iconst 2, 1) := by decide +kernel
theorem dX8_way_240 : decode cX8_way 240 = .ok (.dup2, 1) := by decide +kernel
theorem dX8_way_241 : decode cX8_way 241 = .ok (.iaload, 1) := by decide +kernel
theorem dX8_way_242 : decode cX8_way 242 = .ok (.iconst 1, 1) := by decide +kernel
theorem dX8_way_243 : decode cX8_way 243 = .ok (.iadd, 1) := by decide +kernel
theorem dX8_way_244 : decode cX8_way 244 = .ok (.iastore, 1) := by decide +kernel
theorem dX8_way_245 : decode cX8_way 245 = .ok (.aload_n 0, 1) := by decide +kernel
theorem dX8_way_246 : decode cX8_way 246 = .ok (.aload_n 0, 1) := by decide +kernel
theorem dX8_way_247 : decode cX8_way 247 = .ok (.getfield 9, 3) := by decide +kernel
theorem dX8_way_250 : decode cX8_way 250 = .ok (.iconst 2, 1) := by decide +kernel
theorem dX8_way_251 : decode cX8_way 251 = .ok (.iaload, 1) := by decide +kernel
theorem dX8_way_252 : decode cX8_way 252 = .ok (.iconst 1, 1) := by decide +kernel
theorem dX8_way_253 : decode cX8_way 253 = .ok (.isub, 1) := by decide +kernel
theorem dX8_way_254 : decode cX8_way 254 = .ok (.invokevirtual 169, 3) := by decide +kernel
theorem dX8_way_257 : decode cX8_way 257 = .ok (.ireturn, 1) := by decide +kernel
theorem dX8_plainLaw_0 : decode cX8_plainLaw 0 = .ok (.aload_n 0, 1) := by decide +kernel
theorem dX8_plainLaw_1 : decode cX8_plainLaw 1 = .ok (.getfield 23, 3) := by decide +kernel
theorem dX8_plainLaw_4 : decode cX8_plainLaw 4 = .ok (.iconst 0, 1) := by decide +kernel
theorem dX8_plainLaw_5 : decode cX8_plainLaw 5 = .ok (.bipush 10, 2) := by decide +kernel
theorem dX8_plainLaw_7 : decode cX8_plainLaw 7 = .ok (.iastore, 1) := by decide +kernel
theorem dX8_plainLaw_8 : decode cX8_plainLaw 8 = .ok (.aload_n 0, 1) := by decide +kernel
theorem dX8_plainLaw_9 : decode cX8_plainLaw 9 = .ok (.getfield 23, 3) := by decide +kernel
theorem dX8_plainLaw_12 : decode cX8_plainLaw 12 = .ok (.iconst 1, 1) := by decide +kernel
theorem dX8_plainLaw_13 : decode cX8_plainLaw 13 = .ok (.bipush 10, 2) := by decide +kernel
theorem dX8_plainLaw_15 : decode cX8_plainLaw 15 = .ok (.iastore, 1) := by decide +kernel
theorem dX8_plainLaw_16 : decode cX8_plainLaw 16 = .ok (.aload_n 0, 1) := by decide +kernel
theorem dX8_plainLaw_17 : decode cX8_plainLaw 17 = .ok (.getfield 23, 3) := by decide +kernel
theorem dX8_plainLaw_20 : decode cX8_plainLaw 20 = .ok (.iconst 2, 1) := by decide +kernel
theorem dX8_plainLaw_21 : decode cX8_plainLaw 21 = .ok (.bipush 10, 2) := by decide +kernel
theorem dX8_plainLaw_23 : decode cX8_plainLaw 23 = .ok (.iastore, 1) := by decide +kernel
theorem dX8_plainLaw_24 : decode cX8_plainLaw 24 = .ok (.aload_n 0, 1) := by decide +kernel
theorem dX8_plainLaw_25 : decode cX8_plainLaw 25 = .ok (.getfield 23, 3) := by decide +kernel
theorem dX8_plainLaw_28 : decode cX8_plainLaw 28 = .ok (.iconst 3, 1) := by decide +kernel
theorem dX8_plainLaw_29 : decode cX8_plainLaw 29 = .ok (.iconst 3, 1) := by decide +kernel
theorem dX8_plainLaw_30 : decode cX8_plainLaw 30 = .ok (.iastore, 1) := by decide +kernel
theorem dX8_plainLaw_31 : decode cX8_plainLaw 31 = .ok (.aload_n 0, 1) := by decide +kernel
theorem dX8_plainLaw_32 : decode cX8_plainLaw 32 = .ok (.getfield 23, 3) := by decide +kernel
theorem dX8_plainLaw_35 : decode cX8_plainLaw 35 = .ok (.iconst 4, 1) := by decide +kernel
theorem dX8_plainLaw_36 : decode cX8_plainLaw 36 = .ok (.iconst (-1), 1) := by decide +kernel
theorem dX8_plainLaw_37 : decode cX8_plainLaw 37 = .ok (.iastore, 1) := by decide +kernel
theorem dX8_plainLaw_38 : decode cX8_plainLaw 38 = .ok (.iconst 0, 1) := by decide +kernel
theorem dX8_plainLaw_39 : decode cX8_plainLaw 39 = .ok (.istore_n 1, 1) := by decide +kernel
theorem dX8_plainLaw_40 : decode cX8_plainLaw 40 = .ok (.iload_n 1, 1) := by decide +kernel
theorem dX8_plainLaw_41 : decode cX8_plainLaw 41 = .ok (.bipush 9, 2) := by decide +kernel
theorem dX8_plainLaw_43 : decode cX8_plainLaw 43 = .ok (.if_icmp .ge 152, 3) := by decide +kernel
theorem dX8_plainLaw_46 : decode cX8_plainLaw 46 = .ok (.aload_n 0, 1) := by decide +kernel
theorem dX8_plainLaw_47 : decode cX8_plainLaw 47 = .ok (.getfield 23, 3) := by decide +kernel
theorem dX8_plainLaw_50 : decode cX8_plainLaw 50 = .ok (.iconst 5, 1) := by decide +kernel
theorem dX8_plainLaw_51 : decode cX8_plainLaw 51 = .ok (.iload_n 1, 1) := by decide +kernel
theorem dX8_plainLaw_52 : decode cX8_plainLaw 52 = .ok (.iadd, 1) := by decide +kernel
theorem dX8_plainLaw_53 : decode cX8_plainLaw 53 = .ok (.iload_n 1, 1) := by decide +kernel
theorem dX8_plainLaw_54 : decode cX8_plainLaw 54 = .ok (.iconst 5, 1) := by decide +kernel
theorem dX8_plainLaw_55 : decode cX8_plainLaw 55 = .ok (.if_icmp .ge 10, 3) := by decide +kernel
theorem dX8_plainLaw_58 : decode cX8_plainLaw 58 = .ok (.bipush 10, 2) := by decide +kernel
theorem dX8_plainLaw_60 : decode cX8_plainLaw 60 = .ok (.iload_n 1, 1) := by decide +kernel
theorem dX8_plainLaw_61 : decode cX8_plainLaw 61 = .ok (.imul, 1) := by decide +kernel
theorem dX8_plainLaw_62 : decode cX8_plainLaw 62 = .ok (.goto 37, 3) := by decide +kernel
theorem dX8_plainLaw_65 : decode cX8_plainLaw 65 = .ok (.iload_n 1, 1) := by decide +kernel
theorem dX8_plainLaw_66 : decode cX8_plainLaw 66 = .ok (.iconst 5, 1) := by decide +kernel
theorem dX8_plainLaw_67 : decode cX8_plainLaw 67 = .ok (.if_icmp .ne 8, 3) := by decide +kernel
theorem dX8_plainLaw_70 : decode cX8_plainLaw 70 = .ok (.bipush 45, 2) := by decide +kernel
theorem dX8_plainLaw_72 : decode cX8_plainLaw 72 = .ok (.goto 27, 3) := by decide +kernel
theorem dX8_plainLaw_75 : decode cX8_plainLaw 75 = .ok (.iload_n 1, 1) := by decide +kernel
theorem dX8_plainLaw_76 : decode cX8_plainLaw 76 = .ok (.bipush 6, 2) := by decide +kernel
theorem dX8_plainLaw_78 : decode cX8_plainLaw 78 = .ok (.if_icmp .ne 8, 3) := by decide +kernel
theorem dX8_plainLaw_81 : decode cX8_plainLaw 81 = .ok (.bipush 40, 2) := by decide +kernel
theorem dX8_plainLaw_83 : decode cX8_plainLaw 83 = .ok (.goto 16, 3) := by decide +kernel
theorem dX8_plainLaw_86 : decode cX8_plainLaw 86 = .ok (.iload_n 1, 1) := by decide +kernel
theorem dX8_plainLaw_87 : decode cX8_plainLaw 87 = .ok (.bipush 7, 2) := by decide +kernel
theorem dX8_plainLaw_89 : decode cX8_plainLaw 89 = .ok (.if_icmp .ne 8, 3) := by decide +kernel
theorem dX8_plainLaw_92 : decode cX8_plainLaw 92 = .ok (.bipush 25, 2) := by decide +kernel
theorem dX8_plainLaw_94 : decode cX8_plainLaw 94 = .ok (.goto 5, 3) := by decide +kernel
theorem dX8_plainLaw_97 : decode cX8_plainLaw 97 = .ok (.bipush 10, 2) := by decide +kernel
theorem dX8_plainLaw_99 : decode cX8_plainLaw 99 = .ok (.iastore, 1) := by decide +kernel
theorem dX8_plainLaw_100 : decode cX8_plainLaw 100 = .ok (.aload_n 0, 1) := by decide +kernel
theorem dX8_plainLaw_101 : decode cX8_plainLaw 101 = .ok (.getfield 23, 3) := by decide +kernel
theorem dX8_plainLaw_104 : decode cX8_plainLaw 104 = .ok (.bipush 14, 2) := by decide +kernel
theorem dX8_plainLaw_106 : decode cX8_plainLaw 106 = .ok (.iload_n 1, 1) := by decide +kernel
theorem dX8_plainLaw_107 : decode cX8_plainLaw 107 = .ok (.iadd, 1) := by decide +kernel
theorem dX8_plainLaw_108 : decode cX8_plainLaw 108 = .ok (.iload_n 1, 1) := by decide +kernel
theorem dX8_plainLaw_109 : decode cX8_plainLaw 109 = .ok (.ifCond .ne 7, 3) := by decide +kernel
theorem dX8_plainLaw_112 : decode cX8_plainLaw 112 = .ok (.iconst 2, 1) := by decide +kernel
theorem dX8_plainLaw_113 : decode cX8_plainLaw 113 = .ok (.goto 75, 3) := by decide +kernel
theorem dX8_plainLaw_116 : decode cX8_plainLaw 116 = .ok (.iload_n 1, 1) := by decide +kernel
theorem dX8_plainLaw_117 : decode cX8_plainLaw 117 = .ok (.iconst 1, 1) := by decide +kernel
theorem dX8_plainLaw_118 : decode cX8_plainLaw 118 = .ok (.if_icmp .ne 7, 3) := by decide +kernel
theorem dX8_plainLaw_121 : decode cX8_plainLaw 121 = .ok (.iconst 3, 1) := by decide +kernel
theorem dX8_plainLaw_122 : decode cX8_plainLaw 122 = .ok (.goto 66, 3) := by decide +kernel
theorem dX8_plainLaw_125 : decode cX8_plainLaw 125 = .ok (.iload_n 1, 1) := by decide +kernel
theorem dX8_plainLaw_126 : decode cX8_plainLaw 126 = .ok (.iconst 2, 1) := by decide +kernel
theorem dX8_plainLaw_127 : decode cX8_plainLaw 127 = .ok (.if_icmp .ne 7, 3) := by decide +kernel
theorem dX8_plainLaw_130 : decode cX8_plainLaw 130 = .ok (.iconst 4, 1) := by decide +kernel
theorem dX8_plainLaw_131 : decode cX8_plainLaw 131 = .ok (.goto 57, 3) := by decide +kernel
theorem dX8_plainLaw_134 : decode cX8_plainLaw 134 = .ok (.iload_n 1, 1) := by decide +kernel
theorem dX8_plainLaw_135 : decode cX8_plainLaw 135 = .ok (.iconst 3, 1) := by decide +kernel
theorem dX8_plainLaw_136 : decode cX8_plainLaw 136 = .ok (.if_icmp .ne 8, 3) := by decide +kernel
theorem dX8_plainLaw_139 : decode cX8_plainLaw 139 = .ok (.bipush 6, 2) := by decide +kernel
theorem dX8_plainLaw_141 : decode cX8_plainLaw 141 = .ok (.goto 47, 3) := by decide +kernel
theorem dX8_plainLaw_144 : decode cX8_plainLaw 144 = .ok (.iload_n 1, 1) := by decide +kernel
theorem dX8_plainLaw_145 : decode cX8_plainLaw 145 = .ok (.iconst 4, 1) := by decide +kernel
theorem dX8_plainLaw_146 : decode cX8_plainLaw 146 = .ok (.if_icmp .ne 8, 3) := by decide +kernel
theorem dX8_plainLaw_149 : decode cX8_plainLaw 149 = .ok (.bipush 9, 2) := by decide +kernel
theorem dX8_plainLaw_151 : decode cX8_plainLaw 151 = .ok (.goto 37, 3) := by decide +kernel
theorem dX8_plainLaw_154 : decode cX8_plainLaw 154 = .ok (.iload_n 1, 1) := by decide +kernel
theorem dX8_plainLaw_155 : decode cX8_plainLaw 155 = .ok (.iconst 5, 1) := by decide +kernel
theorem dX8_plainLaw_156 : decode cX8_plainLaw 156 = .ok (.if_icmp .ne 8, 3) := by decide +kernel
theorem dX8_plainLaw_159 : decode cX8_plainLaw 159 = .ok (.bipush 14, 2) := by decide +kernel
theorem dX8_plainLaw_161 : decode cX8_plainLaw 161 = .ok (.goto 27, 3) := by decide +kernel
theorem dX8_plainLaw_164 : decode cX8_plainLaw 164 = .ok (.iload_n 1, 1) := by decide +kernel
theorem dX8_plainLaw_165 : decode cX8_plainLaw 165 = .ok (.bipush 6, 2) := by decide +kernel
theorem dX8_plainLaw_167 : decode cX8_plainLaw 167 = .ok (.if_icmp .ne 8, 3) := by decide +kernel
theorem dX8_plainLaw_170 : decode cX8_plainLaw 170 = .ok (.bipush 22, 2) := by decide +kernel
theorem dX8_plainLaw_172 : decode cX8_plainLaw 172 = .ok (.goto 16, 3) := by decide +kernel
theorem dX8_plainLaw_175 : decode cX8_plainLaw 175 = .ok (.iload_n 1, 1) := by decide +kernel
theorem dX8_plainLaw_176 : decode cX8_plainLaw 176 = .ok (.bipush 7, 2) := by decide +kernel
theorem dX8_plainLaw_178 : decode cX8_plainLaw 178 = .ok (.if_icmp .ne 8, 3) := by decide +kernel
theorem dX8_plainLaw_181 : decode cX8_plainLaw 181 = .ok (.bipush 34, 2) := by decide +kernel
theorem dX8_plainLaw_183 : decode cX8_plainLaw 183 = .ok (.goto 5, 3) := by decide +kernel
theorem dX8_plainLaw_186 : decode cX8_plainLaw 186 = .ok (.bipush 50, 2) := by decide +kernel
theorem dX8_plainLaw_188 : decode cX8_plainLaw 188 = .ok (.iastore, 1) := by decide +kernel
theorem dX8_plainLaw_189 : decode cX8_plainLaw 189 = .ok (.iinc 1 1, 3) := by decide +kernel
theorem dX8_plainLaw_192 : decode cX8_plainLaw 192 = .ok (.goto (-152), 3) := by decide +kernel
theorem dX8_plainLaw_195 : decode cX8_plainLaw 195 = .ok (.return_, 1) := by decide +kernel
theorem dX8_one_0 : decode cX8_one 0 = .ok (.aload_n 0, 1) := by decide +kernel
theorem dX8_one_1 : decode cX8_one 1 = .ok (.invokevirtual 140, 3) := by decide +kernel
theorem dX8_one_4 : decode cX8_one 4 = .ok (.aload_n 0, 1) := by decide +kernel
theorem dX8_one_5 : decode cX8_one 5 = .ok (.getfield 23, 3) := by decide +kernel
theorem dX8_one_8 : decode cX8_one 8 = .ok (.iload_n 1, 1) := by decide +kernel
theorem dX8_one_9 : decode cX8_one 9 = .ok (.bipush 8, 2) := by decide +kernel
theorem dX8_one_11 : decode cX8_one 11 = .ok (.isub, 1) := by decide +kernel
theorem dX8_one_12 : decode cX8_one 12 = .ok (.aload_n 0, 1) := by decide +kernel
theorem dX8_one_13 : decode cX8_one 13 = .ok (.iload_n 2, 1) := by decide +kernel
theorem dX8_one_14 : decode cX8_one 14 = .ok (.iload_n 3, 1) := by decide +kernel
theorem dX8_one_15 : decode cX8_one 15 = .ok (.invokevirtual 162, 3) := by decide +kernel
theorem dX8_one_18 : decode cX8_one 18 = .ok (.iastore, 1) := by decide +kernel
theorem dX8_one_19 : decode cX8_one 19 = .ok (.return_, 1) := by decide +kernel
theorem dX8_nine_0 : decode cX8_nine 0 = .ok (.aload_n 0, 1) := by decide +kernel
theorem dX8_nine_1 : decode cX8_nine 1 = .ok (.invokevirtual 140, 3) := by decide +kernel
theorem dX8_nine_4 : decode cX8_nine 4 = .ok (.iconst 0, 1) := by decide +kernel
theorem dX8_nine_5 : decode cX8_nine 5 = .ok (.istore_n 2, 1) := by decide +kernel
theorem dX8_nine_6 : decode cX8_nine 6 = .ok (.iload_n 2, 1) := by decide +kernel
theorem dX8_nine_7 : decode cX8_nine 7 = .ok (.bipush 9, 2) := by decide +kernel
theorem dX8_nine_9 : decode cX8_nine 9 = .ok (.if_icmp .ge 34, 3) := by decide +kernel
theorem dX8_nine_12 : decode cX8_nine 12 = .ok (.aload_n 0, 1) := by decide +kernel
theorem dX8_nine_13 : decode cX8_nine 13 = .ok (.getfield 120, 3) := by decide +kernel
theorem dX8_nine_16 : decode cX8_nine 16 = .ok (.ifCond .ne 27, 3) := by decide +kernel
theorem dX8_nine_19 : decode cX8_nine 19 = .ok (.aload_n 0, 1) := by decide +kernel
theorem dX8_nine_20 : decode cX8_nine 20 = .ok (.getfield 23, 3) := by decide +kernel
theorem dX8_nine_23 : decode cX8_nine 23 = .ok (.iload_n 1, 1) := by decide +kernel
theorem dX8_nine_24 : decode cX8_nine 24 = .ok (.bipush 8, 2) := by decide +kernel
theorem dX8_nine_26 : decode cX8_nine 26 = .ok (.isub, 1) := by decide +kernel
theorem dX8_nine_27 : decode cX8_nine 27 = .ok (.iload_n 2, 1) := by decide +kernel
theorem dX8_nine_28 : decode cX8_nine 28 = .ok (.iadd, 1) := by decide +kernel
theorem dX8_nine_29 : decode cX8_nine 29 = .ok (.aload_n 0, 1) := by decide +kernel
theorem dX8_nine_30 : decode cX8_nine 30 = .ok (.iconst 0, 1) := by decide +kernel
theorem dX8_nine_31 : decode cX8_nine 31 = .ok (.bipush 99, 2) := by decide +kernel
theorem dX8_nine_33 : decode cX8_nine 33 = .ok (.invokevirtual 162, 3) := by decide +kernel
theorem dX8_nine_36 : decode cX8_nine 36 = .ok (.iastore, 1) := by decide +kernel
theorem dX8_nine_37 : decode cX8_nine 37 = .ok (.iinc 2 1, 3) := by decide +kernel
theorem dX8_nine_40 : decode cX8_nine 40 = .ok (.goto (-34), 3) := by decide +kernel
theorem dX8_nine_43 : decode cX8_nine 43 = .ok (.return_, 1) := by decide +kernel
theorem dX8_law_0 : decode cX8_law 0 = .ok (.aload_n 0, 1) := by decide +kernel
theorem dX8_law_1 : decode cX8_law 1 = .ok (.iconst 0, 1) := by decide +kernel
theorem dX8_law_2 : decode cX8_law 2 = .ok (.putfield 64, 3) := by decide +kernel
theorem dX8_law_5 : decode cX8_law 5 = .ok (.iload_n 1, 1) := by decide +kernel
theorem dX8_law_6 : decode cX8_law 6 = .ok (.i2l, 1) := by decide +kernel
theorem dX8_law_7 : decode cX8_law 7 = .ok (.lconst 0, 1) := by decide +kernel
theorem dX8_law_8 : decode cX8_law 8 = .ok (.aload_n 0, 1) := by decide +kernel
theorem dX8_law_9 : decode cX8_law 9 = .ok (.getfield 91, 3) := by decide +kernel
theorem dX8_law_12 : decode cX8_law 12 = .ok (.i2l, 1) := by decide +kernel
theorem dX8_law_13 : decode cX8_law 13 = .ok (.invokestatic 67, 3) := by decide +kernel
theorem dX8_law_16 : decode cX8_law 16 = .ok (.ifCond .ne 9, 3) := by decide +kernel
theorem dX8_law_19 : decode cX8_law 19 = .ok (.aload_n 0, 1) := by decide +kernel
theorem dX8_law_20 : decode cX8_law 20 = .ok (.iconst 1, 1) := by decide +kernel
theorem dX8_law_21 : decode cX8_law 21 = .ok (.invokevirtual 146, 3) := by decide +kernel
theorem dX8_law_24 : decode cX8_law 24 = .ok (.ireturn, 1) := by decide +kernel
theorem dX8_law_25 : decode cX8_law 25 = .ok (.aload_n 0, 1) := by decide +kernel
theorem dX8_law_26 : decode cX8_law 26 = .ok (.iload_n 1, 1) := by decide +kernel
theorem dX8_law_27 : decode cX8_law 27 = .ok (.invokevirtual 149, 3) := by decide +kernel
theorem dX8_law_30 : decode cX8_law 30 = .ok (.aload_n 0, 1) := by decide +kernel
theorem dX8_law_31 : decode cX8_law 31 = .ok (.invokevirtual 61, 3) := by decide +kernel
theorem dX8_law_34 : decode cX8_law 34 = .ok (.iconst 0, 1) := by decide +kernel
theorem dX8_law_35 : decode cX8_law 35 = .ok (.istore_n 2, 1) := by decide +kernel
theorem dX8_law_36 : decode cX8_law 36 = .ok (.aload_n 0, 1) := by decide +kernel
theorem dX8_law_37 : decode cX8_law 37 = .ok (.getfield 120, 3) := by decide +kernel
theorem dX8_law_40 : decode cX8_law 40 = .ok (.ifCond .ne 167, 3) := by decide +kernel
theorem dX8_law_43 : decode cX8_law 43 = .ok (.aload_n 0, 1) := by decide +kernel
theorem dX8_law_44 : decode cX8_law 44 = .ok (.getfield 103, 3) := by decide +kernel
theorem dX8_law_47 : decode cX8_law 47 = .ok (.ifCond .eq 160, 3) := by decide +kernel
theorem dX8_law_50 : decode cX8_law 50 = .ok (.aload_n 0, 1) := by decide +kernel
theorem dX8_law_51 : decode cX8_law 51 = .ok (.ldc 172, 2) := by decide +kernel
theorem dX8_law_53 : decode cX8_law 53 = .ok (.invokevirtual 154, 3) := by decide +kernel
theorem dX8_law_56 : decode cX8_law 56 = .ok (.ifCond .eq 12, 3) := by decide +kernel
theorem dX8_law_59 : decode cX8_law 59 = .ok (.aload_n 0, 1) := by decide +kernel
theorem dX8_law_60 : decode cX8_law 60 = .ok (.bipush 13, 2) := by decide +kernel
theorem dX8_law_62 : decode cX8_law 62 = .ok (.invokevirtual 174, 3) := by decide +kernel
theorem dX8_law_65 : decode cX8_law 65 = .ok (.goto 132, 3) := by decide +kernel
theorem dX8_law_68 : decode cX8_law 68 = .ok (.aload_n 0, 1) := by decide +kernel
theorem dX8_law_69 : decode cX8_law 69 = .ok (.ldc 177, 2) := by decide +kernel
theorem dX8_law_71 : decode cX8_law 71 = .ok (.invokevirtual 154, 3) := by decide +kernel
theorem dX8_law_74 : decode cX8_law 74 = .ok (.ifCond .eq 12, 3) := by decide +kernel
theorem dX8_law_77 : decode cX8_law 77 = .ok (.aload_n 0, 1) := by decide +kernel
theorem dX8_law_78 : decode cX8_law 78 = .ok (.bipush 22, 2) := by decide +kernel
theorem dX8_law_80 : decode cX8_law 80 = .ok (.invokevirtual 174, 3) := by decide +kernel
theorem dX8_law_83 : decode cX8_law 83 = .ok (.goto 114, 3) := by decide +kernel
theorem dX8_law_86 : decode cX8_law 86 = .ok (.aload_n 0, 1) := by decide +kernel
theorem dX8_law_87 : decode cX8_law 87 = .ok (.ldc 179, 2) := by decide +kernel
theorem dX8_law_89 : decode cX8_law 89 = .ok (.invokevirtual 154, 3) := by decide +kernel
theorem dX8_law_92 : decode cX8_law 92 = .ok (.ifCond .eq 15, 3) := by decide +kernel
theorem dX8_law_95 : decode cX8_law 95 = .ok (.aload_n 0, 1) := by decide +kernel
theorem dX8_law_96 : decode cX8_law 96 = .ok (.bipush 8, 2) := by decide +kernel
theorem dX8_law_98 : decode cX8_law 98 = .ok (.iconst 1, 1) := by decide +kernel
theorem dX8_law_99 : decode cX8_law 99 = .ok (.bipush 50, 2) := by decide +kernel
theorem dX8_law_101 : decode cX8_law 101 = .ok (.invokevirtual 181, 3) := by decide +kernel
theorem dX8_law_104 : decode cX8_law 104 = .ok (.goto 93, 3) := by decide +kernel
theorem dX8_law_107 : decode cX8_law 107 = .ok (.aload_n 0, 1) := by decide +kernel
theorem dX8_law_108 : decode cX8_law 108 = .ok (.ldc 185, 2) := by decide +kernel
theorem dX8_law_110 : decode cX8_law 110 = .ok (.invokevirtual 154, 3) := by decide +kernel
theorem dX8_law_113 : decode cX8_law 113 = .ok (.ifCond .eq 15, 3) := by decide +kernel
theorem dX8_law_116 : decode cX8_law 116 = .ok (.aload_n 0, 1) := by decide +kernel
theorem dX8_law_117 : decode cX8_law 117 = .ok (.bipush 9, 2) := by decide +kernel
theorem dX8_law_119 : decode cX8_law 119 = .ok (.iconst 1, 1) := by decide +kernel
theorem dX8_law_120 : decode cX8_law 120 = .ok (.bipush 99, 2) := by decide +kernel
theorem dX8_law_122 : decode cX8_law 122 = .ok (.invokevirtual 181, 3) := by decide +kernel
theorem dX8_law_125 : decode cX8_law 125 = .ok (.goto 72, 3) := by decide +kernel
theorem dX8_law_128 : decode cX8_law 128 = .ok (.aload_n 0, 1) := by decide +kernel
theorem dX8_law_129 : decode cX8_law 129 = .ok (.ldc 187, 2) := by decide +kernel
theorem dX8_law_131 : decode cX8_law 131 = .ok (.invokevirtual 154, 3) := by decide +kernel
theorem dX8_law_134 : decode cX8_law 134 = .ok (.ifCond .eq 15, 3) := by decide +kernel
theorem dX8_law_137 : decode cX8_law 137 = .ok (.aload_n 0, 1) := by decide +kernel
theorem dX8_law_138 : decode cX8_law 138 = .ok (.bipush 10, 2) := by decide +kernel
theorem dX8_law_140 : decode cX8_law 140 = .ok (.iconst 0, 1) := by decide +kernel
theorem dX8_law_141 : decode cX8_law 141 = .ok (.bipush 99, 2) := by decide +kernel
theorem dX8_law_143 : decode cX8_law 143 = .ok (.invokevirtual 181, 3) := by decide +kernel
theorem dX8_law_146 : decode cX8_law 146 = .ok (.goto 51, 3) := by decide +kernel
theorem dX8_law_149 : decode cX8_law 149 = .ok (.aload_n 0, 1) := by decide +kernel
theorem dX8_law_150 : decode cX8_law 150 = .ok (.ldc 189, 2) := by decide +kernel
theorem dX8_law_152 : decode cX8_law 152 = .ok (.invokevirtual 154, 3) := by decide +kernel
theorem dX8_law_155 : decode cX8_law 155 = .ok (.ifCond .eq 15, 3) := by decide +kernel
theorem dX8_law_158 : decode cX8_law 158 = .ok (.aload_n 0, 1) := by decide +kernel
theorem dX8_law_159 : decode cX8_law 159 = .ok (.bipush 11, 2) := by decide +kernel
theorem dX8_law_161 : decode cX8_law 161 = .ok (.iconst 0, 1) := by decide +kernel
theorem dX8_law_162 : decode cX8_law 162 = .ok (.bipush 9, 2) := by decide +kernel
theorem dX8_law_164 : decode cX8_law 164 = .ok (.invokevirtual 181, 3) := by decide +kernel
theorem dX8_law_167 : decode cX8_law 167 = .ok (.goto 30, 3) := by decide +kernel
theorem dX8_law_170 : decode cX8_law 170 = .ok (.aload_n 0, 1) := by decide +kernel
theorem dX8_law_171 : decode cX8_law 171 = .ok (.ldc 191, 2) := by decide +kernel
theorem dX8_law_173 : decode cX8_law 173 = .ok (.invokevirtual 154, 3) := by decide +kernel
theorem dX8_law_176 : decode cX8_law 176 = .ok (.ifCond .eq 16, 3) := by decide +kernel
theorem dX8_law_179 : decode cX8_law 179 = .ok (.aload_n 0, 1) := by decide +kernel
theorem dX8_law_180 : decode cX8_law 180 = .ok (.bipush 12, 2) := by decide +kernel
theorem dX8_law_182 : decode cX8_law 182 = .ok (.bipush 10, 2) := by decide +kernel
theorem dX8_law_184 : decode cX8_law 184 = .ok (.bipush 99, 2) := by decide +kernel
theorem dX8_law_186 : decode cX8_law 186 = .ok (.invokevirtual 181, 3) := by decide +kernel
theorem dX8_law_189 : decode cX8_law 189 = .ok (.goto 8, 3) := by decide +kernel
theorem dX8_law_192 : decode cX8_law 192 = .ok (.aload_n 0, 1) := by decide +kernel
theorem dX8_law_193 : decode cX8_law 193 = .ok (.iconst 2, 1) := by decide +kernel
theorem dX8_law_194 : decode cX8_law 194 = .ok (.invokevirtual 136, 3) := by decide +kernel
theorem dX8_law_197 : decode cX8_law 197 = .ok (.aload_n 0, 1) := by decide +kernel
theorem dX8_law_198 : decode cX8_law 198 = .ok (.invokevirtual 166, 3) := by decide +kernel
theorem dX8_law_201 : decode cX8_law 201 = .ok (.iinc 2 1, 3) := by decide +kernel
theorem dX8_law_204 : decode cX8_law 204 = .ok (.goto (-168), 3) := by decide +kernel
theorem dX8_law_207 : decode cX8_law 207 = .ok (.aload_n 0, 1) := by decide +kernel
theorem dX8_law_208 : decode cX8_law 208 = .ok (.getfield 120, 3) := by decide +kernel
theorem dX8_law_211 : decode cX8_law 211 = .ok (.ifCond .ne 32, 3) := by decide +kernel
theorem dX8_law_214 : decode cX8_law 214 = .ok (.iconst 0, 1) := by decide +kernel
theorem dX8_law_215 : decode cX8_law 215 = .ok (.istore_n 3, 1) := by decide +kernel
theorem dX8_law_216 : decode cX8_law 216 = .ok (.iload_n 3, 1) := by decide +kernel
theorem dX8_law_217 : decode cX8_law 217 = .ok (.bipush 23, 2) := by decide +kernel
theorem dX8_law_219 : decode cX8_law 219 = .ok (.if_icmp .ge 24, 3) := by decide +kernel
theorem dX8_law_222 : decode cX8_law 222 = .ok (.aload_n 0, 1) := by decide +kernel
theorem dX8_law_223 : decode cX8_law 223 = .ok (.getfield 9, 3) := by decide +kernel
theorem dX8_law_226 : decode cX8_law 226 = .ok (.bipush 8, 2) := by decide +kernel
theorem dX8_law_228 : decode cX8_law 228 = .ok (.iload_n 3, 1) := by decide +kernel
theorem dX8_law_229 : decode cX8_law 229 = .ok (.iadd, 1) := by decide +kernel
theorem dX8_law_230 : decode cX8_law 230 = .ok (.aload_n 0, 1) := by decide +kernel
theorem dX8_law_231 : decode cX8_law 231 = .ok (.getfield 23, 3) := by decide +kernel
theorem dX8_law_234 : decode cX8_law 234 = .ok (.iload_n 3, 1) := by decide +kernel
theorem dX8_law_235 : decode cX8_law 235 = .ok (.iaload, 1) := by decide +kernel
theorem dX8_law_236 : decode cX8_law 236 = .ok (.iastore, 1) := by decide +kernel
theorem dX8_law_237 : decode cX8_law 237 = .ok (.iinc 3 1, 3) := by decide +kernel
theorem dX8_law_240 : decode cX8_law 240 = .ok (.goto (-24), 3) := by decide +kernel
theorem dX8_law_243 : decode cX8_law 243 = .ok (.aload_n 0, 1) := by decide +kernel
theorem dX8_law_244 : decode cX8_law 244 = .ok (.iload_n 2, 1) := by decide +kernel
theorem dX8_law_245 : decode cX8_law 245 = .ok (.invokevirtual 169, 3) := by decide +kernel
theorem dX8_law_248 : decode cX8_law 248 = .ok (.ireturn, 1) := by decide +kernel
theorem dX8_fault_0 : decode cX8_fault 0 = .ok (.aload_n 0, 1) := by decide +kernel
theorem dX8_fault_1 : decode cX8_fault 1 = .ok (.iconst 0, 1) := by decide +kernel
theorem dX8_fault_2 : decode cX8_fault 2 = .ok (.putfield 64, 3) := by decide +kernel
theorem dX8_fault_5 : decode cX8_fault 5 = .ok (.iload_n 1, 1) := by decide +kernel
theorem dX8_fault_6 : decode cX8_fault 6 = .ok (.ifCond .ne 10, 3) := by decide +kernel
theorem dX8_fault_9 : decode cX8_fault 9 = .ok (.aload_n 0, 1) := by decide +kernel
theorem dX8_fault_10 : decode cX8_fault 10 = .ok (.getfield 143, 3) := by decide +kernel
theorem dX8_fault_13 : decode cX8_fault 13 = .ok (.goto 16, 3) := by decide +kernel
theorem dX8_fault_16 : decode cX8_fault 16 = .ok (.iload_n 1, 1) := by decide +kernel
theorem dX8_fault_17 : decode cX8_fault 17 = .ok (.iconst 1, 1) := by decide +kernel
theorem dX8_fault_18 : decode cX8_fault 18 = .ok (.if_icmp .ne 10, 3) := by decide +kernel
theorem dX8_fault_21 : decode cX8_fault 21 = .ok (.aload_n 0, 1) := by decide +kernel
theorem dX8_fault_22 : decode cX8_fault 22 = .ok (.getfield 29, 3) := by decide +kernel
theorem dX8_fault_25 : decode cX8_fault 25 = .ok (.goto 4, 3) := by decide +kernel
theorem dX8_fault_28 : decode cX8_fault 28 = .ok (.iconst (-1), 1) := by decide +kernel
theorem dX8_fault_29 : decode cX8_fault 29 = .ok (.ireturn, 1) := by decide +kernel
theorem dX8_foldsOf_0 : decode cX8_foldsOf 0 = .ok (.aload_n 0, 1) := by decide +kernel
theorem dX8_foldsOf_1 : decode cX8_foldsOf 1 = .ok (.getfield 9, 3) := by decide +kernel
theorem dX8_foldsOf_4 : decode cX8_foldsOf 4 = .ok (.bipush 31, 2) := by decide +kernel
theorem dX8_foldsOf_6 : decode cX8_foldsOf 6 = .ok (.bipush 23, 2) := by decide +kernel
theorem dX8_foldsOf_8 : decode cX8_foldsOf 8 = .ok (.iload_n 1, 1) := by decide +kernel
theorem dX8_foldsOf_9 : decode cX8_foldsOf 9 = .ok (.imul, 1) := by decide +kernel
theorem dX8_foldsOf_10 : decode cX8_foldsOf 10 = .ok (.iadd, 1) := by decide +kernel
theorem dX8_foldsOf_11 : decode cX8_foldsOf 11 = .ok (.iaload, 1) := by decide +kernel
theorem dX8_foldsOf_12 : decode cX8_foldsOf 12 = .ok (.ireturn, 1) := by decide +kernel
theorem dX8_foldAt_0 : decode cX8_foldAt 0 = .ok (.bipush 31, 2) := by decide +kernel
theorem dX8_foldAt_2 : decode cX8_foldAt 2 = .ok (.bipush 23, 2) := by decide +kernel
theorem dX8_foldAt_4 : decode cX8_foldAt 4 = .ok (.iload_n 1, 1) := by decide +kernel
theorem dX8_foldAt_5 : decode cX8_foldAt 5 = .ok (.imul, 1) := by decide +kernel
theorem dX8_foldAt_6 : decode cX8_foldAt 6 = .ok (.iadd, 1) := by decide +kernel
theorem dX8_foldAt_7 : decode cX8_foldAt 7 = .ok (.iconst 1, 1) := by decide +kernel
theorem dX8_foldAt_8 : decode cX8_foldAt 8 = .ok (.iadd, 1) := by decide +kernel
theorem dX8_foldAt_9 : decode cX8_foldAt 9 = .ok (.iconst 2, 1) := by decide +kernel
theorem dX8_foldAt_10 : decode cX8_foldAt 10 = .ok (.iload_n 2, 1) := by decide +kernel
theorem dX8_foldAt_11 : decode cX8_foldAt 11 = .ok (.imul, 1) := by decide +kernel
theorem dX8_foldAt_12 : decode cX8_foldAt 12 = .ok (.iadd, 1) := by decide +kernel
theorem dX8_foldAt_13 : decode cX8_foldAt 13 = .ok (.ireturn, 1) := by decide +kernel
theorem dX8_fold_0 : decode cX8_fold 0 = .ok (.aload_n 0, 1) := by decide +kernel
theorem dX8_fold_1 : decode cX8_fold 1 = .ok (.iconst 0, 1) := by decide +kernel
theorem dX8_fold_2 : decode cX8_fold 2 = .ok (.putfield 64, 3) := by decide +kernel
theorem dX8_fold_5 : decode cX8_fold 5 = .ok (.aload_n 0, 1) := by decide +kernel
theorem dX8_fold_6 : decode cX8_fold 6 = .ok (.iload_n 1, 1) := by decide +kernel
theorem dX8_fold_7 : decode cX8_fold 7 = .ok (.invokevirtual 193, 3) := by decide +kernel
theorem dX8_fold_10 : decode cX8_fold 10 = .ok (.ifCond .ne 9, 3) := by decide +kernel
theorem dX8_fold_13 : decode cX8_fold 13 = .ok (.aload_n 0, 1) := by decide +kernel
theorem dX8_fold_14 : decode cX8_fold 14 = .ok (.iconst 1, 1) := by decide +kernel
theorem dX8_fold_15 : decode cX8_fold 15 = .ok (.invokevirtual 146, 3) := by decide +kernel
theorem dX8_fold_18 : decode cX8_fold 18 = .ok (.ireturn, 1) := by decide +kernel
theorem dX8_fold_19 : decode cX8_fold 19 = .ok (.iload_n 2, 1) := by decide +kernel
theorem dX8_fold_20 : decode cX8_fold 20 = .ok (.iconst (-1), 1) := by decide +kernel
theorem dX8_fold_21 : decode cX8_fold 21 = .ok (.if_icmp .ne 9, 3) := by decide +kernel
theorem dX8_fold_24 : decode cX8_fold 24 = .ok (.aload_n 0, 1) := by decide +kernel
theorem dX8_fold_25 : decode cX8_fold 25 = .ok (.iload_n 1, 1) := by decide +kernel
theorem dX8_fold_26 : decode cX8_fold 26 = .ok (.invokevirtual 196, 3) := by decide +kernel
theorem dX8_fold_29 : decode cX8_fold 29 = .ok (.ireturn, 1) := by decide +kernel
theorem dX8_fold_30 : decode cX8_fold 30 = .ok (.iload_n 2, 1) := by decide +kernel
theorem dX8_fold_31 : decode cX8_fold 31 = .ok (.i2l, 1) := by decide +kernel
theorem dX8_fold_32 : decode cX8_fold 32 = .ok (.lconst 0, 1) := by decide +kernel
theorem dX8_fold_33 : decode cX8_fold 33 = .ok (.aload_n 0, 1) := by decide +kernel
theorem dX8_fold_34 : decode cX8_fold 34 = .ok (.iload_n 1, 1) := by decide +kernel
theorem dX8_fold_35 : decode cX8_fold 35 = .ok (.invokevirtual 196, 3) := by decide +kernel
theorem dX8_fold_38 : decode cX8_fold 38 = .ok (.iconst 1, 1) := by decide +kernel
theorem dX8_fold_39 : decode cX8_fold 39 = .ok (.isub, 1) := by decide +kernel
theorem dX8_fold_40 : decode cX8_fold 40 = .ok (.i2l, 1) := by decide +kernel
theorem dX8_fold_41 : decode cX8_fold 41 = .ok (.invokestatic 67, 3) := by decide +kernel
theorem dX8_fold_44 : decode cX8_fold 44 = .ok (.ifCond .eq 34, 3) := by decide +kernel
theorem dX8_fold_47 : decode cX8_fold 47 = .ok (.bipush 100, 2) := by decide +kernel
theorem dX8_fold_49 : decode cX8_fold 49 = .ok (.aload_n 0, 1) := by decide +kernel
theorem dX8_fold_50 : decode cX8_fold 50 = .ok (.getfield 9, 3) := by decide +kernel
theorem dX8_fold_53 : decode cX8_fold 53 = .ok (.aload_n 0, 1) := by decide +kernel
theorem dX8_fold_54 : decode cX8_fold 54 = .ok (.iload_n 1, 1) := by decide +kernel
theorem dX8_fold_55 : decode cX8_fold 55 = .ok (.iload_n 2, 1) := by decide +kernel
theorem dX8_fold_56 : decode cX8_fold 56 = .ok (.invokevirtual 199, 3) := by decide +kernel
theorem dX8_fold_59 : decode cX8_fold 59 = .ok (.iaload, 1) := by decide +kernel
theorem dX8_fold_60 : decode cX8_fold 60 = .ok (.imul, 1) := by decide +kernel
theorem dX8_fold_61 : decode cX8_fold 61 = .ok (.aload_n 0, 1) := by decide +kernel
theorem dX8_fold_62 : decode cX8_fold 62 = .ok (.getfield 9, 3) := by decide +kernel
theorem dX8_fold_65 : decode cX8_fold 65 = .ok (.aload_n 0, 1) := by decide +kernel
theorem dX8_fold_66 : decode cX8_fold 66 = .ok (.iload_n 1, 1) := by decide +kernel
theorem dX8_fold_67 : decode cX8_fold 67 = .ok (.iload_n 2, 1) := by decide +kernel
theorem dX8_fold_68 : decode cX8_fold 68 = .ok (.invokevirtual 199, 3) := by decide +kernel
theorem dX8_fold_71 : decode cX8_fold 71 = .ok (.iconst 1, 1) := by decide +kernel
theorem dX8_fold_72 : decode cX8_fold 72 = .ok (.iadd, 1) := by decide +kernel
theorem dX8_fold_73 : decode cX8_fold 73 = .ok (.iaload, 1) := by decide +kernel
theorem dX8_fold_74 : decode cX8_fold 74 = .ok (.iadd, 1) := by decide +kernel
theorem dX8_fold_75 : decode cX8_fold 75 = .ok (.goto 4, 3) := by decide +kernel
theorem dX8_fold_78 : decode cX8_fold 78 = .ok (.iconst (-1), 1) := by decide +kernel
theorem dX8_fold_79 : decode cX8_fold 79 = .ok (.ireturn, 1) := by decide +kernel
theorem dX8_flat_0 : decode cX8_flat 0 = .ok (.aload_n 0, 1) := by decide +kernel
theorem dX8_flat_1 : decode cX8_flat 1 = .ok (.aload_n 0, 1) := by decide +kernel
theorem dX8_flat_2 : decode cX8_flat 2 = .ok (.getfield 9, 3) := by decide +kernel
theorem dX8_flat_5 : decode cX8_flat 5 = .ok (.iconst 0, 1) := by decide +kernel
theorem dX8_flat_6 : decode cX8_flat 6 = .ok (.iaload, 1) := by decide +kernel
theorem dX8_flat_7 : decode cX8_flat 7 = .ok (.putfield 202, 3) := by decide +kernel
theorem dX8_flat_10 : decode cX8_flat 10 = .ok (.aload_n 0, 1) := by decide +kernel
theorem dX8_flat_11 : decode cX8_flat 11 = .ok (.aload_n 0, 1) := by decide +kernel
theorem dX8_flat_12 : decode cX8_flat 12 = .ok (.getfield 9, 3) := by decide +kernel
theorem dX8_flat_15 : decode cX8_flat 15 = .ok (.iconst 1, 1) := by decide +kernel
theorem dX8_flat_16 : decode cX8_flat 16 = .ok (.iaload, 1) := by decide +kernel
theorem dX8_flat_17 : decode cX8_flat 17 = .ok (.putfield 205, 3) := by decide +kernel
theorem dX8_flat_20 : decode cX8_flat 20 = .ok (.aload_n 0, 1) := by decide +kernel
theorem dX8_flat_21 : decode cX8_flat 21 = .ok (.iconst 0, 1) := by decide +kernel
theorem dX8_flat_22 : decode cX8_flat 22 = .ok (.putfield 208, 3) := by decide +kernel
theorem dX8_flat_25 : decode cX8_flat 25 = .ok (.iconst 0, 1) := by decide +kernel
theorem dX8_flat_26 : decode cX8_flat 26 = .ok (.istore_n 1, 1) := by decide +kernel
theorem dX8_flat_27 : decode cX8_flat 27 = .ok (.iload_n 1, 1) := by decide +kernel
theorem dX8_flat_28 : decode cX8_flat 28 = .ok (.aload_n 0, 1) := by decide +kernel
theorem dX8_flat_29 : decode cX8_flat 29 = .ok (.getfield 202, 3) := by decide +kernel
theorem dX8_flat_32 : decode cX8_flat 32 = .ok (.if_icmp .ge 55, 3) := by decide +kernel
theorem dX8_flat_35 : decode cX8_flat 35 = .ok (.iconst 0, 1) := by decide +kernel
theorem dX8_flat_36 : decode cX8_flat 36 = .ok (.istore_n 2, 1) := by decide +kernel
theorem dX8_flat_37 : decode cX8_flat 37 = .ok (.iload_n 2, 1) := by decide +kernel
theorem dX8_flat_38 : decode cX8_flat 38 = .ok (.aload_n 0, 1) := by decide +kernel
theorem dX8_flat_39 : decode cX8_flat 39 = .ok (.getfield 205, 3) := by decide +kernel
theorem dX8_flat_42 : decode cX8_flat 42 = .ok (.if_icmp .ge 39, 3) := by decide +kernel
theorem dX8_flat_45 : decode cX8_flat 45 = .ok (.aload_n 0, 1) := by decide +kernel
theorem dX8_flat_46 : decode cX8_flat 46 = .ok (.getfield 33, 3) := by decide +kernel
theorem dX8_flat_49 : decode cX8_flat 49 = .ok (.aload_n 0, 1) := by decide +kernel
theorem dX8_flat_50 : decode cX8_flat 50 = .ok (.getfield 208, 3) := by decide +kernel
theorem dX8_flat_53 : decode cX8_flat 53 = .ok (.iload_n 1, 1) := by decide +kernel
theorem dX8_flat_54 : decode cX8_flat 54 = .ok (.iastore, 1) := by decide +kernel
theorem dX8_flat_55 : decode cX8_flat 55 = .ok (.aload_n 0, 1) := by decide +kernel
theorem dX8_flat_56 : decode cX8_flat 56 = .ok (.getfield 36, 3) := by decide +kernel
theorem dX8_flat_59 : decode cX8_flat 59 = .ok (.aload_n 0, 1) := by decide +kernel
theorem dX8_flat_60 : decode cX8_flat 60 = .ok (.getfield 208, 3) := by decide +kernel
theorem dX8_flat_63 : decode cX8_flat 63 = .ok (.iload_n 2, 1) := by decide +kernel
theorem dX8_flat_64 : decode cX8_flat 64 = .ok (.iastore, 1) := by decide +kernel
theorem dX8_flat_65 : decode cX8_flat 65 = .ok (.aload_n 0, 1) := by decide +kernel
theorem dX8_flat_66 : decode cX8_flat 66 = .ok (.dup, 1) := by decide +kernel
theorem dX8_flat_67 : decode cX8_flat 67 = .ok (.getfield 208, 3) := by decide +kernel
theorem dX8_flat_70 : decode cX8_flat 70 = .ok (.iconst 1, 1) := by decide +kernel
theorem dX8_flat_71 : decode cX8_flat 71 = .ok (.iadd, 1) := by decide +kernel
theorem dX8_flat_72 : decode cX8_flat 72 = .ok (.putfield 208, 3) := by decide +kernel
theorem dX8_flat_75 : decode cX8_flat 75 = .ok (.iinc 2 1, 3) := by decide +kernel
theorem dX8_flat_78 : decode cX8_flat 78 = .ok (.goto (-41), 3) := by decide +kernel
theorem dX8_flat_81 : decode cX8_flat 81 = .ok (.iinc 1 1, 3) := by decide +kernel
theorem dX8_flat_84 : decode cX8_flat 84 = .ok (.goto (-57), 3) := by decide +kernel
theorem dX8_flat_87 : decode cX8_flat 87 = .ok (.return_, 1) := by decide +kernel
theorem dX8_nose_0 : decode cX8_nose 0 = .ok (.iconst 0, 1) := by decide +kernel
theorem dX8_nose_1 : decode cX8_nose 1 = .ok (.istore_n 2, 1) := by decide +kernel
theorem dX8_nose_2 : decode cX8_nose 2 = .ok (.iload_n 2, 1) := by decide +kernel
theorem dX8_nose_3 : decode cX8_nose 3 = .ok (.aload_n 0, 1) := by decide +kernel
theorem dX8_nose_4 : decode cX8_nose 4 = .ok (.getfield 208, 3) := by decide +kernel
theorem dX8_nose_7 : decode cX8_nose 7 = .ok (.if_icmp .ge 46, 3) := by decide +kernel
theorem dX8_nose_10 : decode cX8_nose 10 = .ok (.aload_n 0, 1) := by decide +kernel
theorem dX8_nose_11 : decode cX8_nose 11 = .ok (.getfield 33, 3) := by decide +kernel
theorem dX8_nose_14 : decode cX8_nose 14 = .ok (.iload_n 2, 1) := by decide +kernel
theorem dX8_nose_15 : decode cX8_nose 15 = .ok (.aload_n 0, 1) := by decide +kernel
theorem dX8_nose_16 : decode cX8_nose 16 = .ok (.getfield 33, 3) := by decide +kernel
theorem dX8_nose_19 : decode cX8_nose 19 = .ok (.iload_n 2, 1) := by decide +kernel
theorem dX8_nose_20 : decode cX8_nose 20 = .ok (.iaload, 1) := by decide +kernel
theorem dX8_nose_21 : decode cX8_nose 21 = .ok (.iload_n 1, 1) := by decide +kernel
theorem dX8_nose_22 : decode cX8_nose 22 = .ok (.if_icmp .ge 16, 3) := by decide +kernel
theorem dX8_nose_25 : decode cX8_nose 25 = .ok (.iload_n 1, 1) := by decide +kernel
theorem dX8_nose_26 : decode cX8_nose 26 = .ok (.iconst 1, 1) := by decide +kernel
theorem dX8_nose_27 : decode cX8_nose 27 = .ok (.isub, 1) := by decide +kernel
theorem dX8_nose_28 : decode cX8_nose 28 = .ok (.aload_n 0, 1) := by decide +kernel
theorem dX8_nose_29 : decode cX8_nose 29 = .ok (.getfield 33, 3) := by decide +kernel
theorem dX8_nose_32 : decode cX8_nose 32 = .ok (.iload_n 2, 1) := by decide +kernel
theorem dX8_nose_33 : decode cX8_nose 33 = .ok (.iaload, 1) := by decide +kernel
theorem dX8_nose_34 : decode cX8_nose 34 = .ok (.isub, 1) := by decide +kernel
theorem dX8_nose_35 : decode cX8_nose 35 = .ok (.goto 11, 3) := by decide +kernel
theorem dX8_nose_38 : decode cX8_nose 38 = .ok (.aload_n 0, 1) := by decide +kernel
theorem dX8_nose_39 : decode cX8_nose 39 = .ok (.getfield 33, 3) := by decide +kernel
theorem dX8_nose_42 : decode cX8_nose 42 = .ok (.iload_n 2, 1) := by decide +kernel
theorem dX8_nose_43 : decode cX8_nose 43 = .ok (.iaload, 1) := by decide +kernel
theorem dX8_nose_44 : decode cX8_nose 44 = .ok (.iload_n 1, 1) := by decide +kernel
theorem dX8_nose_45 : decode cX8_nose 45 = .ok (.isub, 1) := by decide +kernel
theorem dX8_nose_46 : decode cX8_nose 46 = .ok (.iastore, 1) := by decide +kernel
theorem dX8_nose_47 : decode cX8_nose 47 = .ok (.iinc 2 1, 3) := by decide +kernel
theorem dX8_nose_50 : decode cX8_nose 50 = .ok (.goto (-48), 3) := by decide +kernel
theorem dX8_nose_53 : decode cX8_nose 53 = .ok (.aload_n 0, 1) := by decide +kernel
theorem dX8_nose_54 : decode cX8_nose 54 = .ok (.dup, 1) := by decide +kernel
theorem dX8_nose_55 : decode cX8_nose 55 = .ok (.getfield 202, 3) := by decide +kernel
theorem dX8_nose_58 : decode cX8_nose 58 = .ok (.iload_n 1, 1) := by decide +kernel
theorem dX8_nose_59 : decode cX8_nose 59 = .ok (.isub, 1) := by decide +kernel
theorem dX8_nose_60 : decode cX8_nose 60 = .ok (.putfield 202, 3) := by decide +kernel
theorem dX8_nose_63 : decode cX8_nose 63 = .ok (.return_, 1) := by decide +kernel
theorem dX8_side_0 : decode cX8_side 0 = .ok (.aload_n 0, 1) := by decide +kernel
theorem dX8_side_1 : decode cX8_side 1 = .ok (.getfield 205, 3) := by decide +kernel
theorem dX8_side_4 : decode cX8_side 4 = .ok (.iload_n 1, 1) := by decide +kernel
theorem dX8_side_5 : decode cX8_side 5 = .ok (.isub, 1) := by decide +kernel
theorem dX8_side_6 : decode cX8_side 6 = .ok (.istore_n 2, 1) := by decide +kernel
theorem dX8_side_7 : decode cX8_side 7 = .ok (.iconst 0, 1) := by decide +kernel
theorem dX8_side_8 : decode cX8_side 8 = .ok (.istore_n 3, 1) := by decide +kernel
theorem dX8_side_9 : decode cX8_side 9 = .ok (.iload_n 3, 1) := by decide +kernel
theorem dX8_side_10 : decode cX8_side 10 = .ok (.aload_n 0, 1) := by decide +kernel
theorem dX8_side_11 : decode cX8_side 11 = .ok (.getfield 208, 3) := by decide +kernel
theorem dX8_side_14 : decode cX8_side 14 = .ok (.if_icmp .ge 46, 3) := by decide +kernel
theorem dX8_side_17 : decode cX8_side 17 = .ok (.aload_n 0, 1) := by decide +kernel
theorem dX8_side_18 : decode cX8_side 18 = .ok (.getfield 36, 3) := by decide +kernel
theorem dX8_side_21 : decode cX8_side 21 = .ok (.iload_n 3, 1) := by decide +kernel
theorem dX8_side_22 : decode cX8_side 22 = .ok (.aload_n 0, 1) := by decide +kernel
theorem dX8_side_23 : decode cX8_side 23 = .ok (.getfield 36, 3) := by decide +kernel
theorem dX8_side_26 : decode cX8_side 26 = .ok (.iload_n 3, 1) := by decide +kernel
theorem dX8_side_27 : decode cX8_side 27 = .ok (.iaload, 1) := by decide +kernel
theorem dX8_side_28 : decode cX8_side 28 = .ok (.iload_n 2, 1) := by decide +kernel
theorem dX8_side_29 : decode cX8_side 29 = .ok (.if_icmp .ge 12, 3) := by decide +kernel
theorem dX8_side_32 : decode cX8_side 32 = .ok (.aload_n 0, 1) := by decide +kernel
theorem dX8_side_33 : decode cX8_side 33 = .ok (.getfield 36, 3) := by decide +kernel
theorem dX8_side_36 : decode cX8_side 36 = .ok (.iload_n 3, 1) := by decide +kernel
theorem dX8_side_37 : decode cX8_side 37 = .ok (.iaload, 1) := by decide +kernel
theorem dX8_side_38 : decode cX8_side 38 = .ok (.goto 15, 3) := by decide +kernel
theorem dX8_side_41 : decode cX8_side 41 = .ok (.iconst 2, 1) := by decide +kernel
theorem dX8_side_42 : decode cX8_side 42 = .ok (.iload_n 2, 1) := by decide +kernel
theorem dX8_side_43 : decode cX8_side 43 = .ok (.imul, 1) := by decide +kernel
theorem dX8_side_44 : decode cX8_side 44 = .ok (.iconst 1, 1) := by decide +kernel
theorem dX8_side_45 : decode cX8_side 45 = .ok (.isub, 1) := by decide +kernel
theorem dX8_side_46 : decode cX8_side 46 = .ok (.aload_n 0, 1) := by decide +kernel
theorem dX8_side_47 : decode cX8_side 47 = .ok (.getfield 36, 3) := by decide +kernel
theorem dX8_side_50 : decode cX8_side 50 = .ok (.iload_n 3, 1) := by decide +kernel
theorem dX8_side_51 : decode cX8_side 51 = .ok (.iaload, 1) := by decide +kernel
theorem dX8_side_52 : decode cX8_side 52 = .ok (.isub, 1) := by decide +kernel
theorem dX8_side_53 : decode cX8_side 53 = .ok (.iastore, 1) := by decide +kernel
theorem dX8_side_54 : decode cX8_side 54 = .ok (.iinc 3 1, 3) := by decide +kernel
theorem dX8_side_57 : decode cX8_side 57 = .ok (.goto (-48), 3) := by decide +kernel
theorem dX8_side_60 : decode cX8_side 60 = .ok (.aload_n 0, 1) := by decide +kernel
theorem dX8_side_61 : decode cX8_side 61 = .ok (.iload_n 2, 1) := by decide +kernel
theorem dX8_side_62 : decode cX8_side 62 = .ok (.putfield 205, 3) := by decide +kernel
theorem dX8_side_65 : decode cX8_side 65 = .ok (.return_, 1) := by decide +kernel
theorem dX8_corner_0 : decode cX8_corner 0 = .ok (.iconst 0, 1) := by decide +kernel
theorem dX8_corner_1 : decode cX8_corner 1 = .ok (.istore_n 2, 1) := by decide +kernel
theorem dX8_corner_2 : decode cX8_corner 2 = .ok (.iload_n 2, 1) := by decide +kernel
theorem dX8_corner_3 : decode cX8_corner 3 = .ok (.aload_n 0, 1) := by decide +kernel
theorem dX8_corner_4 : decode cX8_corner 4 = .ok (.getfield 208, 3) := by decide +kernel
theorem dX8_corner_7 : decode cX8_corner 7 = .ok (.if_icmp .ge 70, 3) := by decide +kernel
theorem dX8_corner_10 : decode cX8_corner 10 = .ok (.aload_n 0, 1) := by decide +kernel
theorem dX8_corner_11 : decode cX8_corner 11 = .ok (.getfield 33, 3) := by decide +kernel
theorem dX8_corner_14 : decode cX8_corner 14 = .ok (.iload_n 2, 1) := by decide +kernel
theorem dX8_corner_15 : decode cX8_corner 15 = .ok (.iaload, 1) := by decide +kernel
theorem dX8_corner_16 : decode cX8_corner 16 = .ok (.istore_n 3, 1) := by decide +kernel
theorem dX8_corner_17 : decode cX8_corner 17 = .ok (.aload_n 0, 1) := by decide +kernel
theorem dX8_corner_18 : decode cX8_corner 18 = .ok (.getfield 205, 3) := by decide +kernel
theorem dX8_corner_21 : decode cX8_corner 21 = .ok (.iconst 1, 1) := by decide +kernel
theorem dX8_corner_22 : decode cX8_corner 22 = .ok (.isub, 1) := by decide +kernel
theorem dX8_corner_23 : decode cX8_corner 23 = .ok (.aload_n 0, 1) := by decide +kernel
theorem dX8_corner_24 : decode cX8_corner 24 = .ok (.getfield 36, 3) := by decide +kernel
theorem dX8_corner_27 : decode cX8_corner 27 = .ok (.iload_n 2, 1) := by decide +kernel
theorem dX8_corner_28 : decode cX8_corner 28 = .ok (.iaload, 1) := by decide +kernel
theorem dX8_corner_29 : decode cX8_corner 29 = .ok (.isub, 1) := by decide +kernel
theorem dX8_corner_30 : decode cX8_corner 30 = .ok (.istore 4, 2) := by decide +kernel
theorem dX8_corner_32 : decode cX8_corner 32 = .ok (.iload_n 3, 1) := by decide +kernel
theorem dX8_corner_33 : decode cX8_corner 33 = .ok (.iload 4, 2) := by decide +kernel
theorem dX8_corner_35 : decode cX8_corner 35 = .ok (.iadd, 1) := by decide +kernel
theorem dX8_corner_36 : decode cX8_corner 36 = .ok (.iload_n 1, 1) := by decide +kernel
theorem dX8_corner_37 : decode cX8_corner 37 = .ok (.iconst 1, 1) := by decide +kernel
theorem dX8_corner_38 : decode cX8_corner 38 = .ok (.isub, 1) := by decide +kernel
theorem dX8_corner_39 : decode cX8_corner 39 = .ok (.if_icmp .lt 6, 3) := by decide +kernel
theorem dX8_corner_42 : decode cX8_corner 42 = .ok (.goto 29, 3) := by decide +kernel
theorem dX8_corner_45 : decode cX8_corner 45 = .ok (.aload_n 0, 1) := by decide +kernel
theorem dX8_corner_46 : decode cX8_corner 46 = .ok (.getfield 33, 3) := by decide +kernel
theorem dX8_corner_49 : decode cX8_corner 49 = .ok (.iload_n 2, 1) := by decide +kernel
theorem dX8_corner_50 : decode cX8_corner 50 = .ok (.iload_n 1, 1) := by decide +kernel
theorem dX8_corner_51 : decode cX8_corner 51 = .ok (.iconst 1, 1) := by decide +kernel
theorem dX8_corner_52 : decode cX8_corner 52 = .ok (.isub, 1) := by decide +kernel
theorem dX8_corner_53 : decode cX8_corner 53 = .ok (.iload 4, 2) := by decide +kernel
theorem dX8_corner_55 : decode cX8_corner 55 = .ok (.isub, 1) := by decide +kernel
theorem dX8_corner_56 : decode cX8_corner 56 = .ok (.iastore, 1) := by decide +kernel
theorem dX8_corner_57 : decode cX8_corner 57 = .ok (.aload_n 0, 1) := by decide +kernel
theorem dX8_corner_58 : decode cX8_corner 58 = .ok (.getfield 36, 3) := by decide +kernel
theorem dX8_corner_61 : decode cX8_corner 61 = .ok (.iload_n 2, 1) := by decide +kernel
theorem dX8_corner_62 : decode cX8_corner 62 = .ok (.aload_n 0, 1) := by decide +kernel
theorem dX8_corner_63 : decode cX8_corner 63 = .ok (.getfield 205, 3) := by decide +kernel
theorem dX8_corner_66 : decode cX8_corner 66 = .ok (.iload_n 1, 1) := by decide +kernel
theorem dX8_corner_67 : decode cX8_corner 67 = .ok (.isub, 1) := by decide +kernel
theorem dX8_corner_68 : decode cX8_corner 68 = .ok (.iload_n 3, 1) := by decide +kernel
theorem dX8_corner_69 : decode cX8_corner 69 = .ok (.iadd, 1) := by decide +kernel
theorem dX8_corner_70 : decode cX8_corner 70 = .ok (.iastore, 1) := by decide +kernel
theorem dX8_corner_71 : decode cX8_corner 71 = .ok (.iinc 2 1, 3) := by decide +kernel
theorem dX8_corner_74 : decode cX8_corner 74 = .ok (.goto (-72), 3) := by decide +kernel
theorem dX8_corner_77 : decode cX8_corner 77 = .ok (.return_, 1) := by decide +kernel
theorem dX8_folds_0 : decode cX8_folds 0 = .ok (.iload_n 1, 1) := by decide +kernel
theorem dX8_folds_1 : decode cX8_folds 1 = .ok (.ifCond .ne 12, 3) := by decide +kernel
theorem dX8_folds_4 : decode cX8_folds 4 = .ok (.aload_n 0, 1) := by decide +kernel
theorem dX8_folds_5 : decode cX8_folds 5 = .ok (.getfield 202, 3) := by decide +kernel
theorem dX8_folds_8 : decode cX8_folds 8 = .ok (.iconst 2, 1) := by decide +kernel
theorem dX8_folds_9 : decode cX8_folds 9 = .ok (.idiv, 1) := by decide +kernel
theorem dX8_folds_10 : decode cX8_folds 10 = .ok (.goto 28, 3) := by decide +kernel
theorem dX8_folds_13 : decode cX8_folds 13 = .ok (.iload_n 1, 1) := by decide +kernel
theorem dX8_folds_14 : decode cX8_folds 14 = .ok (.iconst 1, 1) := by decide +kernel
theorem dX8_folds_15 : decode cX8_folds 15 = .ok (.if_icmp .ne 12, 3) := by decide +kernel
theorem dX8_folds_18 : decode cX8_folds 18 = .ok (.aload_n 0, 1) := by decide +kernel
theorem dX8_folds_19 : decode cX8_folds 19 = .ok (.getfield 205, 3) := by decide +kernel
theorem dX8_folds_22 : decode cX8_folds 22 = .ok (.iconst 2, 1) := by decide +kernel
theorem dX8_folds_23 : decode cX8_folds 23 = .ok (.idiv, 1) := by decide +kernel
theorem dX8_folds_24 : decode cX8_folds 24 = .ok (.goto 14, 3) := by decide +kernel
theorem dX8_folds_27 : decode cX8_folds 27 = .ok (.aload_n 0, 1) := by decide +kernel
theorem dX8_folds_28 : decode cX8_folds 28 = .ok (.getfield 202, 3) := by decide +kernel
theorem dX8_folds_31 : decode cX8_folds 31 = .ok (.aload_n 0, 1) := by decide +kernel
