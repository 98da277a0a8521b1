theorem dX8_wins_107 : decode cX8_wins 107 = .ok (.iconst 4, 1) := by decide +kernel
theorem dX8_wins_108 : decode cX8_wins 108 = .ok (.iload_n 2, 1) := by decide +kernel
theorem dX8_wins_109 : decode cX8_wins 109 = .ok (.imul, 1) := by decide +kernel
theorem dX8_wins_110 : decode cX8_wins 110 = .ok (.iload 4, 2) := by decide +kernel
theorem dX8_wins_112 : decode cX8_wins 112 = .ok (.iadd, 1) := by decide +kernel
theorem dX8_wins_113 : decode cX8_wins 113 = .ok (.aload_n 0, 1) := by decide +kernel
theorem dX8_wins_114 : decode cX8_wins 114 = .ok (.aload_n 0, 1) := by decide +kernel
theorem dX8_wins_115 : decode cX8_wins 115 = .ok (.getfield 9, 3) := by decide +kernel
theorem dX8_wins_118 : decode cX8_wins 118 = .ok (.iload_n 3, 1) := by decide +kernel
theorem dX8_wins_119 : decode cX8_wins 119 = .ok (.iconst 1, 1) := by decide +kernel
theorem dX8_wins_120 : decode cX8_wins 120 = .ok (.iadd, 1) := by decide +kernel
theorem dX8_wins_121 : decode cX8_wins 121 = .ok (.iaload, 1) := by decide +kernel
theorem dX8_wins_122 : decode cX8_wins 122 = .ok (.aload_n 0, 1) := by decide +kernel
theorem dX8_wins_123 : decode cX8_wins 123 = .ok (.getfield 9, 3) := by decide +kernel
theorem dX8_wins_126 : decode cX8_wins 126 = .ok (.aload_n 0, 1) := by decide +kernel
theorem dX8_wins_127 : decode cX8_wins 127 = .ok (.aload_n 0, 1) := by decide +kernel
theorem dX8_wins_128 : decode cX8_wins 128 = .ok (.getfield 9, 3) := by decide +kernel
theorem dX8_wins_131 : decode cX8_wins 131 = .ok (.iload_n 3, 1) := by decide +kernel
theorem dX8_wins_132 : decode cX8_wins 132 = .ok (.iconst 2, 1) := by decide +kernel
theorem dX8_wins_133 : decode cX8_wins 133 = .ok (.iadd, 1) := by decide +kernel
theorem dX8_wins_134 : decode cX8_wins 134 = .ok (.iaload, 1) := by decide +kernel
theorem dX8_wins_135 : decode cX8_wins 135 = .ok (.iload 4, 2) := by decide +kernel
theorem dX8_wins_137 : decode cX8_wins 137 = .ok (.invokevirtual 394, 3) := by decide +kernel
theorem dX8_wins_140 : decode cX8_wins 140 = .ok (.iaload, 1) := by decide +kernel
theorem dX8_wins_141 : decode cX8_wins 141 = .ok (.aload_n 0, 1) := by decide +kernel
theorem dX8_wins_142 : decode cX8_wins 142 = .ok (.getfield 9, 3) := by decide +kernel
theorem dX8_wins_145 : decode cX8_wins 145 = .ok (.aload_n 0, 1) := by decide +kernel
theorem dX8_wins_146 : decode cX8_wins 146 = .ok (.aload_n 0, 1) := by decide +kernel
theorem dX8_wins_147 : decode cX8_wins 147 = .ok (.getfield 9, 3) := by decide +kernel
theorem dX8_wins_150 : decode cX8_wins 150 = .ok (.iload_n 3, 1) := by decide +kernel
theorem dX8_wins_151 : decode cX8_wins 151 = .ok (.iconst 2, 1) := by decide +kernel
theorem dX8_wins_152 : decode cX8_wins 152 = .ok (.iadd, 1) := by decide +kernel
theorem dX8_wins_153 : decode cX8_wins 153 = .ok (.iaload, 1) := by decide +kernel
theorem dX8_wins_154 : decode cX8_wins 154 = .ok (.iload 4, 2) := by decide +kernel
theorem dX8_wins_156 : decode cX8_wins 156 = .ok (.invokevirtual 394, 3) := by decide +kernel
theorem dX8_wins_159 : decode cX8_wins 159 = .ok (.iconst 1, 1) := by decide +kernel
theorem dX8_wins_160 : decode cX8_wins 160 = .ok (.iadd, 1) := by decide +kernel
theorem dX8_wins_161 : decode cX8_wins 161 = .ok (.iaload, 1) := by decide +kernel
theorem dX8_wins_162 : decode cX8_wins 162 = .ok (.iconst 0, 1) := by decide +kernel
theorem dX8_wins_163 : decode cX8_wins 163 = .ok (.invokevirtual 383, 3) := by decide +kernel
theorem dX8_wins_166 : decode cX8_wins 166 = .ok (.iastore, 1) := by decide +kernel
theorem dX8_wins_167 : decode cX8_wins 167 = .ok (.iinc 4 1, 3) := by decide +kernel
theorem dX8_wins_170 : decode cX8_wins 170 = .ok (.goto (-84), 3) := by decide +kernel
theorem dX8_wins_173 : decode cX8_wins 173 = .ok (.iinc 2 1, 3) := by decide +kernel
theorem dX8_wins_176 : decode cX8_wins 176 = .ok (.goto (-143), 3) := by decide +kernel
theorem dX8_wins_179 : decode cX8_wins 179 = .ok (.lconst 0, 1) := by decide +kernel
theorem dX8_wins_180 : decode cX8_wins 180 = .ok (.lstore_n 2, 1) := by decide +kernel
theorem dX8_wins_181 : decode cX8_wins 181 = .ok (.aload_n 0, 1) := by decide +kernel
theorem dX8_wins_182 : decode cX8_wins 182 = .ok (.getfield 9, 3) := by decide +kernel
theorem dX8_wins_185 : decode cX8_wins 185 = .ok (.sipush 252, 3) := by decide +kernel
theorem dX8_wins_188 : decode cX8_wins 188 = .ok (.iconst 3, 1) := by decide +kernel
theorem dX8_wins_189 : decode cX8_wins 189 = .ok (.iload_n 1, 1) := by decide +kernel
theorem dX8_wins_190 : decode cX8_wins 190 = .ok (.imul, 1) := by decide +kernel
theorem dX8_wins_191 : decode cX8_wins 191 = .ok (.iadd, 1) := by decide +kernel
theorem dX8_wins_192 : decode cX8_wins 192 = .ok (.iconst 2, 1) := by decide +kernel
theorem dX8_wins_193 : decode cX8_wins 193 = .ok (.iadd, 1) := by decide +kernel
theorem dX8_wins_194 : decode cX8_wins 194 = .ok (.iaload, 1) := by decide +kernel
theorem dX8_wins_195 : decode cX8_wins 195 = .ok (.istore 4, 2) := by decide +kernel
theorem dX8_wins_197 : decode cX8_wins 197 = .ok (.iconst 0, 1) := by decide +kernel
theorem dX8_wins_198 : decode cX8_wins 198 = .ok (.istore 5, 2) := by decide +kernel
theorem dX8_wins_200 : decode cX8_wins 200 = .ok (.iload 5, 2) := by decide +kernel
theorem dX8_wins_202 : decode cX8_wins 202 = .ok (.aload_n 0, 1) := by decide +kernel
theorem dX8_wins_203 : decode cX8_wins 203 = .ok (.iload 4, 2) := by decide +kernel
theorem dX8_wins_205 : decode cX8_wins 205 = .ok (.invokevirtual 403, 3) := by decide +kernel
theorem dX8_wins_208 : decode cX8_wins 208 = .ok (.if_icmp .ge 81, 3) := by decide +kernel
theorem dX8_wins_211 : decode cX8_wins 211 = .ok (.aload_n 0, 1) := by decide +kernel
theorem dX8_wins_212 : decode cX8_wins 212 = .ok (.getfield 9, 3) := by decide +kernel
theorem dX8_wins_215 : decode cX8_wins 215 = .ok (.aload_n 0, 1) := by decide +kernel
theorem dX8_wins_216 : decode cX8_wins 216 = .ok (.iload 4, 2) := by decide +kernel
theorem dX8_wins_218 : decode cX8_wins 218 = .ok (.iload 5, 2) := by decide +kernel
theorem dX8_wins_220 : decode cX8_wins 220 = .ok (.invokevirtual 394, 3) := by decide +kernel
theorem dX8_wins_223 : decode cX8_wins 223 = .ok (.iconst 2, 1) := by decide +kernel
theorem dX8_wins_224 : decode cX8_wins 224 = .ok (.iadd, 1) := by decide +kernel
theorem dX8_wins_225 : decode cX8_wins 225 = .ok (.iaload, 1) := by decide +kernel
theorem dX8_wins_226 : decode cX8_wins 226 = .ok (.i2l, 1) := by decide +kernel
theorem dX8_wins_227 : decode cX8_wins 227 = .ok (.lstore 6, 2) := by decide +kernel
theorem dX8_wins_229 : decode cX8_wins 229 = .ok (.iconst 0, 1) := by decide +kernel
theorem dX8_wins_230 : decode cX8_wins 230 = .ok (.istore 8, 2) := by decide +kernel
theorem dX8_wins_232 : decode cX8_wins 232 = .ok (.iload 8, 2) := by decide +kernel
theorem dX8_wins_234 : decode cX8_wins 234 = .ok (.aload_n 0, 1) := by decide +kernel
theorem dX8_wins_235 : decode cX8_wins 235 = .ok (.getfield 9, 3) := by decide +kernel
theorem dX8_wins_238 : decode cX8_wins 238 = .ok (.bipush 6, 2) := by decide +kernel
theorem dX8_wins_240 : decode cX8_wins 240 = .ok (.iaload, 1) := by decide +kernel
theorem dX8_wins_241 : decode cX8_wins 241 = .ok (.if_icmp .ge 37, 3) := by decide +kernel
theorem dX8_wins_244 : decode cX8_wins 244 = .ok (.iload 8, 2) := by decide +kernel
theorem dX8_wins_246 : decode cX8_wins 246 = .ok (.iload_n 1, 1) := by decide +kernel
theorem dX8_wins_247 : decode cX8_wins 247 = .ok (.if_icmp .eq 25, 3) := by decide +kernel
theorem dX8_wins_250 : decode cX8_wins 250 = .ok (.lload 6, 2) := by decide +kernel
theorem dX8_wins_252 : decode cX8_wins 252 = .ok (.aload_n 0, 1) := by decide +kernel
theorem dX8_wins_253 : decode cX8_wins 253 = .ok (.iload 8, 2) := by decide +kernel
theorem dX8_wins_255 : decode cX8_wins 255 = .ok (.aload_n 0, 1) := by decide +kernel
theorem dX8_wins_256 : decode cX8_wins 256 = .ok (.getfield 48, 3) := by decide +kernel
theorem dX8_wins_259 : decode cX8_wins 259 = .ok (.iconst 4, 1) := by decide +kernel
theorem dX8_wins_260 : decode cX8_wins 260 = .ok (.iload_n 1, 1) := by decide +kernel
theorem dX8_wins_261 : decode cX8_wins 261 = .ok (.imul, 1) := by decide +kernel
theorem dX8_wins_262 : decode cX8_wins 262 = .ok (.iload 5, 2) := by decide +kernel
theorem dX8_wins_264 : decode cX8_wins 264 = .ok (.iadd, 1) := by decide +kernel
theorem dX8_wins_265 : decode cX8_wins 265 = .ok (.iaload, 1) := by decide +kernel
theorem dX8_wins_266 : decode cX8_wins 266 = .ok (.invokevirtual 448, 3) := by decide +kernel
theorem dX8_wins_269 : decode cX8_wins 269 = .ok (.lmul, 1) := by decide +kernel
theorem dX8_wins_270 : decode cX8_wins 270 = .ok (.lstore 6, 2) := by decide +kernel
theorem dX8_wins_272 : decode cX8_wins 272 = .ok (.iinc 8 1, 3) := by decide +kernel
theorem dX8_wins_275 : decode cX8_wins 275 = .ok (.goto (-43), 3) := by decide +kernel
theorem dX8_wins_278 : decode cX8_wins 278 = .ok (.lload_n 2, 1) := by decide +kernel
theorem dX8_wins_279 : decode cX8_wins 279 = .ok (.lload 6, 2) := by decide +kernel
theorem dX8_wins_281 : decode cX8_wins 281 = .ok (.ladd, 1) := by decide +kernel
theorem dX8_wins_282 : decode cX8_wins 282 = .ok (.lstore_n 2, 1) := by decide +kernel
theorem dX8_wins_283 : decode cX8_wins 283 = .ok (.iinc 5 1, 3) := by decide +kernel
theorem dX8_wins_286 : decode cX8_wins 286 = .ok (.goto (-86), 3) := by decide +kernel
theorem dX8_wins_289 : decode cX8_wins 289 = .ok (.lload_n 2, 1) := by decide +kernel
theorem dX8_wins_290 : decode cX8_wins 290 = .ok (.lreturn, 1) := by decide +kernel
theorem dX8_lessFar_0 : decode cX8_lessFar 0 = .ok (.aload_n 0, 1) := by decide +kernel
theorem dX8_lessFar_1 : decode cX8_lessFar 1 = .ok (.getfield 9, 3) := by decide +kernel
theorem dX8_lessFar_4 : decode cX8_lessFar 4 = .ok (.sipush 252, 3) := by decide +kernel
theorem dX8_lessFar_7 : decode cX8_lessFar 7 = .ok (.iconst 3, 1) := by decide +kernel
theorem dX8_lessFar_8 : decode cX8_lessFar 8 = .ok (.iload_n 1, 1) := by decide +kernel
theorem dX8_lessFar_9 : decode cX8_lessFar 9 = .ok (.imul, 1) := by decide +kernel
theorem dX8_lessFar_10 : decode cX8_lessFar 10 = .ok (.iadd, 1) := by decide +kernel
theorem dX8_lessFar_11 : decode cX8_lessFar 11 = .ok (.iconst 2, 1) := by decide +kernel
theorem dX8_lessFar_12 : decode cX8_lessFar 12 = .ok (.iadd, 1) := by decide +kernel
theorem dX8_lessFar_13 : decode cX8_lessFar 13 = .ok (.iaload, 1) := by decide +kernel
theorem dX8_lessFar_14 : decode cX8_lessFar 14 = .ok (.istore_n 3, 1) := by decide +kernel
theorem dX8_lessFar_15 : decode cX8_lessFar 15 = .ok (.lconst 0, 1) := by decide +kernel
theorem dX8_lessFar_16 : decode cX8_lessFar 16 = .ok (.lstore 4, 2) := by decide +kernel
theorem dX8_lessFar_18 : decode cX8_lessFar 18 = .ok (.iconst 0, 1) := by decide +kernel
theorem dX8_lessFar_19 : decode cX8_lessFar 19 = .ok (.istore 6, 2) := by decide +kernel
theorem dX8_lessFar_21 : decode cX8_lessFar 21 = .ok (.iload 6, 2) := by decide +kernel
theorem dX8_lessFar_23 : decode cX8_lessFar 23 = .ok (.aload_n 0, 1) := by decide +kernel
theorem dX8_lessFar_24 : decode cX8_lessFar 24 = .ok (.iload_n 3, 1) := by decide +kernel
theorem dX8_lessFar_25 : decode cX8_lessFar 25 = .ok (.invokevirtual 403, 3) := by decide +kernel
theorem dX8_lessFar_28 : decode cX8_lessFar 28 = .ok (.if_icmp .ge 48, 3) := by decide +kernel
theorem dX8_lessFar_31 : decode cX8_lessFar 31 = .ok (.lload 4, 2) := by decide +kernel
theorem dX8_lessFar_33 : decode cX8_lessFar 33 = .ok (.aload_n 0, 1) := by decide +kernel
theorem dX8_lessFar_34 : decode cX8_lessFar 34 = .ok (.getfield 48, 3) := by decide +kernel
theorem dX8_lessFar_37 : decode cX8_lessFar 37 = .ok (.iconst 4, 1) := by decide +kernel
theorem dX8_lessFar_38 : decode cX8_lessFar 38 = .ok (.iload_n 1, 1) := by decide +kernel
theorem dX8_lessFar_39 : decode cX8_lessFar 39 = .ok (.imul, 1) := by decide +kernel
theorem dX8_lessFar_40 : decode cX8_lessFar 40 = .ok (.iload 6, 2) := by decide +kernel
theorem dX8_lessFar_42 : decode cX8_lessFar 42 = .ok (.iadd, 1) := by decide +kernel
theorem dX8_lessFar_43 : decode cX8_lessFar 43 = .ok (.iaload, 1) := by decide +kernel
theorem dX8_lessFar_44 : decode cX8_lessFar 44 = .ok (.iload_n 2, 1) := by decide +kernel
theorem dX8_lessFar_45 : decode cX8_lessFar 45 = .ok (.if_icmp .ge 21, 3) := by decide +kernel
theorem dX8_lessFar_48 : decode cX8_lessFar 48 = .ok (.aload_n 0, 1) := by decide +kernel
theorem dX8_lessFar_49 : decode cX8_lessFar 49 = .ok (.getfield 9, 3) := by decide +kernel
theorem dX8_lessFar_52 : decode cX8_lessFar 52 = .ok (.aload_n 0, 1) := by decide +kernel
theorem dX8_lessFar_53 : decode cX8_lessFar 53 = .ok (.iload_n 3, 1) := by decide +kernel
theorem dX8_lessFar_54 : decode cX8_lessFar 54 = .ok (.iload 6, 2) := by decide +kernel
theorem dX8_lessFar_56 : decode cX8_lessFar 56 = .ok (.invokevirtual 394, 3) := by decide +kernel
theorem dX8_lessFar_59 : decode cX8_lessFar 59 = .ok (.iconst 2, 1) := by decide +kernel
theorem dX8_lessFar_60 : decode cX8_lessFar 60 = .ok (.iadd, 1) := by decide +kernel
theorem dX8_lessFar_61 : decode cX8_lessFar 61 = .ok (.iaload, 1) := by decide +kernel
theorem dX8_lessFar_62 : decode cX8_lessFar 62 = .ok (.i2l, 1) := by decide +kernel
theorem dX8_lessFar_63 : decode cX8_lessFar 63 = .ok (.goto 4, 3) := by decide +kernel
theorem dX8_lessFar_66 : decode cX8_lessFar 66 = .ok (.lconst 0, 1) := by decide +kernel
theorem dX8_lessFar_67 : decode cX8_lessFar 67 = .ok (.ladd, 1) := by decide +kernel
theorem dX8_lessFar_68 : decode cX8_lessFar 68 = .ok (.lstore 4, 2) := by decide +kernel
theorem dX8_lessFar_70 : decode cX8_lessFar 70 = .ok (.iinc 6 1, 3) := by decide +kernel
theorem dX8_lessFar_73 : decode cX8_lessFar 73 = .ok (.goto (-52), 3) := by decide +kernel
theorem dX8_lessFar_76 : decode cX8_lessFar 76 = .ok (.lload 4, 2) := by decide +kernel
theorem dX8_lessFar_78 : decode cX8_lessFar 78 = .ok (.lreturn, 1) := by decide +kernel
theorem dX8_hours_0 : decode cX8_hours 0 = .ok (.aload_n 0, 1) := by decide +kernel
theorem dX8_hours_1 : decode cX8_hours 1 = .ok (.aload_n 0, 1) := by decide +kernel
theorem dX8_hours_2 : decode cX8_hours 2 = .ok (.iload_n 1, 1) := by decide +kernel
theorem dX8_hours_3 : decode cX8_hours 3 = .ok (.iload_n 3, 1) := by decide +kernel
theorem dX8_hours_4 : decode cX8_hours 4 = .ok (.invokevirtual 410, 3) := by decide +kernel
theorem dX8_hours_7 : decode cX8_hours 7 = .ok (.putfield 64, 3) := by decide +kernel
theorem dX8_hours_10 : decode cX8_hours 10 = .ok (.aload_n 0, 1) := by decide +kernel
theorem dX8_hours_11 : decode cX8_hours 11 = .ok (.getfield 64, 3) := by decide +kernel
theorem dX8_hours_14 : decode cX8_hours 14 = .ok (.ifCond .le 5, 3) := by decide +kernel
theorem dX8_hours_17 : decode cX8_hours 17 = .ok (.iconst 0, 1) := by decide +kernel
theorem dX8_hours_18 : decode cX8_hours 18 = .ok (.ireturn, 1) := by decide +kernel
theorem dX8_hours_19 : decode cX8_hours 19 = .ok (.iload_n 2, 1) := by decide +kernel
theorem dX8_hours_20 : decode cX8_hours 20 = .ok (.invokestatic 360, 3) := by decide +kernel
theorem dX8_hours_23 : decode cX8_hours 23 = .ok (.ifCond .ne 9, 3) := by decide +kernel
theorem dX8_hours_26 : decode cX8_hours 26 = .ok (.aload_n 0, 1) := by decide +kernel
theorem dX8_hours_27 : decode cX8_hours 27 = .ok (.iconst 3, 1) := by decide +kernel
theorem dX8_hours_28 : decode cX8_hours 28 = .ok (.invokevirtual 146, 3) := by decide +kernel
theorem dX8_hours_31 : decode cX8_hours 31 = .ok (.ireturn, 1) := by decide +kernel
theorem dX8_hours_32 : decode cX8_hours 32 = .ok (.iconst 0, 1) := by decide +kernel
theorem dX8_hours_33 : decode cX8_hours 33 = .ok (.istore 7, 2) := by decide +kernel
theorem dX8_hours_35 : decode cX8_hours 35 = .ok (.iload 7, 2) := by decide +kernel
theorem dX8_hours_37 : decode cX8_hours 37 = .ok (.bipush 18, 2) := by decide +kernel
theorem dX8_hours_39 : decode cX8_hours 39 = .ok (.if_icmp .gt 52, 3) := by decide +kernel
theorem dX8_hours_42 : decode cX8_hours 42 = .ok (.iconst 0, 1) := by decide +kernel
theorem dX8_hours_43 : decode cX8_hours 43 = .ok (.iload_n 2, 1) := by decide +kernel
theorem dX8_hours_44 : decode cX8_hours 44 = .ok (.invokestatic 328, 3) := by decide +kernel
theorem dX8_hours_47 : decode cX8_hours 47 = .ok (.iload 7, 2) := by decide +kernel
theorem dX8_hours_49 : decode cX8_hours 49 = .ok (.iconst 2, 1) := by decide +kernel
theorem dX8_hours_50 : decode cX8_hours 50 = .ok (.idiv, 1) := by decide +kernel
theorem dX8_hours_51 : decode cX8_hours 51 = .ok (.isub, 1) := by decide +kernel
theorem dX8_hours_52 : decode cX8_hours 52 = .ok (.invokestatic 336, 3) := by decide +kernel
theorem dX8_hours_55 : decode cX8_hours 55 = .ok (.istore 8, 2) := by decide +kernel
theorem dX8_hours_57 : decode cX8_hours 57 = .ok (.aload_n 0, 1) := by decide +kernel
theorem dX8_hours_58 : decode cX8_hours 58 = .ok (.iload_n 2, 1) := by decide +kernel
theorem dX8_hours_59 : decode cX8_hours 59 = .ok (.ifCond .ge 9, 3) := by decide +kernel
theorem dX8_hours_62 : decode cX8_hours 62 = .ok (.iload 8, 2) := by decide +kernel
theorem dX8_hours_64 : decode cX8_hours 64 = .ok (.ineg, 1) := by decide +kernel
theorem dX8_hours_65 : decode cX8_hours 65 = .ok (.goto 5, 3) := by decide +kernel
theorem dX8_hours_68 : decode cX8_hours 68 = .ok (.iload 8, 2) := by decide +kernel
theorem dX8_hours_70 : decode cX8_hours 70 = .ok (.iload_n 3, 1) := by decide +kernel
theorem dX8_hours_71 : decode cX8_hours 71 = .ok (.iload 4, 2) := by decide +kernel
theorem dX8_hours_73 : decode cX8_hours 73 = .ok (.invokevirtual 413, 3) := by decide +kernel
theorem dX8_hours_76 : decode cX8_hours 76 = .ok (.lload 5, 2) := by decide +kernel
theorem dX8_hours_78 : decode cX8_hours 78 = .ok (.lcmp, 1) := by decide +kernel
theorem dX8_hours_79 : decode cX8_hours 79 = .ok (.ifCond .ge 6, 3) := by decide +kernel
theorem dX8_hours_82 : decode cX8_hours 82 = .ok (.iload 7, 2) := by decide +kernel
theorem dX8_hours_84 : decode cX8_hours 84 = .ok (.ireturn, 1) := by decide +kernel
theorem dX8_hours_85 : decode cX8_hours 85 = .ok (.iinc 7 1, 3) := by decide +kernel
theorem dX8_hours_88 : decode cX8_hours 88 = .ok (.goto (-53), 3) := by decide +kernel
theorem dX8_hours_91 : decode cX8_hours 91 = .ok (.iconst (-1), 1) := by decide +kernel
theorem dX8_hours_92 : decode cX8_hours 92 = .ok (.ireturn, 1) := by decide +kernel
theorem dX8_seen_0 : decode cX8_seen 0 = .ok (.aload_n 0, 1) := by decide +kernel
theorem dX8_seen_1 : decode cX8_seen 1 = .ok (.aload_n 0, 1) := by decide +kernel
theorem dX8_seen_2 : decode cX8_seen 2 = .ok (.iload_n 1, 1) := by decide +kernel
theorem dX8_seen_3 : decode cX8_seen 3 = .ok (.invokevirtual 255, 3) := by decide +kernel
theorem dX8_seen_6 : decode cX8_seen 6 = .ok (.putfield 64, 3) := by decide +kernel
theorem dX8_seen_9 : decode cX8_seen 9 = .ok (.aload_n 0, 1) := by decide +kernel
theorem dX8_seen_10 : decode cX8_seen 10 = .ok (.getfield 64, 3) := by decide +kernel
theorem dX8_seen_13 : decode cX8_seen 13 = .ok (.ifCond .le 5, 3) := by decide +kernel
theorem dX8_seen_16 : decode cX8_seen 16 = .ok (.iconst 0, 1) := by decide +kernel
theorem dX8_seen_17 : decode cX8_seen 17 = .ok (.ireturn, 1) := by decide +kernel
theorem dX8_seen_18 : decode cX8_seen 18 = .ok (.iload_n 2, 1) := by decide +kernel
theorem dX8_seen_19 : decode cX8_seen 19 = .ok (.invokestatic 363, 3) := by decide +kernel
theorem dX8_seen_22 : decode cX8_seen 22 = .ok (.ifCond .eq 10, 3) := by decide +kernel
theorem dX8_seen_25 : decode cX8_seen 25 = .ok (.iload_n 3, 1) := by decide +kernel
theorem dX8_seen_26 : decode cX8_seen 26 = .ok (.invokestatic 366, 3) := by decide +kernel
theorem dX8_seen_29 : decode cX8_seen 29 = .ok (.ifCond .ne 9, 3) := by decide +kernel
theorem dX8_seen_32 : decode cX8_seen 32 = .ok (.aload_n 0, 1) := by decide +kernel
theorem dX8_seen_33 : decode cX8_seen 33 = .ok (.iconst 3, 1) := by decide +kernel
theorem dX8_seen_34 : decode cX8_seen 34 = .ok (.invokevirtual 146, 3) := by decide +kernel
theorem dX8_seen_37 : decode cX8_seen 37 = .ok (.ireturn, 1) := by decide +kernel
theorem dX8_seen_38 : decode cX8_seen 38 = .ok (.iconst 0, 1) := by decide +kernel
theorem dX8_seen_39 : decode cX8_seen 39 = .ok (.istore 6, 2) := by decide +kernel
theorem dX8_seen_41 : decode cX8_seen 41 = .ok (.bipush (-9), 2) := by decide +kernel
theorem dX8_seen_43 : decode cX8_seen 43 = .ok (.istore 7, 2) := by decide +kernel
theorem dX8_seen_45 : decode cX8_seen 45 = .ok (.iload 7, 2) := by decide +kernel
theorem dX8_seen_47 : decode cX8_seen 47 = .ok (.bipush 9, 2) := by decide +kernel
theorem dX8_seen_49 : decode cX8_seen 49 = .ok (.if_icmp .gt 54, 3) := by decide +kernel
theorem dX8_seen_52 : decode cX8_seen 52 = .ok (.aload_n 0, 1) := by decide +kernel
theorem dX8_seen_53 : decode cX8_seen 53 = .ok (.iload 7, 2) := by decide +kernel
theorem dX8_seen_55 : decode cX8_seen 55 = .ok (.iload_n 2, 1) := by decide +kernel
theorem dX8_seen_56 : decode cX8_seen 56 = .ok (.iload_n 3, 1) := by decide +kernel
theorem dX8_seen_57 : decode cX8_seen 57 = .ok (.sipush 200, 3) := by decide +kernel
theorem dX8_seen_60 : decode cX8_seen 60 = .ok (.invokevirtual 356, 3) := by decide +kernel
theorem dX8_seen_63 : decode cX8_seen 63 = .ok (.iload 6, 2) := by decide +kernel
theorem dX8_seen_65 : decode cX8_seen 65 = .ok (.aload_n 0, 1) := by decide +kernel
theorem dX8_seen_66 : decode cX8_seen 66 = .ok (.getfield 274, 3) := by decide +kernel
theorem dX8_seen_69 : decode cX8_seen 69 = .ok (.iload 4, 2) := by decide +kernel
theorem dX8_seen_71 : decode cX8_seen 71 = .ok (.if_icmp .ne 22, 3) := by decide +kernel
theorem dX8_seen_74 : decode cX8_seen 74 = .ok (.aload_n 0, 1) := by decide +kernel
theorem dX8_seen_75 : decode cX8_seen 75 = .ok (.getfield 291, 3) := by decide +kernel
theorem dX8_seen_78 : decode cX8_seen 78 = .ok (.iload 5, 2) := by decide +kernel
theorem dX8_seen_80 : decode cX8_seen 80 = .ok (.if_icmp .ne 13, 3) := by decide +kernel
theorem dX8_seen_83 : decode cX8_seen 83 = .ok (.iconst 1, 1) := by decide +kernel
theorem dX8_seen_84 : decode cX8_seen 84 = .ok (.iload 7, 2) := by decide +kernel
theorem dX8_seen_86 : decode cX8_seen 86 = .ok (.bipush 9, 2) := by decide +kernel
theorem dX8_seen_88 : decode cX8_seen 88 = .ok (.iadd, 1) := by decide +kernel
theorem dX8_seen_89 : decode cX8_seen 89 = .ok (.ishl, 1) := by decide +kernel
theorem dX8_seen_90 : decode cX8_seen 90 = .ok (.goto 4, 3) := by decide +kernel
theorem dX8_seen_93 : decode cX8_seen 93 = .ok (.iconst 0, 1) := by decide +kernel
theorem dX8_seen_94 : decode cX8_seen 94 = .ok (.ior, 1) := by decide +kernel
theorem dX8_seen_95 : decode cX8_seen 95 = .ok (.istore 6, 2) := by decide +kernel
theorem dX8_seen_97 : decode cX8_seen 97 = .ok (.iinc 7 1, 3) := by decide +kernel
theorem dX8_seen_100 : decode cX8_seen 100 = .ok (.goto (-55), 3) := by decide +kernel
theorem dX8_seen_103 : decode cX8_seen 103 = .ok (.iload 6, 2) := by decide +kernel
theorem dX8_seen_105 : decode cX8_seen 105 = .ok (.ireturn, 1) := by decide +kernel
theorem dX8_isFound_0 : decode cX8_isFound 0 = .ok (.aload_n 0, 1) := by decide +kernel
theorem dX8_isFound_1 : decode cX8_isFound 1 = .ok (.invokevirtual 249, 3) := by decide +kernel
theorem dX8_isFound_4 : decode cX8_isFound 4 = .ok (.aload_n 0, 1) := by decide +kernel
theorem dX8_isFound_5 : decode cX8_isFound 5 = .ok (.getfield 227, 3) := by decide +kernel
theorem dX8_isFound_8 : decode cX8_isFound 8 = .ok (.iload_n 1, 1) := by decide +kernel
theorem dX8_isFound_9 : decode cX8_isFound 9 = .ok (.if_icmp .ne 15, 3) := by decide +kernel
theorem dX8_isFound_12 : decode cX8_isFound 12 = .ok (.aload_n 0, 1) := by decide +kernel
theorem dX8_isFound_13 : decode cX8_isFound 13 = .ok (.getfield 233, 3) := by decide +kernel
theorem dX8_isFound_16 : decode cX8_isFound 16 = .ok (.iload_n 2, 1) := by decide +kernel
theorem dX8_isFound_17 : decode cX8_isFound 17 = .ok (.if_icmp .ne 7, 3) := by decide +kernel
theorem dX8_isFound_20 : decode cX8_isFound 20 = .ok (.iconst 1, 1) := by decide +kernel
theorem dX8_isFound_21 : decode cX8_isFound 21 = .ok (.goto 4, 3) := by decide +kernel
theorem dX8_isFound_24 : decode cX8_isFound 24 = .ok (.iconst 0, 1) := by decide +kernel
theorem dX8_isFound_25 : decode cX8_isFound 25 = .ok (.ireturn, 1) := by decide +kernel
theorem dX8_found_0 : decode cX8_found 0 = .ok (.aload_n 0, 1) := by decide +kernel
theorem dX8_found_1 : decode cX8_found 1 = .ok (.iconst 0, 1) := by decide +kernel
theorem dX8_found_2 : decode cX8_found 2 = .ok (.putfield 64, 3) := by decide +kernel
theorem dX8_found_5 : decode cX8_found 5 = .ok (.aload_n 0, 1) := by decide +kernel
theorem dX8_found_6 : decode cX8_found 6 = .ok (.invokevirtual 242, 3) := by decide +kernel
theorem dX8_found_9 : decode cX8_found 9 = .ok (.aload_n 0, 1) := by decide +kernel
theorem dX8_found_10 : decode cX8_found 10 = .ok (.iload_n 1, 1) := by decide +kernel
theorem dX8_found_11 : decode cX8_found 11 = .ok (.iload_n 2, 1) := by decide +kernel
theorem dX8_found_12 : decode cX8_found 12 = .ok (.invokevirtual 451, 3) := by decide +kernel
theorem dX8_found_15 : decode cX8_found 15 = .ok (.ifCond .eq 14, 3) := by decide +kernel
theorem dX8_found_18 : decode cX8_found 18 = .ok (.iload_n 3, 1) := by decide +kernel
theorem dX8_found_19 : decode cX8_found 19 = .ok (.iconst (-1), 1) := by decide +kernel
theorem dX8_found_20 : decode cX8_found 20 = .ok (.if_icmp .ne 7, 3) := by decide +kernel
theorem dX8_found_23 : decode cX8_found 23 = .ok (.iconst 0, 1) := by decide +kernel
theorem dX8_found_24 : decode cX8_found 24 = .ok (.goto 4, 3) := by decide +kernel
theorem dX8_found_27 : decode cX8_found 27 = .ok (.iconst (-1), 1) := by decide +kernel
theorem dX8_found_28 : decode cX8_found 28 = .ok (.ireturn, 1) := by decide +kernel
theorem dX8_found_29 : decode cX8_found 29 = .ok (.iconst 0, 1) := by decide +kernel
theorem dX8_found_30 : decode cX8_found 30 = .ok (.istore 4, 2) := by decide +kernel
theorem dX8_found_32 : decode cX8_found 32 = .ok (.iload 4, 2) := by decide +kernel
theorem dX8_found_34 : decode cX8_found 34 = .ok (.bipush 18, 2) := by decide +kernel
theorem dX8_found_36 : decode cX8_found 36 = .ok (.if_icmp .ge 75, 3) := by decide +kernel
theorem dX8_found_39 : decode cX8_found 39 = .ok (.aload_n 0, 1) := by decide +kernel
theorem dX8_found_40 : decode cX8_found 40 = .ok (.invokevirtual 242, 3) := by decide +kernel
theorem dX8_found_43 : decode cX8_found 43 = .ok (.aload_n 0, 1) := by decide +kernel
theorem dX8_found_44 : decode cX8_found 44 = .ok (.iload 4, 2) := by decide +kernel
theorem dX8_found_46 : decode cX8_found 46 = .ok (.bipush 6, 2) := by decide +kernel
theorem dX8_found_48 : decode cX8_found 48 = .ok (.idiv, 1) := by decide +kernel
theorem dX8_found_49 : decode cX8_found 49 = .ok (.iload 4, 2) := by decide +kernel
theorem dX8_found_51 : decode cX8_found 51 = .ok (.bipush 6, 2) := by decide +kernel
theorem dX8_found_53 : decode cX8_found 53 = .ok (.irem, 1) := by decide +kernel
theorem dX8_found_54 : decode cX8_found 54 = .ok (.iconst 1, 1) := by decide +kernel
theorem dX8_found_55 : decode cX8_found 55 = .ok (.iadd, 1) := by decide +kernel
theorem dX8_found_56 : decode cX8_found 56 = .ok (.invokevirtual 245, 3) := by decide +kernel
theorem dX8_found_59 : decode cX8_found 59 = .ok (.ifCond .eq 46, 3) := by decide +kernel
theorem dX8_found_62 : decode cX8_found 62 = .ok (.aload_n 0, 1) := by decide +kernel
theorem dX8_found_63 : decode cX8_found 63 = .ok (.iload_n 1, 1) := by decide +kernel
theorem dX8_found_64 : decode cX8_found 64 = .ok (.iload_n 2, 1) := by decide +kernel
theorem dX8_found_65 : decode cX8_found 65 = .ok (.invokevirtual 451, 3) := by decide +kernel
theorem dX8_found_68 : decode cX8_found 68 = .ok (.ifCond .eq 37, 3) := by decide +kernel
theorem dX8_found_71 : decode cX8_found 71 = .ok (.iload_n 3, 1) := by decide +kernel
theorem dX8_found_72 : decode cX8_found 72 = .ok (.iconst (-1), 1) := by decide +kernel
theorem dX8_found_73 : decode cX8_found 73 = .ok (.if_icmp .ne 7, 3) := by decide +kernel
theorem dX8_found_76 : decode cX8_found 76 = .ok (.iconst 1, 1) := by decide +kernel
theorem dX8_found_77 : decode cX8_found 77 = .ok (.goto 27, 3) := by decide +kernel
theorem dX8_found_80 : decode cX8_found 80 = .ok (.iload_n 3, 1) := by decide +kernel
theorem dX8_found_81 : decode cX8_found 81 = .ok (.ifCond .ne 22, 3) := by decide +kernel
theorem dX8_found_84 : decode cX8_found 84 = .ok (.bipush 100, 2) := by decide +kernel
theorem dX8_found_86 : decode cX8_found 86 = .ok (.iload 4, 2) := by decide +kernel
theorem dX8_found_88 : decode cX8_found 88 = .ok (.bipush 6, 2) := by decide +kernel
theorem dX8_found_90 : decode cX8_found 90 = .ok (.idiv, 1) := by decide +kernel
theorem dX8_found_91 : decode cX8_found 91 = .ok (.imul, 1) := by decide +kernel
theorem dX8_found_92 : decode cX8_found 92 = .ok (.iload 4, 2) := by decide +kernel
theorem dX8_found_94 : decode cX8_found 94 = .ok (.bipush 6, 2) := by decide +kernel
theorem dX8_found_96 : decode cX8_found 96 = .ok (.irem, 1) := by decide +kernel
theorem dX8_found_97 : decode cX8_found 97 = .ok (.iadd, 1) := by decide +kernel
theorem dX8_found_98 : decode cX8_found 98 = .ok (.iconst 1, 1) := by decide +kernel
theorem dX8_found_99 : decode cX8_found 99 = .ok (.iadd, 1) := by decide +kernel
theorem dX8_found_100 : decode cX8_found 100 = .ok (.goto 4, 3) := by decide +kernel
theorem dX8_found_103 : decode cX8_found 103 = .ok (.iconst (-1), 1) := by decide +kernel
theorem dX8_found_104 : decode cX8_found 104 = .ok (.ireturn, 1) := by decide +kernel
theorem dX8_found_105 : decode cX8_found 105 = .ok (.iinc 4 1, 3) := by decide +kernel
theorem dX8_found_108 : decode cX8_found 108 = .ok (.goto (-76), 3) := by decide +kernel
theorem dX8_found_111 : decode cX8_found 111 = .ok (.iconst 0, 1) := by decide +kernel
theorem dX8_found_112 : decode cX8_found 112 = .ok (.istore 4, 2) := by decide +kernel
theorem dX8_found_114 : decode cX8_found 114 = .ok (.iload 4, 2) := by decide +kernel
theorem dX8_found_116 : decode cX8_found 116 = .ok (.bipush 18, 2) := by decide +kernel
theorem dX8_found_118 : decode cX8_found 118 = .ok (.if_icmp .ge 132, 3) := by decide +kernel
theorem dX8_found_121 : decode cX8_found 121 = .ok (.iconst 0, 1) := by decide +kernel
theorem dX8_found_122 : decode cX8_found 122 = .ok (.istore 5, 2) := by decide +kernel
theorem dX8_found_124 : decode cX8_found 124 = .ok (.iload 5, 2) := by decide +kernel
theorem dX8_found_126 : decode cX8_found 126 = .ok (.bipush 18, 2) := by decide +kernel
theorem dX8_found_128 : decode cX8_found 128 = .ok (.if_icmp .ge 116, 3) := by decide +kernel
theorem dX8_found_131 : decode cX8_found 131 = .ok (.aload_n 0, 1) := by decide +kernel
theorem dX8_found_132 : decode cX8_found 132 = .ok (.invokevirtual 242, 3) := by decide +kernel
theorem dX8_found_135 : decode cX8_found 135 = .ok (.aload_n 0, 1) := by decide +kernel
theorem dX8_found_136 : decode cX8_found 136 = .ok (.iload 4, 2) := by decide +kernel
theorem dX8_found_138 : decode cX8_found 138 = .ok (.bipush 6, 2) := by decide +kernel
theorem dX8_found_140 : decode cX8_found 140 = .ok (.idiv, 1) := by decide +kernel
theorem dX8_found_141 : decode cX8_found 141 = .ok (.iload 4, 2) := by decide +kernel
theorem dX8_found_143 : decode cX8_found 143 = .ok (.bipush 6, 2) := by decide +kernel
theorem dX8_found_145 : decode cX8_found 145 = .ok (.irem, 1) := by decide +kernel
theorem dX8_found_146 : decode cX8_found 146 = .ok (.iconst 1, 1) := by decide +kernel
theorem dX8_found_147 : decode cX8_found 147 = .ok (.iadd, 1) := by decide +kernel
theorem dX8_found_148 : decode cX8_found 148 = .ok (.invokevirtual 245, 3) := by decide +kernel
theorem dX8_found_151 : decode cX8_found 151 = .ok (.ifCond .eq 87, 3) := by decide +kernel
theorem dX8_found_154 : decode cX8_found 154 = .ok (.aload_n 0, 1) := by decide +kernel
theorem dX8_found_155 : decode cX8_found 155 = .ok (.iload 5, 2) := by decide +kernel
theorem dX8_found_157 : decode cX8_found 157 = .ok (.bipush 6, 2) := by decide +kernel
theorem dX8_found_159 : decode cX8_found 159 = .ok (.idiv, 1) := by decide +kernel
theorem dX8_found_160 : decode cX8_found 160 = .ok (.iload 5, 2) := by decide +kernel
theorem dX8_found_162 : decode cX8_found 162 = .ok (.bipush 6, 2) := by decide +kernel
theorem dX8_found_164 : decode cX8_found 164 = .ok (.irem, 1) := by decide +kernel
theorem dX8_found_165 : decode cX8_found 165 = .ok (.iconst 1, 1) := by decide +kernel
theorem dX8_found_166 : decode cX8_found 166 = .ok (.iadd, 1) := by decide +kernel
theorem dX8_found_167 : decode cX8_found 167 = .ok (.invokevirtual 245, 3) := by decide +kernel
theorem dX8_found_170 : decode cX8_found 170 = .ok (.ifCond .eq 68, 3) := by decide +kernel
theorem dX8_found_173 : decode cX8_found 173 = .ok (.aload_n 0, 1) := by decide +kernel
theorem dX8_found_174 : decode cX8_found 174 = .ok (.iload_n 1, 1) := by decide +kernel
theorem dX8_found_175 : decode cX8_found 175 = .ok (.iload_n 2, 1) := by decide +kernel
theorem dX8_found_176 : decode cX8_found 176 = .ok (.invokevirtual 451, 3) := by decide +kernel
theorem dX8_found_179 : decode cX8_found 179 = .ok (.ifCond .ne 6, 3) := by decide +kernel
theorem dX8_found_182 : decode cX8_found 182 = .ok (.goto 56, 3) := by decide +kernel
theorem dX8_found_185 : decode cX8_found 185 = .ok (.iload_n 3, 1) := by decide +kernel
theorem dX8_found_186 : decode cX8_found 186 = .ok (.ifCond .ne 8, 3) := by decide +kernel
theorem dX8_found_189 : decode cX8_found 189 = .ok (.iload 4, 2) := by decide +kernel
theorem dX8_found_191 : decode cX8_found 191 = .ok (.goto 5, 3) := by decide +kernel
theorem dX8_found_194 : decode cX8_found 194 = .ok (.iload 5, 2) := by decide +kernel
theorem dX8_found_196 : decode cX8_found 196 = .ok (.istore 6, 2) := by decide +kernel
theorem dX8_found_198 : decode cX8_found 198 = .ok (.iload_n 3, 1) := by decide +kernel
theorem dX8_found_199 : decode cX8_found 199 = .ok (.iconst (-1), 1) := by decide +kernel
theorem dX8_found_200 : decode cX8_found 200 = .ok (.if_icmp .ne 7, 3) := by decide +kernel
theorem dX8_found_203 : decode cX8_found 203 = .ok (.iconst 2, 1) := by decide +kernel
theorem dX8_found_204 : decode cX8_found 204 = .ok (.goto 33, 3) := by decide +kernel
theorem dX8_found_207 : decode cX8_found 207 = .ok (.iload_n 3, 1) := by decide +kernel
theorem dX8_found_208 : decode cX8_found 208 = .ok (.i2l, 1) := by decide +kernel
theorem dX8_found_209 : decode cX8_found 209 = .ok (.lconst 0, 1) := by decide +kernel
theorem dX8_found_210 : decode cX8_found 210 = .ok (.lconst 1, 1) := by decide +kernel
theorem dX8_found_211 : decode cX8_found 211 = .ok (.invokestatic 67, 3) := by decide +kernel
theorem dX8_found_214 : decode cX8_found 214 = .ok (.ifCond .eq 22, 3) := by decide +kernel
theorem dX8_found_217 : decode cX8_found 217 = .ok (.bipush 100, 2) := by decide +kernel
theorem dX8_found_219 : decode cX8_found 219 = .ok (.iload 6, 2) := by decide +kernel
theorem dX8_found_221 : decode cX8_found 221 = .ok (.bipush 6, 2) := by decide +kernel
theorem dX8_found_223 : decode cX8_found 223 = .ok (.idiv, 1) := by decide +kernel
theorem dX8_found_224 : decode cX8_found 224 = .ok (.imul, 1) := by decide +kernel
theorem dX8_found_225 : decode cX8_found 225 = .ok (.iload 6, 2) := by decide +kernel
theorem dX8_found_227 : decode cX8_found 227 = .ok (.bipush 6, 2) := by decide +kernel
theorem dX8_found_229 : decode cX8_found 229 = .ok (.irem, 1) := by decide +kernel
theorem dX8_found_230 : decode cX8_found 230 = .ok (.iadd, 1) := by decide +kernel
theorem dX8_found_231 : decode cX8_found 231 = .ok (.iconst 1, 1) := by decide +kernel
theorem dX8_found_232 : decode cX8_found 232 = .ok (.iadd, 1) := by decide +kernel
theorem dX8_found_233 : decode cX8_found 233 = .ok (.goto 4, 3) := by decide +kernel
theorem dX8_found_236 : decode cX8_found 236 = .ok (.iconst (-1), 1) := by decide +kernel
theorem dX8_found_237 : decode cX8_found 237 = .ok (.ireturn, 1) := by decide +kernel
theorem dX8_found_238 : decode cX8_found 238 = .ok (.iinc 5 1, 3) := by decide +kernel
theorem dX8_found_241 : decode cX8_found 241 = .ok (.goto (-117), 3) := by decide +kernel
theorem dX8_found_244 : decode cX8_found 244 = .ok (.iinc 4 1, 3) := by decide +kernel
theorem dX8_found_247 : decode cX8_found 247 = .ok (.goto (-133), 3) := by decide +kernel
theorem dX8_found_250 : decode cX8_found 250 = .ok (.iconst (-1), 1) := by decide +kernel
theorem dX8_found_251 : decode cX8_found 251 = .ok (.ireturn, 1) := by decide +kernel
theorem dX8_isTray_0 : decode cX8_isTray 0 = .ok (.iload_n 0, 1) := by decide +kernel
theorem dX8_isTray_1 : decode cX8_isTray 1 = .ok (.i2l, 1) := by decide +kernel
theorem dX8_isTray_2 : decode cX8_isTray 2 = .ok (.lconst 0, 1) := by decide +kernel
theorem dX8_isTray_3 : decode cX8_isTray 3 = .ok (.ldc2_w 87, 3) := by decide +kernel
theorem dX8_isTray_6 : decode cX8_isTray 6 = .ok (.invokestatic 67, 3) := by decide +kernel
theorem dX8_isTray_9 : decode cX8_isTray 9 = .ok (.ireturn, 1) := by decide +kernel
theorem dX8_tray_0 : decode cX8_tray 0 = .ok (.aload_n 0, 1) := by decide +kernel
theorem dX8_tray_1 : decode cX8_tray 1 = .ok (.iload_n 1, 1) := by decide +kernel
theorem dX8_tray_2 : decode cX8_tray 2 = .ok (.invokestatic 454, 3) := by decide +kernel
theorem dX8_tray_5 : decode cX8_tray 5 = .ok (.ifCond .ne 7, 3) := by decide +kernel
theorem dX8_tray_8 : decode cX8_tray 8 = .ok (.iconst 1, 1) := by decide +kernel
theorem dX8_tray_9 : decode cX8_tray 9 = .ok (.goto 32, 3) := by decide +kernel
theorem dX8_tray_12 : decode cX8_tray 12 = .ok (.iload_n 2, 1) := by decide +kernel
theorem dX8_tray_13 : decode cX8_tray 13 = .ok (.i2l, 1) := by decide +kernel
theorem dX8_tray_14 : decode cX8_tray 14 = .ok (.lconst 0, 1) := by decide +kernel
theorem dX8_tray_15 : decode cX8_tray 15 = .ok (.ldc2_w 87, 3) := by decide +kernel
theorem dX8_tray_18 : decode cX8_tray 18 = .ok (.invokestatic 67, 3) := by decide +kernel
theorem dX8_tray_21 : decode cX8_tray 21 = .ok (.ifCond .eq 15, 3) := by decide +kernel
theorem dX8_tray_24 : decode cX8_tray 24 = .ok (.iload_n 3, 1) := by decide +kernel
theorem dX8_tray_25 : decode cX8_tray 25 = .ok (.i2l, 1) := by decide +kernel
theorem dX8_tray_26 : decode cX8_tray 26 = .ok (.lconst 0, 1) := by decide +kernel
theorem dX8_tray_27 : decode cX8_tray 27 = .ok (.ldc2_w 89, 3) := by decide +kernel
theorem dX8_tray_30 : decode cX8_tray 30 = .ok (.invokestatic 67, 3) := by decide +kernel
theorem dX8_tray_33 : decode cX8_tray 33 = .ok (.ifCond .ne 7, 3) := by decide +kernel
theorem dX8_tray_36 : decode cX8_tray 36 = .ok (.iconst 2, 1) := by decide +kernel
theorem dX8_tray_37 : decode cX8_tray 37 = .ok (.goto 4, 3) := by decide +kernel
theorem dX8_tray_40 : decode cX8_tray 40 = .ok (.iconst 0, 1) := by decide +kernel
theorem dX8_tray_41 : decode cX8_tray 41 = .ok (.putfield 64, 3) := by decide +kernel
theorem dX8_tray_44 : decode cX8_tray 44 = .ok (.aload_n 0, 1) := by decide +kernel
theorem dX8_tray_45 : decode cX8_tray 45 = .ok (.getfield 64, 3) := by decide +kernel
theorem dX8_tray_48 : decode cX8_tray 48 = .ok (.ifCond .le 4, 3) := by decide +kernel
theorem dX8_tray_51 : decode cX8_tray 51 = .ok (.return_, 1) := by decide +kernel
theorem dX8_tray_52 : decode cX8_tray 52 = .ok (.aload_n 0, 1) := by decide +kernel
theorem dX8_tray_53 : decode cX8_tray 53 = .ok (.getfield 51, 3) := by decide +kernel
theorem dX8_tray_56 : decode cX8_tray 56 = .ok (.iload_n 1, 1) := by decide +kernel
theorem dX8_tray_57 : decode cX8_tray 57 = .ok (.iload_n 2, 1) := by decide +kernel
theorem dX8_tray_58 : decode cX8_tray 58 = .ok (.iastore, 1) := by decide +kernel
theorem dX8_tray_59 : decode cX8_tray 59 = .ok (.aload_n 0, 1) := by decide +kernel
theorem dX8_tray_60 : decode cX8_tray 60 = .ok (.getfield 54, 3) := by decide +kernel
theorem dX8_tray_63 : decode cX8_tray 63 = .ok (.iload_n 1, 1) := by decide +kernel
theorem dX8_tray_64 : decode cX8_tray 64 = .ok (.iload_n 3, 1) := by decide +kernel
theorem dX8_tray_65 : decode cX8_tray 65 = .ok (.iastore, 1) := by decide +kernel
theorem dX8_tray_66 : decode cX8_tray 66 = .ok (.iconst 0, 1) := by decide +kernel
theorem dX8_tray_67 : decode cX8_tray 67 = .ok (.istore 4, 2) := by decide +kernel
theorem dX8_tray_69 : decode cX8_tray 69 = .ok (.iload 4, 2) := by decide +kernel
theorem dX8_tray_71 : decode cX8_tray 71 = .ok (.bipush 12, 2) := by decide +kernel
theorem dX8_tray_73 : decode cX8_tray 73 = .ok (.if_icmp .ge 22, 3) := by decide +kernel
theorem dX8_tray_76 : decode cX8_tray 76 = .ok (.aload_n 0, 1) := by decide +kernel
theorem dX8_tray_77 : decode cX8_tray 77 = .ok (.getfield 57, 3) := by decide +kernel
theorem dX8_tray_80 : decode cX8_tray 80 = .ok (.bipush 12, 2) := by decide +kernel
theorem dX8_tray_82 : decode cX8_tray 82 = .ok (.iload_n 1, 1) := by decide +kernel
theorem dX8_tray_83 : decode cX8_tray 83 = .ok (.imul, 1) := by decide +kernel
theorem dX8_tray_84 : decode cX8_tray 84 = .ok (.iload 4, 2) := by decide +kernel
theorem dX8_tray_86 : decode cX8_tray 86 = .ok (.iadd, 1) := by decide +kernel
theorem dX8_tray_87 : decode cX8_tray 87 = .ok (.lconst 0, 1) := by decide +kernel
theorem dX8_tray_88 : decode cX8_tray 88 = .ok (.lastore, 1) := by decide +kernel
theorem dX8_tray_89 : decode cX8_tray 89 = .ok (.iinc 4 1, 3) := by decide +kernel
theorem dX8_tray_92 : decode cX8_tray 92 = .ok (.goto (-23), 3) := by decide +kernel
theorem dX8_tray_95 : decode cX8_tray 95 = .ok (.return_, 1) := by decide +kernel
theorem dX8_write_0 : decode cX8_write 0 = .ok (.aload_n 0, 1) := by decide +kernel
theorem dX8_write_1 : decode cX8_write 1 = .ok (.iconst 0, 1) := by decide +kernel
theorem dX8_write_2 : decode cX8_write 2 = .ok (.putfield 64, 3) := by decide +kernel
theorem dX8_write_5 : decode cX8_write 5 = .ok (.iload_n 1, 1) := by decide +kernel
theorem dX8_write_6 : decode cX8_write 6 = .ok (.invokestatic 454, 3) := by decide +kernel
theorem dX8_write_9 : decode cX8_write 9 = .ok (.ifCond .ne 10, 3) := by decide +kernel
theorem dX8_write_12 : decode cX8_write 12 = .ok (.aload_n 0, 1) := by decide +kernel
theorem dX8_write_13 : decode cX8_write 13 = .ok (.iconst 1, 1) := by decide +kernel
theorem dX8_write_14 : decode cX8_write 14 = .ok (.invokevirtual 146, 3) := by decide +kernel
theorem dX8_write_17 : decode cX8_write 17 = .ok (.i2l, 1) := by decide +kernel
theorem dX8_write_18 : decode cX8_write 18 = .ok (.lreturn, 1) := by decide +kernel
theorem dX8_write_19 : decode cX8_write 19 = .ok (.aload_n 0, 1) := by decide +kernel
theorem dX8_write_20 : decode cX8_write 20 = .ok (.getfield 51, 3) := by decide +kernel
theorem dX8_write_23 : decode cX8_write 23 = .ok (.iload_n 1, 1) := by decide +kernel
theorem dX8_write_24 : decode cX8_write 24 = .ok (.iaload, 1) := by decide +kernel
theorem dX8_write_25 : decode cX8_write 25 = .ok (.iconst (-1), 1) := by decide +kernel
theorem dX8_write_26 : decode cX8_write 26 = .ok (.if_icmp .ne 10, 3) := by decide +kernel
theorem dX8_write_29 : decode cX8_write 29 = .ok (.aload_n 0, 1) := by decide +kernel
theorem dX8_write_30 : decode cX8_write 30 = .ok (.iconst 2, 1) := by decide +kernel
theorem dX8_write_31 : decode cX8_write 31 = .ok (.invokevirtual 146, 3) := by decide +kernel
theorem dX8_write_34 : decode cX8_write 34 = .ok (.i2l, 1) := by decide +kernel
theorem dX8_write_35 : decode cX8_write 35 = .ok (.lreturn, 1) := by decide +kernel
theorem dX8_write_36 : decode cX8_write 36 = .ok (.iload_n 2, 1) := by decide +kernel
theorem dX8_write_37 : decode cX8_write 37 = .ok (.i2l, 1) := by decide +kernel
theorem dX8_write_38 : decode cX8_write 38 = .ok (.lconst 0, 1) := by decide +kernel
theorem dX8_write_39 : decode cX8_write 39 = .ok (.aload_n 0, 1) := by decide +kernel
theorem dX8_write_40 : decode cX8_write 40 = .ok (.getfield 54, 3) := by decide +kernel
theorem dX8_write_43 : decode cX8_write 43 = .ok (.iload_n 1, 1) := by decide +kernel
theorem dX8_write_44 : decode cX8_write 44 = .ok (.iaload, 1) := by decide +kernel
theorem dX8_write_45 : decode cX8_write 45 = .ok (.iconst 1, 1) := by decide +kernel
theorem dX8_write_46 : decode cX8_write 46 = .ok (.isub, 1) := by decide +kernel
theorem dX8_write_47 : decode cX8_write 47 = .ok (.i2l, 1) := by decide +kernel
theorem dX8_write_48 : decode cX8_write 48 = .ok (.invokestatic 67, 3) := by decide +kernel
theorem dX8_write_51 : decode cX8_write 51 = .ok (.ifCond .ne 10, 3) := by decide +kernel
theorem dX8_write_54 : decode cX8_write 54 = .ok (.aload_n 0, 1) := by decide +kernel
theorem dX8_write_55 : decode cX8_write 55 = .ok (.iconst 3, 1) := by decide +kernel
theorem dX8_write_56 : decode cX8_write 56 = .ok (.invokevirtual 146, 3) := by decide +kernel
theorem dX8_write_59 : decode cX8_write 59 = .ok (.i2l, 1) := by decide +kernel
theorem dX8_write_60 : decode cX8_write 60 = .ok (.lreturn, 1) := by decide +kernel
theorem dX8_write_61 : decode cX8_write 61 = .ok (.bipush 64, 2) := by decide +kernel
theorem dX8_write_63 : decode cX8_write 63 = .ok (.bipush 8, 2) := by decide +kernel
theorem dX8_write_65 : decode cX8_write 65 = .ok (.aload_n 0, 1) := by decide +kernel
theorem dX8_write_66 : decode cX8_write 66 = .ok (.getfield 51, 3) := by decide +kernel
theorem dX8_write_69 : decode cX8_write 69 = .ok (.iload_n 1, 1) := by decide +kernel
theorem dX8_write_70 : decode cX8_write 70 = .ok (.iaload, 1) := by decide +kernel
theorem dX8_write_71 : decode cX8_write 71 = .ok (.ishl, 1) := by decide +kernel
theorem dX8_write_72 : decode cX8_write 72 = .ok (.isub, 1) := by decide +kernel
theorem dX8_write_73 : decode cX8_write 73 = .ok (.istore 5, 2) := by decide +kernel
theorem dX8_write_75 : decode cX8_write 75 = .ok (.aload_n 0, 1) := by decide +kernel
theorem dX8_write_76 : decode cX8_write 76 = .ok (.getfield 57, 3) := by decide +kernel
theorem dX8_write_79 : decode cX8_write 79 = .ok (.bipush 12, 2) := by decide +kernel
theorem dX8_write_81 : decode cX8_write 81 = .ok (.iload_n 1, 1) := by decide +kernel
theorem dX8_write_82 : decode cX8_write 82 = .ok (.imul, 1) := by decide +kernel
theorem dX8_write_83 : decode cX8_write 83 = .ok (.iload_n 2, 1) := by decide +kernel
theorem dX8_write_84 : decode cX8_write 84 = .ok (.iadd, 1) := by decide +kernel
theorem dX8_write_85 : decode cX8_write 85 = .ok (.lload_n 3, 1) := by decide +kernel
theorem dX8_write_86 : decode cX8_write 86 = .ok (.iload 5, 2) := by decide +kernel
theorem dX8_write_88 : decode cX8_write 88 = .ok (.lshl, 1) := by decide +kernel
theorem dX8_write_89 : decode cX8_write 89 = .ok (.iload 5, 2) := by decide +kernel
theorem dX8_write_91 : decode cX8_write 91 = .ok (.lshr, 1) := by decide +kernel
theorem dX8_write_92 : decode cX8_write 92 = .ok (.lastore, 1) := by decide +kernel
theorem dX8_write_93 : decode cX8_write 93 = .ok (.aload_n 0, 1) := by decide +kernel
theorem dX8_write_94 : decode cX8_write 94 = .ok (.getfield 57, 3) := by decide +kernel
theorem dX8_write_97 : decode cX8_write 97 = .ok (.bipush 12, 2) := by decide +kernel
theorem dX8_write_99 : decode cX8_write 99 = .ok (.iload_n 1, 1) := by decide +kernel
theorem dX8_write_100 : decode cX8_write 100 = .ok (.imul, 1) := by decide +kernel
theorem dX8_write_101 : decode cX8_write 101 = .ok (.iload_n 2, 1) := by decide +kernel
theorem dX8_write_102 : decode cX8_write 102 = .ok (.iadd, 1) := by decide +kernel
theorem dX8_write_103 : decode cX8_write 103 = .ok (.laload, 1) := by decide +kernel
theorem dX8_write_104 : decode cX8_write 104 = .ok (.lreturn, 1) := by decide +kernel
theorem dX8_take_0 : decode cX8_take 0 = .ok (.aload_n 0, 1) := by decide +kernel
theorem dX8_take_1 : decode cX8_take 1 = .ok (.iconst 0, 1) := by decide +kernel
theorem dX8_take_2 : decode cX8_take 2 = .ok (.putfield 64, 3) := by decide +kernel
theorem dX8_take_5 : decode cX8_take 5 = .ok (.iload_n 1, 1) := by decide +kernel
theorem dX8_take_6 : decode cX8_take 6 = .ok (.invokestatic 454, 3) := by decide +kernel
theorem dX8_take_9 : decode cX8_take 9 = .ok (.ifCond .eq 11, 3) := by decide +kernel
theorem dX8_take_12 : decode cX8_take 12 = .ok (.aload_n 0, 1) := by decide +kernel
theorem dX8_take_13 : decode cX8_take 13 = .ok (.iload_n 2, 1) := by decide +kernel
theorem dX8_take_14 : decode cX8_take 14 = .ok (.invokevirtual 397, 3) := by decide +kernel
theorem dX8_take_17 : decode cX8_take 17 = .ok (.ifCond .ne 9, 3) := by decide +kernel
theorem dX8_take_20 : decode cX8_take 20 = .ok (.aload_n 0, 1) := by decide +kernel
theorem dX8_take_21 : decode cX8_take 21 = .ok (.iconst 1, 1) := by decide +kernel
theorem dX8_take_22 : decode cX8_take 22 = .ok (.invokevirtual 146, 3) := by decide +kernel
theorem dX8_take_25 : decode cX8_take 25 = .ok (.ireturn, 1) := by decide +kernel
theorem dX8_take_26 : decode cX8_take 26 = .ok (.aload_n 0, 1) := by decide +kernel
theorem dX8_take_27 : decode cX8_take 27 = .ok (.getfield 51, 3) := by decide +kernel
theorem dX8_take_30 : decode cX8_take 30 = .ok (.iload_n 1, 1) := by decide +kernel
theorem dX8_take_31 : decode cX8_take 31 = .ok (.iaload, 1) := by decide +kernel
theorem dX8_take_32 : decode cX8_take 32 = .ok (.iconst (-1), 1) := by decide +kernel
theorem dX8_take_33 : decode cX8_take 33 = .ok (.if_icmp .ne 9, 3) := by decide +kernel
theorem dX8_take_36 : decode cX8_take 36 = .ok (.aload_n 0, 1) := by decide +kernel
theorem dX8_take_37 : decode cX8_take 37 = .ok (.iconst 2, 1) := by decide +kernel
theorem dX8_take_38 : decode cX8_take 38 = .ok (.invokevirtual 146, 3) := by decide +kernel
theorem dX8_take_41 : decode cX8_take 41 = .ok (.ireturn, 1) := by decide +kernel
theorem dX8_take_42 : decode cX8_take 42 = .ok (.aload_n 0, 1) := by decide +kernel
theorem dX8_take_43 : decode cX8_take 43 = .ok (.getfield 54, 3) := by decide +kernel
theorem dX8_take_46 : decode cX8_take 46 = .ok (.iload_n 1, 1) := by decide +kernel
theorem dX8_take_47 : decode cX8_take 47 = .ok (.iaload, 1) := by decide +kernel
theorem dX8_take_48 : decode cX8_take 48 = .ok (.iconst 3, 1) := by decide +kernel
theorem dX8_take_49 : decode cX8_take 49 = .ok (.irem, 1) := by decide +kernel
theorem dX8_take_50 : decode cX8_take 50 = .ok (.ifCond .eq 9, 3) := by decide +kernel
theorem dX8_take_53 : decode cX8_take 53 = .ok (.aload_n 0, 1) := by decide +kernel
theorem dX8_take_54 : decode cX8_take 54 = .ok (.iconst 3, 1) := by decide +kernel
theorem dX8_take_55 : decode cX8_take 55 = .ok (.invokevirtual 146, 3) := by decide +kernel
theorem dX8_take_58 : decode cX8_take 58 = .ok (.ireturn, 1) := by decide +kernel
theorem dX8_take_59 : decode cX8_take 59 = .ok (.aload_n 0, 1) := by decide +kernel
theorem dX8_take_60 : decode cX8_take 60 = .ok (.getfield 54, 3) := by decide +kernel
theorem dX8_take_63 : decode cX8_take 63 = .ok (.iload_n 1, 1) := by decide +kernel
theorem dX8_take_64 : decode cX8_take 64 = .ok (.iaload, 1) := by decide +kernel
theorem dX8_take_65 : decode cX8_take 65 = .ok (.iconst 3, 1) := by decide +kernel
theorem dX8_take_66 : decode cX8_take 66 = .ok (.idiv, 1) := by decide +kernel
theorem dX8_take_67 : decode cX8_take 67 = .ok (.istore_n 3, 1) := by decide +kernel
theorem dX8_take_68 : decode cX8_take 68 = .ok (.bipush 12, 2) := by decide +kernel
theorem dX8_take_70 : decode cX8_take 70 = .ok (.iload_n 1, 1) := by decide +kernel
theorem dX8_take_71 : decode cX8_take 71 = .ok (.imul, 1) := by decide +kernel
theorem dX8_take_72 : decode cX8_take 72 = .ok (.istore 4, 2) := by decide +kernel
theorem dX8_take_74 : decode cX8_take 74 = .ok (.iload 4, 2) := by decide +kernel
theorem dX8_take_76 : decode cX8_take 76 = .ok (.bipush 12, 2) := by decide +kernel
theorem dX8_take_78 : decode cX8_take 78 = .ok (.iload_n 1, 1) := by decide +kernel
theorem dX8_take_79 : decode cX8_take 79 = .ok (.imul, 1) := by decide +kernel
theorem dX8_take_80 : decode cX8_take 80 = .ok (.iconst 3, 1) := by decide +kernel
theorem dX8_take_81 : decode cX8_take 81 = .ok (.iload_n 3, 1) := by decide +kernel
theorem dX8_take_82 : decode cX8_take 82 = .ok (.imul, 1) := by decide +kernel
theorem dX8_take_83 : decode cX8_take 83 = .ok (.iadd, 1) := by decide +kernel
theorem dX8_take_84 : decode cX8_take 84 = .ok (.if_icmp .ge 46, 3) := by decide +kernel
theorem dX8_take_87 : decode cX8_take 87 = .ok (.aload_n 0, 1) := by decide +kernel
theorem dX8_take_88 : decode cX8_take 88 = .ok (.getfield 57, 3) := by decide +kernel
theorem dX8_take_91 : decode cX8_take 91 = .ok (.iload 4, 2) := by decide +kernel
theorem dX8_take_93 : decode cX8_take 93 = .ok (.laload, 1) := by decide +kernel
theorem dX8_take_94 : decode cX8_take 94 = .ok (.aload_n 0, 1) := by decide +kernel
theorem dX8_take_95 : decode cX8_take 95 = .ok (.getfield 57, 3) := by decide +kernel
theorem dX8_take_98 : decode cX8_take 98 = .ok (.iload 4, 2) := by decide +kernel
theorem dX8_take_100 : decode cX8_take 100 = .ok (.iconst 1, 1) := by decide +kernel
theorem dX8_take_101 : decode cX8_take 101 = .ok (.iadd, 1) := by decide +kernel
theorem dX8_take_102 : decode cX8_take 102 = .ok (.laload, 1) := by decide +kernel
theorem dX8_take_103 : decode cX8_take 103 = .ok (.aload_n 0, 1) := by decide +kernel
theorem dX8_take_104 : decode cX8_take 104 = .ok (.getfield 57, 3) := by decide +kernel
theorem dX8_take_107 : decode cX8_take 107 = .ok (.iload 4, 2) := by decide +kernel
theorem dX8_take_109 : decode cX8_take 109 = .ok (.iconst 2, 1) := by decide +kernel
theorem dX8_take_110 : decode cX8_take 110 = .ok (.iadd, 1) := by decide +kernel
theorem dX8_take_111 : decode cX8_take 111 = .ok (.laload, 1) := by decide +kernel
theorem dX8_take_112 : decode cX8_take 112 = .ok (.invokestatic 400, 3) := by decide +kernel
theorem dX8_take_115 : decode cX8_take 115 = .ok (.ifCond .ne 9, 3) := by decide +kernel
theorem dX8_take_118 : decode cX8_take 118 = .ok (.aload_n 0, 1) := by decide +kernel
theorem dX8_take_119 : decode cX8_take 119 = .ok (.iconst 4, 1) := by decide +kernel
theorem dX8_take_120 : decode cX8_take 120 = .ok (.invokevirtual 146, 3) := by decide +kernel
theorem dX8_take_123 : decode cX8_take 123 = .ok (.ireturn, 1) := by decide +kernel
theorem dX8_take_124 : decode cX8_take 124 = .ok (.iinc 4 3, 3) := by decide +kernel
theorem dX8_take_127 : decode cX8_take 127 = .ok (.goto (-53), 3) := by decide +kernel
theorem dX8_take_130 : decode cX8_take 130 = .ok (.iconst 0, 1) := by decide +kernel
theorem dX8_take_131 : decode cX8_take 131 = .ok (.istore 4, 2) := by decide +kernel
theorem dX8_take_133 : decode cX8_take 133 = .ok (.iload 4, 2) := by decide +kernel
theorem dX8_take_135 : decode cX8_take 135 = .ok (.iload_n 3, 1) := by decide +kernel
theorem dX8_take_136 : decode cX8_take 136 = .ok (.if_icmp .ge 65, 3) := by decide +kernel
theorem dX8_take_139 : decode cX8_take 139 = .ok (.aload_n 0, 1) := by decide +kernel
theorem dX8_take_140 : decode cX8_take 140 = .ok (.iload_n 2, 1) := by decide +kernel
theorem dX8_take_141 : decode cX8_take 141 = .ok (.iload 4, 2) := by decide +kernel
theorem dX8_take_143 : decode cX8_take 143 = .ok (.aload_n 0, 1) := by decide +kernel
theorem dX8_take_144 : decode cX8_take 144 = .ok (.getfield 57, 3) := by decide +kernel
theorem dX8_take_147 : decode cX8_take 147 = .ok (.bipush 12, 2) := by decide +kernel
theorem dX8_take_149 : decode cX8_take 149 = .ok (.iload_n 1, 1) := by decide +kernel
theorem dX8_take_150 : decode cX8_take 150 = .ok (.imul, 1) := by decide +kernel
theorem dX8_take_151 : decode cX8_take 151 = .ok (.iconst 3, 1) := by decide +kernel
theorem dX8_take_152 : decode cX8_take 152 = .ok (.iload 4, 2) := by decide +kernel
theorem dX8_take_154 : decode cX8_take 154 = .ok (.imul, 1) := by decide +kernel
theorem dX8_take_155 : decode cX8_take 155 = .ok (.iadd, 1) := by decide +kernel
theorem dX8_take_156 : decode cX8_take 156 = .ok (.laload, 1) := by decide +kernel
theorem dX8_take_157 : decode cX8_take 157 = .ok (.l2i, 1) := by decide +kernel
theorem dX8_take_158 : decode cX8_take 158 = .ok (.aload_n 0, 1) := by decide +kernel
theorem dX8_take_159 : decode cX8_take 159 = .ok (.getfield 57, 3) := by decide +kernel
theorem dX8_take_162 : decode cX8_take 162 = .ok (.bipush 12, 2) := by decide +kernel
theorem dX8_take_164 : decode cX8_take 164 = .ok (.iload_n 1, 1) := by decide +kernel
theorem dX8_take_165 : decode cX8_take 165 = .ok (.imul, 1) := by decide +kernel
theorem dX8_take_166 : decode cX8_take 166 = .ok (.iconst 3, 1) := by decide +kernel
theorem dX8_take_167 : decode cX8_take 167 = .ok (.iload 4, 2) := by decide +kernel
theorem dX8_take_169 : decode cX8_take 169 = .ok (.imul, 1) := by decide +kernel
theorem dX8_take_170 : decode cX8_take 170 = .ok (.iadd, 1) := by decide +kernel
theorem dX8_take_171 : decode cX8_take 171 = .ok (.iconst 1, 1) := by decide +kernel
theorem dX8_take_172 : decode cX8_take 172 = .ok (.iadd, 1) := by decide +kernel
theorem dX8_take_173 : decode cX8_take 173 = .ok (.laload, 1) := by decide +kernel
theorem dX8_take_174 : decode cX8_take 174 = .ok (.l2i, 1) := by decide +kernel
theorem dX8_take_175 : decode cX8_take 175 = .ok (.aload_n 0, 1) := by decide +kernel
theorem dX8_take_176 : decode cX8_take 176 = .ok (.getfield 57, 3) := by decide +kernel
theorem dX8_take_179 : decode cX8_take 179 = .ok (.bipush 12, 2) := by decide +kernel
theorem dX8_take_181 : decode cX8_take 181 = .ok (.iload_n 1, 1) := by decide +kernel
theorem dX8_take_182 : decode cX8_take 182 = .ok (.imul, 1) := by decide +kernel
theorem dX8_take_183 : decode cX8_take 183 = .ok (.iconst 3, 1) := by decide +kernel
theorem dX8_take_184 : decode cX8_take 184 = .ok (.iload 4, 2) := by decide +kernel
theorem dX8_take_186 : decode cX8_take 186 = .ok (.imul, 1) := by decide +kernel
theorem dX8_take_187 : decode cX8_take 187 = .ok (.iadd, 1) := by decide +kernel
theorem dX8_take_188 : decode cX8_take 188 = .ok (.iconst 2, 1) := by decide +kernel
theorem dX8_take_189 : decode cX8_take 189 = .ok (.iadd, 1) := by decide +kernel
theorem dX8_take_190 : decode cX8_take 190 = .ok (.laload, 1) := by decide +kernel
theorem dX8_take_191 : decode cX8_take 191 = .ok (.l2i, 1) := by decide +kernel
theorem dX8_take_192 : decode cX8_take 192 = .ok (.invokevirtual 406, 3) := by decide +kernel
theorem dX8_take_195 : decode cX8_take 195 = .ok (.iinc 4 1, 3) := by decide +kernel
theorem dX8_take_198 : decode cX8_take 198 = .ok (.goto (-65), 3) := by decide +kernel
theorem dX8_take_201 : decode cX8_take 201 = .ok (.aload_n 0, 1) := by decide +kernel
theorem dX8_take_202 : decode cX8_take 202 = .ok (.getfield 9, 3) := by decide +kernel
theorem dX8_take_205 : decode cX8_take 205 = .ok (.sipush 169, 3) := by decide +kernel
theorem dX8_take_208 : decode cX8_take 208 = .ok (.bipush 13, 2) := by decide +kernel
theorem dX8_take_210 : decode cX8_take 210 = .ok (.iload_n 2, 1) := by decide +kernel
theorem dX8_take_211 : decode cX8_take 211 = .ok (.imul, 1) := by decide +kernel
theorem dX8_take_212 : decode cX8_take 212 = .ok (.iadd, 1) := by decide +kernel
theorem dX8_take_213 : decode cX8_take 213 = .ok (.iload_n 3, 1) := by decide +kernel
theorem dX8_take_214 : decode cX8_take 214 = .ok (.iastore, 1) := by decide +kernel
theorem dX8_take_215 : decode cX8_take 215 = .ok (.iload_n 3, 1) := by decide +kernel
theorem dX8_take_216 : decode cX8_take 216 = .ok (.ireturn, 1) := by decide +kernel
theorem dX8_image_0 : decode cX8_image 0 = .ok (.aload_n 0, 1) := by decide +kernel
theorem dX8_image_1 : decode cX8_image 1 = .ok (.iload_n 1, 1) := by decide +kernel
theorem dX8_image_2 : decode cX8_image 2 = .ok (.i2l, 1) := by decide +kernel
theorem dX8_image_3 : decode cX8_image 3 = .ok (.lconst 0, 1) := by decide +kernel
theorem dX8_image_4 : decode cX8_image 4 = .ok (.ldc2_w 216, 3) := by decide +kernel
theorem dX8_image_7 : decode cX8_image 7 = .ok (.invokestatic 67, 3) := by decide +kernel
theorem dX8_image_10 : decode cX8_image 10 = .ok (.ifCond .eq 7, 3) := by decide +kernel
theorem dX8_image_13 : decode cX8_image 13 = .ok (.iconst 0, 1) := by decide +kernel
theorem dX8_image_14 : decode cX8_image 14 = .ok (.goto 4, 3) := by decide +kernel
theorem dX8_image_17 : decode cX8_image 17 = .ok (.iconst 1, 1) := by decide +kernel
theorem dX8_image_18 : decode cX8_image 18 = .ok (.putfield 64, 3) := by decide +kernel
theorem dX8_image_21 : decode cX8_image 21 = .ok (.aload_n 0, 1) := by decide +kernel
theorem dX8_image_22 : decode cX8_image 22 = .ok (.getfield 64, 3) := by decide +kernel
theorem dX8_image_25 : decode cX8_image 25 = .ok (.ifCond .le 4, 3) := by decide +kernel
theorem dX8_image_28 : decode cX8_image 28 = .ok (.return_, 1) := by decide +kernel
theorem dX8_image_29 : decode cX8_image 29 = .ok (.aload_n 0, 1) := by decide +kernel
theorem dX8_image_30 : decode cX8_image 30 = .ok (.getfield 16, 3) := by decide +kernel
theorem dX8_image_33 : decode cX8_image 33 = .ok (.iload_n 1, 1) := by decide +kernel
theorem dX8_image_34 : decode cX8_image 34 = .ok (.iconst 1, 1) := by decide +kernel
theorem dX8_image_35 : decode cX8_image 35 = .ok (.bastore, 1) := by decide +kernel
theorem dX8_image_36 : decode cX8_image 36 = .ok (.iconst 0, 1) := by decide +kernel
theorem dX8_image_37 : decode cX8_image 37 = .ok (.istore_n 2, 1) := by decide +kernel
theorem dX8_image_38 : decode cX8_image 38 = .ok (.iload_n 2, 1) := by decide +kernel
theorem dX8_image_39 : decode cX8_image 39 = .ok (.sipush 264, 3) := by decide +kernel
theorem dX8_image_42 : decode cX8_image 42 = .ok (.if_icmp .ge 27, 3) := by decide +kernel
theorem dX8_image_45 : decode cX8_image 45 = .ok (.aload_n 0, 1) := by decide +kernel
theorem dX8_image_46 : decode cX8_image 46 = .ok (.getfield 13, 3) := by decide +kernel
theorem dX8_image_49 : decode cX8_image 49 = .ok (.sipush 264, 3) := by decide +kernel
theorem dX8_image_52 : decode cX8_image 52 = .ok (.iload_n 1, 1) := by decide +kernel
theorem dX8_image_53 : decode cX8_image 53 = .ok (.imul, 1) := by decide +kernel
theorem dX8_image_54 : decode cX8_image 54 = .ok (.iload_n 2, 1) := by decide +kernel
theorem dX8_image_55 : decode cX8_image 55 = .ok (.iadd, 1) := by decide +kernel
theorem dX8_image_56 : decode cX8_image 56 = .ok (.aload_n 0, 1) := by decide +kernel
theorem dX8_image_57 : decode cX8_image 57 = .ok (.getfield 9, 3) := by decide +kernel
theorem dX8_image_60 : decode cX8_image 60 = .ok (.iload_n 2, 1) := by decide +kernel
theorem dX8_image_61 : decode cX8_image 61 = .ok (.iaload, 1) := by decide +kernel
theorem dX8_image_62 : decode cX8_image 62 = .ok (.iastore, 1) := by decide +kernel
theorem dX8_image_63 : decode cX8_image 63 = .ok (.iinc 2 1, 3) := by decide +kernel
theorem dX8_image_66 : decode cX8_image 66 = .ok (.goto (-28), 3) := by decide +kernel
theorem dX8_image_69 : decode cX8_image 69 = .ok (.return_, 1) := by decide +kernel
theorem dX8_restore_0 : decode cX8_restore 0 = .ok (.aload_n 0, 1) := by decide +kernel
theorem dX8_restore_1 : decode cX8_restore 1 = .ok (.iload_n 1, 1) := by decide +kernel
theorem dX8_restore_2 : decode cX8_restore 2 = .ok (.i2l, 1) := by decide +kernel
theorem dX8_restore_3 : decode cX8_restore 3 = .ok (.lconst 0, 1) := by decide +kernel
theorem dX8_restore_4 : decode cX8_restore 4 = .ok (.ldc2_w 216, 3) := by decide +kernel
theorem dX8_restore_7 : decode cX8_restore 7 = .ok (.invokestatic 67, 3) := by decide +kernel
theorem dX8_restore_10 : decode cX8_restore 10 = .ok (.ifCond .ne 7, 3) := by decide +kernel
theorem dX8_restore_13 : decode cX8_restore 13 = .ok (.iconst 1, 1) := by decide +kernel
theorem dX8_restore_14 : decode cX8_restore 14 = .ok (.goto 17, 3) := by decide +kernel
theorem dX8_restore_17 : decode cX8_restore 17 = .ok (.aload_n 0, 1) := by decide +kernel
theorem dX8_restore_18 : decode cX8_restore 18 = .ok (.getfield 16, 3) := by decide +kernel
theorem dX8_restore_21 : decode cX8_restore 21 = .ok (.iload_n 1, 1) := by decide +kernel
theorem dX8_restore_22 : decode cX8_restore 22 = .ok (.baload, 1) := by decide +kernel
theorem dX8_restore_23 : decode cX8_restore 23 = .ok (.ifCond .ne 7, 3) := by decide +kernel
theorem dX8_restore_26 : decode cX8_restore 26 = .ok (.iconst 2, 1) := by decide +kernel
theorem dX8_restore_27 : decode cX8_restore 27 = .ok (.goto 4, 3) := by decide +kernel
theorem dX8_restore_30 : decode cX8_restore 30 = .ok (.iconst 0, 1) := by decide +kernel
theorem dX8_restore_31 : decode cX8_restore 31 = .ok (.putfield 64, 3) := by decide +kernel
theorem dX8_restore_34 : decode cX8_restore 34 = .ok (.aload_n 0, 1) := by decide +kernel
theorem dX8_restore_35 : decode cX8_restore 35 = .ok (.getfield 64, 3) := by decide +kernel
theorem dX8_restore_38 : decode cX8_restore 38 = .ok (.ifCond .le 4, 3) := by decide +kernel
theorem dX8_restore_41 : decode cX8_restore 41 = .ok (.return_, 1) := by decide +kernel
theorem dX8_restore_42 : decode cX8_restore 42 = .ok (.iconst 0, 1) := by decide +kernel
theorem dX8_restore_43 : decode cX8_restore 43 = .ok (.istore_n 2, 1) := by decide +kernel
theorem dX8_restore_44 : decode cX8_restore 44 = .ok (.iload_n 2, 1) := by decide +kernel
theorem dX8_restore_45 : decode cX8_restore 45 = .ok (.sipush 264, 3) := by decide +kernel
theorem dX8_restore_48 : decode cX8_restore 48 = .ok (.if_icmp .ge 27, 3) := by decide +kernel
theorem dX8_restore_51 : decode cX8_restore 51 = .ok (.aload_n 0, 1) := by decide +kernel
theorem dX8_restore_52 : decode cX8_restore 52 = .ok (.getfield 9, 3) := by decide +kernel
theorem dX8_restore_55 : decode cX8_restore 55 = .ok (.iload_n 2, 1) := by decide +kernel
theorem dX8_restore_56 : decode cX8_restore 56 = .ok (.aload_n 0, 1) := by decide +kernel
theorem dX8_restore_57 : decode cX8_restore 57 = .ok (.getfield 13, 3) := by decide +kernel
theorem dX8_restore_60 : decode cX8_restore 60 = .ok (.sipush 264, 3) := by decide +kernel
theorem dX8_restore_63 : decode cX8_restore 63 = .ok (.iload_n 1, 1) := by decide +kernel
theorem dX8_restore_64 : decode cX8_restore 64 = .ok (.imul, 1) := by decide +kernel
theorem dX8_restore_65 : decode cX8_restore 65 = .ok (.iload_n 2, 1) := by decide +kernel
theorem dX8_restore_66 : decode cX8_restore 66 = .ok (.iadd, 1) := by decide +kernel
theorem dX8_restore_67 : decode cX8_restore 67 = .ok (.iaload, 1) := by decide +kernel
theorem dX8_restore_68 : decode cX8_restore 68 = .ok (.iastore, 1) := by decide +kernel
theorem dX8_restore_69 : decode cX8_restore 69 = .ok (.iinc 2 1, 3) := by decide +kernel
theorem dX8_restore_72 : decode cX8_restore 72 = .ok (.goto (-28), 3) := by decide +kernel
theorem dX8_restore_75 : decode cX8_restore 75 = .ok (.return_, 1) := by decide +kernel
theorem dX8_count__0 : decode cX8_count_ 0 = .ok (.aload_n 0, 1) := by decide +kernel
theorem dX8_count__1 : decode cX8_count_ 1 = .ok (.iconst 0, 1) := by decide +kernel
theorem dX8_count__2 : decode cX8_count_ 2 = .ok (.putfield 64, 3) := by decide +kernel
theorem dX8_count__5 : decode cX8_count_ 5 = .ok (.iload_n 1, 1) := by decide +kernel
theorem dX8_count__6 : decode cX8_count_ 6 = .ok (.tableswitch 173 0 13 #[70, 77, 84, 91, 98, 103, 111, 119, 127, 135, 143, 150, 157, 165], 70) := by decide +kernel
theorem dX8_count__76 : decode cX8_count_ 76 = .ok (.aload_n 0, 1) := by decide +kernel
theorem dX8_count__77 : decode cX8_count_ 77 = .ok (.getfield 9, 3) := by decide +kernel
theorem dX8_count__80 : decode cX8_count_ 80 = .ok (.iconst 2, 1) := by decide +kernel
theorem dX8_count__81 : decode cX8_count_ 81 = .ok (.iaload, 1) := by decide +kernel
theorem dX8_count__82 : decode cX8_count_ 82 = .ok (.ireturn, 1) := by decide +kernel
theorem dX8_count__83 : decode cX8_count_ 83 = .ok (.aload_n 0, 1) := by decide +kernel
theorem dX8_count__84 : decode cX8_count_ 84 = .ok (.getfield 9, 3) := by decide +kernel
theorem dX8_count__87 : decode cX8_count_ 87 = .ok (.iconst 3, 1) := by decide +kernel
theorem dX8_count__88 : decode cX8_count_ 88 = .ok (.iaload, 1) := by decide +kernel
theorem dX8_count__89 : decode cX8_count_ 89 = .ok (.ireturn, 1) := by decide +kernel
theorem dX8_count__90 : decode cX8_count_ 90 = .ok (.aload_n 0, 1) := by decide +kernel
theorem dX8_count__91 : decode cX8_count_ 91 = .ok (.getfield 9, 3) := by decide +kernel
theorem dX8_count__94 : decode cX8_count_ 94 = .ok (.iconst 0, 1) := by decide +kernel
theorem dX8_count__95 : decode cX8_count_ 95 = .ok (.iaload, 1) := by decide +kernel
theorem dX8_count__96 : decode cX8_count_ 96 = .ok (.ireturn, 1) := by decide +kernel
theorem dX8_count__97 : decode cX8_count_ 97 = .ok (.aload_n 0, 1) := by decide +kernel
theorem dX8_count__98 : decode cX8_count_ 98 = .ok (.getfield 9, 3) := by decide +kernel
theorem dX8_count__101 : decode cX8_count_ 101 = .ok (.iconst 1, 1) := by decide +kernel
theorem dX8_count__102 : decode cX8_count_ 102 = .ok (.iaload, 1) := by decide +kernel
theorem dX8_count__103 : decode cX8_count_ 103 = .ok (.ireturn, 1) := by decide +kernel
theorem dX8_count__104 : decode cX8_count_ 104 = .ok (.aload_n 0, 1) := by decide +kernel
theorem dX8_count__105 : decode cX8_count_ 105 = .ok (.getfield 91, 3) := by decide +kernel
theorem dX8_count__108 : decode cX8_count_ 108 = .ok (.ireturn, 1) := by decide +kernel
theorem dX8_count__109 : decode cX8_count_ 109 = .ok (.aload_n 0, 1) := by decide +kernel
theorem dX8_count__110 : decode cX8_count_ 110 = .ok (.getfield 9, 3) := by decide +kernel
theorem dX8_count__113 : decode cX8_count_ 113 = .ok (.bipush 8, 2) := by decide +kernel
theorem dX8_count__115 : decode cX8_count_ 115 = .ok (.iaload, 1) := by decide +kernel
theorem dX8_count__116 : decode cX8_count_ 116 = .ok (.ireturn, 1) := by decide +kernel
theorem dX8_count__117 : decode cX8_count_ 117 = .ok (.aload_n 0, 1) := by decide +kernel
theorem dX8_count__118 : decode cX8_count_ 118 = .ok (.getfield 9, 3) := by decide +kernel
theorem dX8_count__121 : decode cX8_count_ 121 = .ok (.bipush 9, 2) := by decide +kernel
theorem dX8_count__123 : decode cX8_count_ 123 = .ok (.iaload, 1) := by decide +kernel
theorem dX8_count__124 : decode cX8_count_ 124 = .ok (.ireturn, 1) := by decide +kernel
theorem dX8_count__125 : decode cX8_count_ 125 = .ok (.aload_n 0, 1) := by decide +kernel
theorem dX8_count__126 : decode cX8_count_ 126 = .ok (.getfield 9, 3) := by decide +kernel
theorem dX8_count__129 : decode cX8_count_ 129 = .ok (.bipush 10, 2) := by decide +kernel
theorem dX8_count__131 : decode cX8_count_ 131 = .ok (.iaload, 1) := by decide +kernel
theorem dX8_count__132 : decode cX8_count_ 132 = .ok (.ireturn, 1) := by decide +kernel
theorem dX8_count__133 : decode cX8_count_ 133 = .ok (.aload_n 0, 1) := by decide +kernel
theorem dX8_count__134 : decode cX8_count_ 134 = .ok (.getfield 9, 3) := by decide +kernel
theorem dX8_count__137 : decode cX8_count_ 137 = .ok (.bipush 11, 2) := by decide +kernel
theorem dX8_count__139 : decode cX8_count_ 139 = .ok (.iaload, 1) := by decide +kernel
theorem dX8_count__140 : decode cX8_count_ 140 = .ok (.ireturn, 1) := by decide +kernel
theorem dX8_count__141 : decode cX8_count_ 141 = .ok (.aload_n 0, 1) := by decide +kernel
theorem dX8_count__142 : decode cX8_count_ 142 = .ok (.getfield 9, 3) := by decide +kernel
theorem dX8_count__145 : decode cX8_count_ 145 = .ok (.bipush 12, 2) := by decide +kernel
theorem dX8_count__147 : decode cX8_count_ 147 = .ok (.iaload, 1) := by decide +kernel
theorem dX8_count__148 : decode cX8_count_ 148 = .ok (.ireturn, 1) := by decide +kernel
theorem dX8_count__149 : decode cX8_count_ 149 = .ok (.aload_n 0, 1) := by decide +kernel
theorem dX8_count__150 : decode cX8_count_ 150 = .ok (.getfield 9, 3) := by decide +kernel
theorem dX8_count__153 : decode cX8_count_ 153 = .ok (.iconst 4, 1) := by decide +kernel
theorem dX8_count__154 : decode cX8_count_ 154 = .ok (.iaload, 1) := by decide +kernel
theorem dX8_count__155 : decode cX8_count_ 155 = .ok (.ireturn, 1) := by decide +kernel
theorem dX8_count__156 : decode cX8_count_ 156 = .ok (.aload_n 0, 1) := by decide +kernel
theorem dX8_count__157 : decode cX8_count_ 157 = .ok (.getfield 9, 3) := by decide +kernel
theorem dX8_count__160 : decode cX8_count_ 160 = .ok (.iconst 5, 1) := by decide +kernel
theorem dX8_count__161 : decode cX8_count_ 161 = .ok (.iaload, 1) := by decide +kernel
theorem dX8_count__162 : decode cX8_count_ 162 = .ok (.ireturn, 1) := by decide +kernel
theorem dX8_count__163 : decode cX8_count_ 163 = .ok (.aload_n 0, 1) := by decide +kernel
theorem dX8_count__164 : decode cX8_count_ 164 = .ok (.getfield 9, 3) := by decide +kernel
theorem dX8_count__167 : decode cX8_count_ 167 = .ok (.bipush 6, 2) := by decide +kernel
theorem dX8_count__169 : decode cX8_count_ 169 = .ok (.iaload, 1) := by decide +kernel
theorem dX8_count__170 : decode cX8_count_ 170 = .ok (.ireturn, 1) := by decide +kernel
theorem dX8_count__171 : decode cX8_count_ 171 = .ok (.aload_n 0, 1) := by decide +kernel
theorem dX8_count__172 : decode cX8_count_ 172 = .ok (.getfield 9, 3) := by decide +kernel
theorem dX8_count__175 : decode cX8_count_ 175 = .ok (.bipush 7, 2) := by decide +kernel
theorem dX8_count__177 : decode cX8_count_ 177 = .ok (.iaload, 1) := by decide +kernel
theorem dX8_count__178 : decode cX8_count_ 178 = .ok (.ireturn, 1) := by decide +kernel
theorem dX8_count__179 : decode cX8_count_ 179 = .ok (.iconst (-1), 1) := by decide +kernel
theorem dX8_count__180 : decode cX8_count_ 180 = .ok (.ireturn, 1) := by decide +kernel
