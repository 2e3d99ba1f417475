theorem dX8_init_28 : decode cX8_init 28 = .ok (.aload_n 0, 1) := by decide +kernel
theorem dX8_init_29 : decode cX8_init 29 = .ok (.sipush 9600, 3) := by decide +kernel
theorem dX8_init_32 : decode cX8_init 32 = .ok (.newarray .long, 2) := by decide +kernel
theorem dX8_init_34 : decode cX8_init 34 = .ok (.putfield 56, 3) := by decide +kernel
theorem dX8_init_37 : decode cX8_init 37 = .ok (.aload_n 0, 1) := by decide +kernel
theorem dX8_init_38 : decode cX8_init 38 = .ok (.sipush 300, 3) := by decide +kernel
theorem dX8_init_41 : decode cX8_init 41 = .ok (.newarray .long, 2) := by decide +kernel
theorem dX8_init_43 : decode cX8_init 43 = .ok (.putfield 38, 3) := by decide +kernel
theorem dX8_init_46 : decode cX8_init 46 = .ok (.aload_n 0, 1) := by decide +kernel
theorem dX8_init_47 : decode cX8_init 47 = .ok (.sipush 300, 3) := by decide +kernel
theorem dX8_init_50 : decode cX8_init 50 = .ok (.newarray .int, 2) := by decide +kernel
theorem dX8_init_52 : decode cX8_init 52 = .ok (.putfield 42, 3) := by decide +kernel
theorem dX8_init_55 : decode cX8_init 55 = .ok (.aload_n 0, 1) := by decide +kernel
theorem dX8_init_56 : decode cX8_init 56 = .ok (.sipush 300, 3) := by decide +kernel
theorem dX8_init_59 : decode cX8_init 59 = .ok (.newarray .int, 2) := by decide +kernel
theorem dX8_init_61 : decode cX8_init 61 = .ok (.putfield 35, 3) := by decide +kernel
theorem dX8_init_64 : decode cX8_init 64 = .ok (.aload_n 0, 1) := by decide +kernel
theorem dX8_init_65 : decode cX8_init 65 = .ok (.sipush 200, 3) := by decide +kernel
theorem dX8_init_68 : decode cX8_init 68 = .ok (.newarray .int, 2) := by decide +kernel
theorem dX8_init_70 : decode cX8_init 70 = .ok (.putfield 101, 3) := by decide +kernel
theorem dX8_init_73 : decode cX8_init 73 = .ok (.aload_n 0, 1) := by decide +kernel
theorem dX8_init_74 : decode cX8_init 74 = .ok (.sipush 200, 3) := by decide +kernel
theorem dX8_init_77 : decode cX8_init 77 = .ok (.newarray .int, 2) := by decide +kernel
theorem dX8_init_79 : decode cX8_init 79 = .ok (.putfield 98, 3) := by decide +kernel
theorem dX8_init_82 : decode cX8_init 82 = .ok (.aload_n 0, 1) := by decide +kernel
theorem dX8_init_83 : decode cX8_init 83 = .ok (.sipush 200, 3) := by decide +kernel
theorem dX8_init_86 : decode cX8_init 86 = .ok (.newarray .int, 2) := by decide +kernel
theorem dX8_init_88 : decode cX8_init 88 = .ok (.putfield 104, 3) := by decide +kernel
theorem dX8_init_91 : decode cX8_init 91 = .ok (.aload_n 0, 1) := by decide +kernel
theorem dX8_init_92 : decode cX8_init 92 = .ok (.sipush 200, 3) := by decide +kernel
theorem dX8_init_95 : decode cX8_init 95 = .ok (.newarray .int, 2) := by decide +kernel
theorem dX8_init_97 : decode cX8_init 97 = .ok (.putfield 88, 3) := by decide +kernel
theorem dX8_init_100 : decode cX8_init 100 = .ok (.aload_n 0, 1) := by decide +kernel
theorem dX8_init_101 : decode cX8_init 101 = .ok (.sipush 200, 3) := by decide +kernel
theorem dX8_init_104 : decode cX8_init 104 = .ok (.newarray .boolean, 2) := by decide +kernel
theorem dX8_init_106 : decode cX8_init 106 = .ok (.putfield 84, 3) := by decide +kernel
theorem dX8_init_109 : decode cX8_init 109 = .ok (.aload_n 0, 1) := by decide +kernel
theorem dX8_init_110 : decode cX8_init 110 = .ok (.sipush 4752, 3) := by decide +kernel
theorem dX8_init_113 : decode cX8_init 113 = .ok (.newarray .long, 2) := by decide +kernel
theorem dX8_init_115 : decode cX8_init 115 = .ok (.putfield 131, 3) := by decide +kernel
theorem dX8_init_118 : decode cX8_init 118 = .ok (.aload_n 0, 1) := by decide +kernel
theorem dX8_init_119 : decode cX8_init 119 = .ok (.bipush 6, 2) := by decide +kernel
theorem dX8_init_121 : decode cX8_init 121 = .ok (.newarray .int, 2) := by decide +kernel
theorem dX8_init_123 : decode cX8_init 123 = .ok (.putfield 134, 3) := by decide +kernel
theorem dX8_init_126 : decode cX8_init 126 = .ok (.aload_n 0, 1) := by decide +kernel
theorem dX8_init_127 : decode cX8_init 127 = .ok (.bipush 6, 2) := by decide +kernel
theorem dX8_init_129 : decode cX8_init 129 = .ok (.newarray .long, 2) := by decide +kernel
theorem dX8_init_131 : decode cX8_init 131 = .ok (.putfield 137, 3) := by decide +kernel
theorem dX8_init_134 : decode cX8_init 134 = .ok (.aload_n 0, 1) := by decide +kernel
theorem dX8_init_135 : decode cX8_init 135 = .ok (.bipush 6, 2) := by decide +kernel
theorem dX8_init_137 : decode cX8_init 137 = .ok (.newarray .int, 2) := by decide +kernel
theorem dX8_init_139 : decode cX8_init 139 = .ok (.putfield 140, 3) := by decide +kernel
theorem dX8_init_142 : decode cX8_init 142 = .ok (.aload_n 0, 1) := by decide +kernel
theorem dX8_init_143 : decode cX8_init 143 = .ok (.bipush 6, 2) := by decide +kernel
theorem dX8_init_145 : decode cX8_init 145 = .ok (.newarray .int, 2) := by decide +kernel
theorem dX8_init_147 : decode cX8_init 147 = .ok (.putfield 143, 3) := by decide +kernel
theorem dX8_init_150 : decode cX8_init 150 = .ok (.aload_n 0, 1) := by decide +kernel
theorem dX8_init_151 : decode cX8_init 151 = .ok (.sipush 240, 3) := by decide +kernel
theorem dX8_init_154 : decode cX8_init 154 = .ok (.newarray .long, 2) := by decide +kernel
theorem dX8_init_156 : decode cX8_init 156 = .ok (.putfield 146, 3) := by decide +kernel
theorem dX8_init_159 : decode cX8_init 159 = .ok (.aload_n 0, 1) := by decide +kernel
theorem dX8_init_160 : decode cX8_init 160 = .ok (.sipush 240, 3) := by decide +kernel
theorem dX8_init_163 : decode cX8_init 163 = .ok (.newarray .int, 2) := by decide +kernel
theorem dX8_init_165 : decode cX8_init 165 = .ok (.putfield 149, 3) := by decide +kernel
theorem dX8_init_168 : decode cX8_init 168 = .ok (.aload_n 0, 1) := by decide +kernel
theorem dX8_init_169 : decode cX8_init 169 = .ok (.bipush 6, 2) := by decide +kernel
theorem dX8_init_171 : decode cX8_init 171 = .ok (.newarray .int, 2) := by decide +kernel
theorem dX8_init_173 : decode cX8_init 173 = .ok (.putfield 49, 3) := by decide +kernel
theorem dX8_init_176 : decode cX8_init 176 = .ok (.aload_n 0, 1) := by decide +kernel
theorem dX8_init_177 : decode cX8_init 177 = .ok (.bipush 24, 2) := by decide +kernel
theorem dX8_init_179 : decode cX8_init 179 = .ok (.newarray .long, 2) := by decide +kernel
theorem dX8_init_181 : decode cX8_init 181 = .ok (.putfield 152, 3) := by decide +kernel
theorem dX8_init_184 : decode cX8_init 184 = .ok (.aload_n 0, 1) := by decide +kernel
theorem dX8_init_185 : decode cX8_init 185 = .ok (.bipush 24, 2) := by decide +kernel
theorem dX8_init_187 : decode cX8_init 187 = .ok (.newarray .long, 2) := by decide +kernel
theorem dX8_init_189 : decode cX8_init 189 = .ok (.putfield 155, 3) := by decide +kernel
theorem dX8_init_192 : decode cX8_init 192 = .ok (.aload_n 0, 1) := by decide +kernel
theorem dX8_init_193 : decode cX8_init 193 = .ok (.bipush 24, 2) := by decide +kernel
theorem dX8_init_195 : decode cX8_init 195 = .ok (.newarray .boolean, 2) := by decide +kernel
theorem dX8_init_197 : decode cX8_init 197 = .ok (.putfield 158, 3) := by decide +kernel
theorem dX8_init_200 : decode cX8_init 200 = .ok (.aload_n 0, 1) := by decide +kernel
theorem dX8_init_201 : decode cX8_init 201 = .ok (.bipush 60, 2) := by decide +kernel
theorem dX8_init_203 : decode cX8_init 203 = .ok (.newarray .int, 2) := by decide +kernel
theorem dX8_init_205 : decode cX8_init 205 = .ok (.putfield 161, 3) := by decide +kernel
theorem dX8_init_208 : decode cX8_init 208 = .ok (.aload_n 0, 1) := by decide +kernel
theorem dX8_init_209 : decode cX8_init 209 = .ok (.bipush 60, 2) := by decide +kernel
theorem dX8_init_211 : decode cX8_init 211 = .ok (.newarray .int, 2) := by decide +kernel
theorem dX8_init_213 : decode cX8_init 213 = .ok (.putfield 164, 3) := by decide +kernel
theorem dX8_init_216 : decode cX8_init 216 = .ok (.aload_n 0, 1) := by decide +kernel
theorem dX8_init_217 : decode cX8_init 217 = .ok (.bipush 60, 2) := by decide +kernel
theorem dX8_init_219 : decode cX8_init 219 = .ok (.newarray .int, 2) := by decide +kernel
theorem dX8_init_221 : decode cX8_init 221 = .ok (.putfield 167, 3) := by decide +kernel
theorem dX8_init_224 : decode cX8_init 224 = .ok (.aload_n 0, 1) := by decide +kernel
theorem dX8_init_225 : decode cX8_init 225 = .ok (.sipush 14400, 3) := by decide +kernel
theorem dX8_init_228 : decode cX8_init 228 = .ok (.newarray .long, 2) := by decide +kernel
theorem dX8_init_230 : decode cX8_init 230 = .ok (.putfield 170, 3) := by decide +kernel
theorem dX8_init_233 : decode cX8_init 233 = .ok (.iconst 0, 1) := by decide +kernel
theorem dX8_init_234 : decode cX8_init 234 = .ok (.istore_n 1, 1) := by decide +kernel
theorem dX8_init_235 : decode cX8_init 235 = .ok (.iload_n 1, 1) := by decide +kernel
theorem dX8_init_236 : decode cX8_init 236 = .ok (.bipush 24, 2) := by decide +kernel
theorem dX8_init_238 : decode cX8_init 238 = .ok (.if_icmp .ge 45, 3) := by decide +kernel
theorem dX8_init_241 : decode cX8_init 241 = .ok (.aload_n 0, 1) := by decide +kernel
theorem dX8_init_242 : decode cX8_init 242 = .ok (.getfield 131, 3) := by decide +kernel
theorem dX8_init_245 : decode cX8_init 245 = .ok (.bipush 18, 2) := by decide +kernel
theorem dX8_init_247 : decode cX8_init 247 = .ok (.iload_n 1, 1) := by decide +kernel
theorem dX8_init_248 : decode cX8_init 248 = .ok (.imul, 1) := by decide +kernel
theorem dX8_init_249 : decode cX8_init 249 = .ok (.iconst 1, 1) := by decide +kernel
theorem dX8_init_250 : decode cX8_init 250 = .ok (.iadd, 1) := by decide +kernel
theorem dX8_init_251 : decode cX8_init 251 = .ok (.lconst 1, 1) := by decide +kernel
theorem dX8_init_252 : decode cX8_init 252 = .ok (.lastore, 1) := by decide +kernel
theorem dX8_init_253 : decode cX8_init 253 = .ok (.aload_n 0, 1) := by decide +kernel
theorem dX8_init_254 : decode cX8_init 254 = .ok (.getfield 131, 3) := by decide +kernel
theorem dX8_init_257 : decode cX8_init 257 = .ok (.bipush 18, 2) := by decide +kernel
theorem dX8_init_259 : decode cX8_init 259 = .ok (.iload_n 1, 1) := by decide +kernel
theorem dX8_init_260 : decode cX8_init 260 = .ok (.imul, 1) := by decide +kernel
theorem dX8_init_261 : decode cX8_init 261 = .ok (.iconst 2, 1) := by decide +kernel
theorem dX8_init_262 : decode cX8_init 262 = .ok (.iadd, 1) := by decide +kernel
theorem dX8_init_263 : decode cX8_init 263 = .ok (.lconst 1, 1) := by decide +kernel
theorem dX8_init_264 : decode cX8_init 264 = .ok (.lastore, 1) := by decide +kernel
theorem dX8_init_265 : decode cX8_init 265 = .ok (.aload_n 0, 1) := by decide +kernel
theorem dX8_init_266 : decode cX8_init 266 = .ok (.getfield 131, 3) := by decide +kernel
theorem dX8_init_269 : decode cX8_init 269 = .ok (.bipush 18, 2) := by decide +kernel
theorem dX8_init_271 : decode cX8_init 271 = .ok (.iload_n 1, 1) := by decide +kernel
theorem dX8_init_272 : decode cX8_init 272 = .ok (.imul, 1) := by decide +kernel
theorem dX8_init_273 : decode cX8_init 273 = .ok (.iconst 3, 1) := by decide +kernel
theorem dX8_init_274 : decode cX8_init 274 = .ok (.iadd, 1) := by decide +kernel
theorem dX8_init_275 : decode cX8_init 275 = .ok (.lconst 1, 1) := by decide +kernel
theorem dX8_init_276 : decode cX8_init 276 = .ok (.lastore, 1) := by decide +kernel
theorem dX8_init_277 : decode cX8_init 277 = .ok (.iinc 1 1, 3) := by decide +kernel
theorem dX8_init_280 : decode cX8_init 280 = .ok (.goto (-45), 3) := by decide +kernel
theorem dX8_init_283 : decode cX8_init 283 = .ok (.return_, 1) := by decide +kernel
theorem dX8_row_0 : decode cX8_row 0 = .ok (.bipush 18, 2) := by decide +kernel
theorem dX8_row_2 : decode cX8_row 2 = .ok (.iconst 4, 1) := by decide +kernel
theorem dX8_row_3 : decode cX8_row 3 = .ok (.iload_n 0, 1) := by decide +kernel
theorem dX8_row_4 : decode cX8_row 4 = .ok (.imul, 1) := by decide +kernel
theorem dX8_row_5 : decode cX8_row 5 = .ok (.iload_n 1, 1) := by decide +kernel
theorem dX8_row_6 : decode cX8_row 6 = .ok (.iadd, 1) := by decide +kernel
theorem dX8_row_7 : decode cX8_row 7 = .ok (.imul, 1) := by decide +kernel
theorem dX8_row_8 : decode cX8_row 8 = .ok (.ireturn, 1) := by decide +kernel
theorem dX8_mode_0 : decode cX8_mode 0 = .ok (.iload_n 1, 1) := by decide +kernel
theorem dX8_mode_1 : decode cX8_mode 1 = .ok (.invokestatic 7, 3) := by decide +kernel
theorem dX8_mode_4 : decode cX8_mode 4 = .ok (.ifCond .eq 32, 3) := by decide +kernel
theorem dX8_mode_7 : decode cX8_mode 7 = .ok (.iload_n 2, 1) := by decide +kernel
theorem dX8_mode_8 : decode cX8_mode 8 = .ok (.invokestatic 28, 3) := by decide +kernel
theorem dX8_mode_11 : decode cX8_mode 11 = .ok (.ifCond .eq 25, 3) := by decide +kernel
theorem dX8_mode_14 : decode cX8_mode 14 = .ok (.iload_n 3, 1) := by decide +kernel
theorem dX8_mode_15 : decode cX8_mode 15 = .ok (.ifCond .lt 21, 3) := by decide +kernel
theorem dX8_mode_18 : decode cX8_mode 18 = .ok (.iload_n 3, 1) := by decide +kernel
theorem dX8_mode_19 : decode cX8_mode 19 = .ok (.iconst 2, 1) := by decide +kernel
theorem dX8_mode_20 : decode cX8_mode 20 = .ok (.if_icmp .gt 16, 3) := by decide +kernel
theorem dX8_mode_23 : decode cX8_mode 23 = .ok (.iload 4, 2) := by decide +kernel
theorem dX8_mode_25 : decode cX8_mode 25 = .ok (.iconst 1, 1) := by decide +kernel
theorem dX8_mode_26 : decode cX8_mode 26 = .ok (.if_icmp .lt 10, 3) := by decide +kernel
theorem dX8_mode_29 : decode cX8_mode 29 = .ok (.iload 4, 2) := by decide +kernel
theorem dX8_mode_31 : decode cX8_mode 31 = .ok (.ldc 173, 2) := by decide +kernel
theorem dX8_mode_33 : decode cX8_mode 33 = .ok (.if_icmp .le 6, 3) := by decide +kernel
theorem dX8_mode_36 : decode cX8_mode 36 = .ok (.bipush (-2), 2) := by decide +kernel
theorem dX8_mode_38 : decode cX8_mode 38 = .ok (.ireturn, 1) := by decide +kernel
theorem dX8_mode_39 : decode cX8_mode 39 = .ok (.aload_n 0, 1) := by decide +kernel
theorem dX8_mode_40 : decode cX8_mode 40 = .ok (.getfield 131, 3) := by decide +kernel
theorem dX8_mode_43 : decode cX8_mode 43 = .ok (.iload_n 1, 1) := by decide +kernel
theorem dX8_mode_44 : decode cX8_mode 44 = .ok (.iload_n 2, 1) := by decide +kernel
theorem dX8_mode_45 : decode cX8_mode 45 = .ok (.invokestatic 174, 3) := by decide +kernel
theorem dX8_mode_48 : decode cX8_mode 48 = .ok (.iload_n 3, 1) := by decide +kernel
theorem dX8_mode_49 : decode cX8_mode 49 = .ok (.i2l, 1) := by decide +kernel
theorem dX8_mode_50 : decode cX8_mode 50 = .ok (.lastore, 1) := by decide +kernel
theorem dX8_mode_51 : decode cX8_mode 51 = .ok (.aload_n 0, 1) := by decide +kernel
theorem dX8_mode_52 : decode cX8_mode 52 = .ok (.getfield 131, 3) := by decide +kernel
theorem dX8_mode_55 : decode cX8_mode 55 = .ok (.iload_n 1, 1) := by decide +kernel
theorem dX8_mode_56 : decode cX8_mode 56 = .ok (.iload_n 2, 1) := by decide +kernel
theorem dX8_mode_57 : decode cX8_mode 57 = .ok (.invokestatic 174, 3) := by decide +kernel
theorem dX8_mode_60 : decode cX8_mode 60 = .ok (.iconst 1, 1) := by decide +kernel
theorem dX8_mode_61 : decode cX8_mode 61 = .ok (.iadd, 1) := by decide +kernel
theorem dX8_mode_62 : decode cX8_mode 62 = .ok (.iload 4, 2) := by decide +kernel
theorem dX8_mode_64 : decode cX8_mode 64 = .ok (.i2l, 1) := by decide +kernel
theorem dX8_mode_65 : decode cX8_mode 65 = .ok (.lastore, 1) := by decide +kernel
theorem dX8_mode_66 : decode cX8_mode 66 = .ok (.iconst 0, 1) := by decide +kernel
theorem dX8_mode_67 : decode cX8_mode 67 = .ok (.ireturn, 1) := by decide +kernel
theorem dX8_tier_0 : decode cX8_tier 0 = .ok (.iload_n 1, 1) := by decide +kernel
theorem dX8_tier_1 : decode cX8_tier 1 = .ok (.invokestatic 7, 3) := by decide +kernel
theorem dX8_tier_4 : decode cX8_tier 4 = .ok (.ifCond .eq 54, 3) := by decide +kernel
theorem dX8_tier_7 : decode cX8_tier 7 = .ok (.iload_n 2, 1) := by decide +kernel
theorem dX8_tier_8 : decode cX8_tier 8 = .ok (.invokestatic 28, 3) := by decide +kernel
theorem dX8_tier_11 : decode cX8_tier 11 = .ok (.ifCond .eq 47, 3) := by decide +kernel
theorem dX8_tier_14 : decode cX8_tier 14 = .ok (.lload 4, 2) := by decide +kernel
theorem dX8_tier_16 : decode cX8_tier 16 = .ok (.lconst 1, 1) := by decide +kernel
theorem dX8_tier_17 : decode cX8_tier 17 = .ok (.lcmp, 1) := by decide +kernel
theorem dX8_tier_18 : decode cX8_tier 18 = .ok (.ifCond .lt 40, 3) := by decide +kernel
theorem dX8_tier_21 : decode cX8_tier 21 = .ok (.lload 4, 2) := by decide +kernel
theorem dX8_tier_23 : decode cX8_tier 23 = .ok (.ldc2_w 177, 3) := by decide +kernel
theorem dX8_tier_26 : decode cX8_tier 26 = .ok (.lcmp, 1) := by decide +kernel
theorem dX8_tier_27 : decode cX8_tier 27 = .ok (.ifCond .gt 31, 3) := by decide +kernel
theorem dX8_tier_30 : decode cX8_tier 30 = .ok (.iload 6, 2) := by decide +kernel
theorem dX8_tier_32 : decode cX8_tier 32 = .ok (.ifCond .lt 26, 3) := by decide +kernel
theorem dX8_tier_35 : decode cX8_tier 35 = .ok (.iload 6, 2) := by decide +kernel
theorem dX8_tier_37 : decode cX8_tier 37 = .ok (.ldc 63, 2) := by decide +kernel
theorem dX8_tier_39 : decode cX8_tier 39 = .ok (.if_icmp .gt 19, 3) := by decide +kernel
theorem dX8_tier_42 : decode cX8_tier 42 = .ok (.iload 7, 2) := by decide +kernel
theorem dX8_tier_44 : decode cX8_tier 44 = .ok (.ifCond .lt 14, 3) := by decide +kernel
theorem dX8_tier_47 : decode cX8_tier 47 = .ok (.iload 7, 2) := by decide +kernel
theorem dX8_tier_49 : decode cX8_tier 49 = .ok (.ldc 31, 2) := by decide +kernel
theorem dX8_tier_51 : decode cX8_tier 51 = .ok (.if_icmp .gt 7, 3) := by decide +kernel
theorem dX8_tier_54 : decode cX8_tier 54 = .ok (.iconst 1, 1) := by decide +kernel
theorem dX8_tier_55 : decode cX8_tier 55 = .ok (.goto 4, 3) := by decide +kernel
theorem dX8_tier_58 : decode cX8_tier 58 = .ok (.iconst 0, 1) := by decide +kernel
theorem dX8_tier_59 : decode cX8_tier 59 = .ok (.istore 8, 2) := by decide +kernel
theorem dX8_tier_61 : decode cX8_tier 61 = .ok (.iload 8, 2) := by decide +kernel
theorem dX8_tier_63 : decode cX8_tier 63 = .ok (.ifCond .ne 6, 3) := by decide +kernel
theorem dX8_tier_66 : decode cX8_tier 66 = .ok (.bipush (-2), 2) := by decide +kernel
theorem dX8_tier_68 : decode cX8_tier 68 = .ok (.ireturn, 1) := by decide +kernel
theorem dX8_tier_69 : decode cX8_tier 69 = .ok (.iload_n 1, 1) := by decide +kernel
theorem dX8_tier_70 : decode cX8_tier 70 = .ok (.iload_n 2, 1) := by decide +kernel
theorem dX8_tier_71 : decode cX8_tier 71 = .ok (.invokestatic 174, 3) := by decide +kernel
theorem dX8_tier_74 : decode cX8_tier 74 = .ok (.istore 9, 2) := by decide +kernel
theorem dX8_tier_76 : decode cX8_tier 76 = .ok (.aload_n 0, 1) := by decide +kernel
theorem dX8_tier_77 : decode cX8_tier 77 = .ok (.getfield 131, 3) := by decide +kernel
theorem dX8_tier_80 : decode cX8_tier 80 = .ok (.iload 9, 2) := by decide +kernel
theorem dX8_tier_82 : decode cX8_tier 82 = .ok (.iconst 2, 1) := by decide +kernel
theorem dX8_tier_83 : decode cX8_tier 83 = .ok (.iadd, 1) := by decide +kernel
theorem dX8_tier_84 : decode cX8_tier 84 = .ok (.laload, 1) := by decide +kernel
theorem dX8_tier_85 : decode cX8_tier 85 = .ok (.l2i, 1) := by decide +kernel
theorem dX8_tier_86 : decode cX8_tier 86 = .ok (.istore 10, 2) := by decide +kernel
theorem dX8_tier_88 : decode cX8_tier 88 = .ok (.iload_n 3, 1) := by decide +kernel
theorem dX8_tier_89 : decode cX8_tier 89 = .ok (.ifCond .lt 14, 3) := by decide +kernel
theorem dX8_tier_92 : decode cX8_tier 92 = .ok (.iload_n 3, 1) := by decide +kernel
theorem dX8_tier_93 : decode cX8_tier 93 = .ok (.iload 10, 2) := by decide +kernel
theorem dX8_tier_95 : decode cX8_tier 95 = .ok (.if_icmp .gt 8, 3) := by decide +kernel
theorem dX8_tier_98 : decode cX8_tier 98 = .ok (.iload_n 3, 1) := by decide +kernel
theorem dX8_tier_99 : decode cX8_tier 99 = .ok (.iconst 4, 1) := by decide +kernel
theorem dX8_tier_100 : decode cX8_tier 100 = .ok (.if_icmp .le 6, 3) := by decide +kernel
theorem dX8_tier_103 : decode cX8_tier 103 = .ok (.bipush (-2), 2) := by decide +kernel
theorem dX8_tier_105 : decode cX8_tier 105 = .ok (.ireturn, 1) := by decide +kernel
theorem dX8_tier_106 : decode cX8_tier 106 = .ok (.iload_n 3, 1) := by decide +kernel
theorem dX8_tier_107 : decode cX8_tier 107 = .ok (.iload 10, 2) := by decide +kernel
theorem dX8_tier_109 : decode cX8_tier 109 = .ok (.if_icmp .ne 10, 3) := by decide +kernel
theorem dX8_tier_112 : decode cX8_tier 112 = .ok (.iload 10, 2) := by decide +kernel
theorem dX8_tier_114 : decode cX8_tier 114 = .ok (.iconst 1, 1) := by decide +kernel
theorem dX8_tier_115 : decode cX8_tier 115 = .ok (.iadd, 1) := by decide +kernel
theorem dX8_tier_116 : decode cX8_tier 116 = .ok (.goto 5, 3) := by decide +kernel
theorem dX8_tier_119 : decode cX8_tier 119 = .ok (.iload 10, 2) := by decide +kernel
theorem dX8_tier_121 : decode cX8_tier 121 = .ok (.istore 11, 2) := by decide +kernel
theorem dX8_tier_123 : decode cX8_tier 123 = .ok (.iconst 1, 1) := by decide +kernel
theorem dX8_tier_124 : decode cX8_tier 124 = .ok (.istore 12, 2) := by decide +kernel
theorem dX8_tier_126 : decode cX8_tier 126 = .ok (.iload 12, 2) := by decide +kernel
theorem dX8_tier_128 : decode cX8_tier 128 = .ok (.iload 11, 2) := by decide +kernel
theorem dX8_tier_130 : decode cX8_tier 130 = .ok (.iconst 1, 1) := by decide +kernel
theorem dX8_tier_131 : decode cX8_tier 131 = .ok (.isub, 1) := by decide +kernel
theorem dX8_tier_132 : decode cX8_tier 132 = .ok (.if_icmp .ge 74, 3) := by decide +kernel
theorem dX8_tier_135 : decode cX8_tier 135 = .ok (.iload 12, 2) := by decide +kernel
theorem dX8_tier_137 : decode cX8_tier 137 = .ok (.iconst 1, 1) := by decide +kernel
theorem dX8_tier_138 : decode cX8_tier 138 = .ok (.isub, 1) := by decide +kernel
theorem dX8_tier_139 : decode cX8_tier 139 = .ok (.iload_n 3, 1) := by decide +kernel
theorem dX8_tier_140 : decode cX8_tier 140 = .ok (.if_icmp .ne 8, 3) := by decide +kernel
theorem dX8_tier_143 : decode cX8_tier 143 = .ok (.lload 4, 2) := by decide +kernel
theorem dX8_tier_145 : decode cX8_tier 145 = .ok (.goto 15, 3) := by decide +kernel
theorem dX8_tier_148 : decode cX8_tier 148 = .ok (.aload_n 0, 1) := by decide +kernel
theorem dX8_tier_149 : decode cX8_tier 149 = .ok (.getfield 131, 3) := by decide +kernel
theorem dX8_tier_152 : decode cX8_tier 152 = .ok (.iload 9, 2) := by decide +kernel
theorem dX8_tier_154 : decode cX8_tier 154 = .ok (.iconst 3, 1) := by decide +kernel
theorem dX8_tier_155 : decode cX8_tier 155 = .ok (.iload 12, 2) := by decide +kernel
theorem dX8_tier_157 : decode cX8_tier 157 = .ok (.imul, 1) := by decide +kernel
theorem dX8_tier_158 : decode cX8_tier 158 = .ok (.iadd, 1) := by decide +kernel
theorem dX8_tier_159 : decode cX8_tier 159 = .ok (.laload, 1) := by decide +kernel
theorem dX8_tier_160 : decode cX8_tier 160 = .ok (.lstore 13, 2) := by decide +kernel
theorem dX8_tier_162 : decode cX8_tier 162 = .ok (.iload 12, 2) := by decide +kernel
theorem dX8_tier_164 : decode cX8_tier 164 = .ok (.iload_n 3, 1) := by decide +kernel
theorem dX8_tier_165 : decode cX8_tier 165 = .ok (.if_icmp .ne 8, 3) := by decide +kernel
theorem dX8_tier_168 : decode cX8_tier 168 = .ok (.lload 4, 2) := by decide +kernel
theorem dX8_tier_170 : decode cX8_tier 170 = .ok (.goto 17, 3) := by decide +kernel
theorem dX8_tier_173 : decode cX8_tier 173 = .ok (.aload_n 0, 1) := by decide +kernel
theorem dX8_tier_174 : decode cX8_tier 174 = .ok (.getfield 131, 3) := by decide +kernel
theorem dX8_tier_177 : decode cX8_tier 177 = .ok (.iload 9, 2) := by decide +kernel
theorem dX8_tier_179 : decode cX8_tier 179 = .ok (.iconst 3, 1) := by decide +kernel
theorem dX8_tier_180 : decode cX8_tier 180 = .ok (.iload 12, 2) := by decide +kernel
theorem dX8_tier_182 : decode cX8_tier 182 = .ok (.imul, 1) := by decide +kernel
theorem dX8_tier_183 : decode cX8_tier 183 = .ok (.iadd, 1) := by decide +kernel
theorem dX8_tier_184 : decode cX8_tier 184 = .ok (.iconst 3, 1) := by decide +kernel
theorem dX8_tier_185 : decode cX8_tier 185 = .ok (.iadd, 1) := by decide +kernel
theorem dX8_tier_186 : decode cX8_tier 186 = .ok (.laload, 1) := by decide +kernel
theorem dX8_tier_187 : decode cX8_tier 187 = .ok (.lstore 15, 2) := by decide +kernel
theorem dX8_tier_189 : decode cX8_tier 189 = .ok (.lload 15, 2) := by decide +kernel
theorem dX8_tier_191 : decode cX8_tier 191 = .ok (.lload 13, 2) := by decide +kernel
theorem dX8_tier_193 : decode cX8_tier 193 = .ok (.lcmp, 1) := by decide +kernel
theorem dX8_tier_194 : decode cX8_tier 194 = .ok (.ifCond .gt 6, 3) := by decide +kernel
theorem dX8_tier_197 : decode cX8_tier 197 = .ok (.bipush (-2), 2) := by decide +kernel
theorem dX8_tier_199 : decode cX8_tier 199 = .ok (.ireturn, 1) := by decide +kernel
theorem dX8_tier_200 : decode cX8_tier 200 = .ok (.iinc 12 1, 3) := by decide +kernel
theorem dX8_tier_203 : decode cX8_tier 203 = .ok (.goto (-77), 3) := by decide +kernel
theorem dX8_tier_206 : decode cX8_tier 206 = .ok (.aload_n 0, 1) := by decide +kernel
theorem dX8_tier_207 : decode cX8_tier 207 = .ok (.getfield 131, 3) := by decide +kernel
theorem dX8_tier_210 : decode cX8_tier 210 = .ok (.iload 9, 2) := by decide +kernel
theorem dX8_tier_212 : decode cX8_tier 212 = .ok (.iconst 2, 1) := by decide +kernel
theorem dX8_tier_213 : decode cX8_tier 213 = .ok (.iadd, 1) := by decide +kernel
theorem dX8_tier_214 : decode cX8_tier 214 = .ok (.iload 11, 2) := by decide +kernel
theorem dX8_tier_216 : decode cX8_tier 216 = .ok (.i2l, 1) := by decide +kernel
theorem dX8_tier_217 : decode cX8_tier 217 = .ok (.lastore, 1) := by decide +kernel
theorem dX8_tier_218 : decode cX8_tier 218 = .ok (.aload_n 0, 1) := by decide +kernel
theorem dX8_tier_219 : decode cX8_tier 219 = .ok (.getfield 131, 3) := by decide +kernel
theorem dX8_tier_222 : decode cX8_tier 222 = .ok (.iload 9, 2) := by decide +kernel
theorem dX8_tier_224 : decode cX8_tier 224 = .ok (.iconst 3, 1) := by decide +kernel
theorem dX8_tier_225 : decode cX8_tier 225 = .ok (.iadd, 1) := by decide +kernel
theorem dX8_tier_226 : decode cX8_tier 226 = .ok (.iconst 3, 1) := by decide +kernel
theorem dX8_tier_227 : decode cX8_tier 227 = .ok (.iload_n 3, 1) := by decide +kernel
theorem dX8_tier_228 : decode cX8_tier 228 = .ok (.imul, 1) := by decide +kernel
theorem dX8_tier_229 : decode cX8_tier 229 = .ok (.iadd, 1) := by decide +kernel
theorem dX8_tier_230 : decode cX8_tier 230 = .ok (.lload 4, 2) := by decide +kernel
theorem dX8_tier_232 : decode cX8_tier 232 = .ok (.lastore, 1) := by decide +kernel
theorem dX8_tier_233 : decode cX8_tier 233 = .ok (.aload_n 0, 1) := by decide +kernel
theorem dX8_tier_234 : decode cX8_tier 234 = .ok (.getfield 131, 3) := by decide +kernel
theorem dX8_tier_237 : decode cX8_tier 237 = .ok (.iload 9, 2) := by decide +kernel
theorem dX8_tier_239 : decode cX8_tier 239 = .ok (.iconst 4, 1) := by decide +kernel
theorem dX8_tier_240 : decode cX8_tier 240 = .ok (.iadd, 1) := by decide +kernel
theorem dX8_tier_241 : decode cX8_tier 241 = .ok (.iconst 3, 1) := by decide +kernel
theorem dX8_tier_242 : decode cX8_tier 242 = .ok (.iload_n 3, 1) := by decide +kernel
theorem dX8_tier_243 : decode cX8_tier 243 = .ok (.imul, 1) := by decide +kernel
theorem dX8_tier_244 : decode cX8_tier 244 = .ok (.iadd, 1) := by decide +kernel
theorem dX8_tier_245 : decode cX8_tier 245 = .ok (.iload 6, 2) := by decide +kernel
theorem dX8_tier_247 : decode cX8_tier 247 = .ok (.i2l, 1) := by decide +kernel
theorem dX8_tier_248 : decode cX8_tier 248 = .ok (.lastore, 1) := by decide +kernel
theorem dX8_tier_249 : decode cX8_tier 249 = .ok (.aload_n 0, 1) := by decide +kernel
theorem dX8_tier_250 : decode cX8_tier 250 = .ok (.getfield 131, 3) := by decide +kernel
theorem dX8_tier_253 : decode cX8_tier 253 = .ok (.iload 9, 2) := by decide +kernel
theorem dX8_tier_255 : decode cX8_tier 255 = .ok (.iconst 5, 1) := by decide +kernel
theorem dX8_tier_256 : decode cX8_tier 256 = .ok (.iadd, 1) := by decide +kernel
theorem dX8_tier_257 : decode cX8_tier 257 = .ok (.iconst 3, 1) := by decide +kernel
theorem dX8_tier_258 : decode cX8_tier 258 = .ok (.iload_n 3, 1) := by decide +kernel
theorem dX8_tier_259 : decode cX8_tier 259 = .ok (.imul, 1) := by decide +kernel
theorem dX8_tier_260 : decode cX8_tier 260 = .ok (.iadd, 1) := by decide +kernel
theorem dX8_tier_261 : decode cX8_tier 261 = .ok (.iload 7, 2) := by decide +kernel
theorem dX8_tier_263 : decode cX8_tier 263 = .ok (.i2l, 1) := by decide +kernel
theorem dX8_tier_264 : decode cX8_tier 264 = .ok (.lastore, 1) := by decide +kernel
theorem dX8_tier_265 : decode cX8_tier 265 = .ok (.iconst 0, 1) := by decide +kernel
theorem dX8_tier_266 : decode cX8_tier 266 = .ok (.ireturn, 1) := by decide +kernel
theorem dX8_tiers_0 : decode cX8_tiers 0 = .ok (.iload_n 1, 1) := by decide +kernel
theorem dX8_tiers_1 : decode cX8_tiers 1 = .ok (.invokestatic 7, 3) := by decide +kernel
theorem dX8_tiers_4 : decode cX8_tiers 4 = .ok (.ifCond .eq 20, 3) := by decide +kernel
theorem dX8_tiers_7 : decode cX8_tiers 7 = .ok (.iload_n 2, 1) := by decide +kernel
theorem dX8_tiers_8 : decode cX8_tiers 8 = .ok (.invokestatic 28, 3) := by decide +kernel
theorem dX8_tiers_11 : decode cX8_tiers 11 = .ok (.ifCond .eq 13, 3) := by decide +kernel
theorem dX8_tiers_14 : decode cX8_tiers 14 = .ok (.iload_n 3, 1) := by decide +kernel
theorem dX8_tiers_15 : decode cX8_tiers 15 = .ok (.iconst 1, 1) := by decide +kernel
theorem dX8_tiers_16 : decode cX8_tiers 16 = .ok (.if_icmp .lt 8, 3) := by decide +kernel
theorem dX8_tiers_19 : decode cX8_tiers 19 = .ok (.iload_n 3, 1) := by decide +kernel
theorem dX8_tiers_20 : decode cX8_tiers 20 = .ok (.iconst 5, 1) := by decide +kernel
theorem dX8_tiers_21 : decode cX8_tiers 21 = .ok (.if_icmp .le 6, 3) := by decide +kernel
theorem dX8_tiers_24 : decode cX8_tiers 24 = .ok (.bipush (-2), 2) := by decide +kernel
theorem dX8_tiers_26 : decode cX8_tiers 26 = .ok (.ireturn, 1) := by decide +kernel
theorem dX8_tiers_27 : decode cX8_tiers 27 = .ok (.iload_n 1, 1) := by decide +kernel
theorem dX8_tiers_28 : decode cX8_tiers 28 = .ok (.iload_n 2, 1) := by decide +kernel
theorem dX8_tiers_29 : decode cX8_tiers 29 = .ok (.invokestatic 174, 3) := by decide +kernel
theorem dX8_tiers_32 : decode cX8_tiers 32 = .ok (.iconst 2, 1) := by decide +kernel
theorem dX8_tiers_33 : decode cX8_tiers 33 = .ok (.iadd, 1) := by decide +kernel
theorem dX8_tiers_34 : decode cX8_tiers 34 = .ok (.istore 4, 2) := by decide +kernel
theorem dX8_tiers_36 : decode cX8_tiers 36 = .ok (.aload_n 0, 1) := by decide +kernel
theorem dX8_tiers_37 : decode cX8_tiers 37 = .ok (.getfield 131, 3) := by decide +kernel
theorem dX8_tiers_40 : decode cX8_tiers 40 = .ok (.iload 4, 2) := by decide +kernel
theorem dX8_tiers_42 : decode cX8_tiers 42 = .ok (.iload_n 3, 1) := by decide +kernel
theorem dX8_tiers_43 : decode cX8_tiers 43 = .ok (.i2l, 1) := by decide +kernel
theorem dX8_tiers_44 : decode cX8_tiers 44 = .ok (.aload_n 0, 1) := by decide +kernel
theorem dX8_tiers_45 : decode cX8_tiers 45 = .ok (.getfield 131, 3) := by decide +kernel
theorem dX8_tiers_48 : decode cX8_tiers 48 = .ok (.iload 4, 2) := by decide +kernel
theorem dX8_tiers_50 : decode cX8_tiers 50 = .ok (.laload, 1) := by decide +kernel
theorem dX8_tiers_51 : decode cX8_tiers 51 = .ok (.invokestatic 109, 3) := by decide +kernel
theorem dX8_tiers_54 : decode cX8_tiers 54 = .ok (.lastore, 1) := by decide +kernel
theorem dX8_tiers_55 : decode cX8_tiers 55 = .ok (.aload_n 0, 1) := by decide +kernel
theorem dX8_tiers_56 : decode cX8_tiers 56 = .ok (.getfield 131, 3) := by decide +kernel
theorem dX8_tiers_59 : decode cX8_tiers 59 = .ok (.iload 4, 2) := by decide +kernel
theorem dX8_tiers_61 : decode cX8_tiers 61 = .ok (.laload, 1) := by decide +kernel
theorem dX8_tiers_62 : decode cX8_tiers 62 = .ok (.l2i, 1) := by decide +kernel
theorem dX8_tiers_63 : decode cX8_tiers 63 = .ok (.ireturn, 1) := by decide +kernel
theorem dX8_cost_0 : decode cX8_cost 0 = .ok (.iload_n 1, 1) := by decide +kernel
theorem dX8_cost_1 : decode cX8_cost 1 = .ok (.invokestatic 7, 3) := by decide +kernel
theorem dX8_cost_4 : decode cX8_cost 4 = .ok (.ifCond .eq 37, 3) := by decide +kernel
theorem dX8_cost_7 : decode cX8_cost 7 = .ok (.iload_n 2, 1) := by decide +kernel
theorem dX8_cost_8 : decode cX8_cost 8 = .ok (.invokestatic 28, 3) := by decide +kernel
theorem dX8_cost_11 : decode cX8_cost 11 = .ok (.ifCond .eq 30, 3) := by decide +kernel
theorem dX8_cost_14 : decode cX8_cost 14 = .ok (.lload_n 3, 1) := by decide +kernel
theorem dX8_cost_15 : decode cX8_cost 15 = .ok (.lconst 0, 1) := by decide +kernel
theorem dX8_cost_16 : decode cX8_cost 16 = .ok (.lcmp, 1) := by decide +kernel
theorem dX8_cost_17 : decode cX8_cost 17 = .ok (.ifCond .lt 24, 3) := by decide +kernel
theorem dX8_cost_20 : decode cX8_cost 20 = .ok (.lload_n 3, 1) := by decide +kernel
theorem dX8_cost_21 : decode cX8_cost 21 = .ok (.ldc2_w 177, 3) := by decide +kernel
theorem dX8_cost_24 : decode cX8_cost 24 = .ok (.lcmp, 1) := by decide +kernel
theorem dX8_cost_25 : decode cX8_cost 25 = .ok (.ifCond .gt 16, 3) := by decide +kernel
theorem dX8_cost_28 : decode cX8_cost 28 = .ok (.aload_n 0, 1) := by decide +kernel
theorem dX8_cost_29 : decode cX8_cost 29 = .ok (.iload_n 1, 1) := by decide +kernel
theorem dX8_cost_30 : decode cX8_cost 30 = .ok (.iload_n 2, 1) := by decide +kernel
theorem dX8_cost_31 : decode cX8_cost 31 = .ok (.invokestatic 174, 3) := by decide +kernel
theorem dX8_cost_34 : decode cX8_cost 34 = .ok (.lload_n 3, 1) := by decide +kernel
theorem dX8_cost_35 : decode cX8_cost 35 = .ok (.invokevirtual 179, 3) := by decide +kernel
theorem dX8_cost_38 : decode cX8_cost 38 = .ok (.goto 6, 3) := by decide +kernel
theorem dX8_cost_41 : decode cX8_cost 41 = .ok (.ldc2_w 75, 3) := by decide +kernel
theorem dX8_cost_44 : decode cX8_cost 44 = .ok (.lreturn, 1) := by decide +kernel
theorem dX8_costOf_0 : decode cX8_costOf 0 = .ok (.lconst 0, 1) := by decide +kernel
theorem dX8_costOf_1 : decode cX8_costOf 1 = .ok (.lstore 4, 2) := by decide +kernel
theorem dX8_costOf_3 : decode cX8_costOf 3 = .ok (.lconst 0, 1) := by decide +kernel
theorem dX8_costOf_4 : decode cX8_costOf 4 = .ok (.lstore 6, 2) := by decide +kernel
theorem dX8_costOf_6 : decode cX8_costOf 6 = .ok (.aload_n 0, 1) := by decide +kernel
theorem dX8_costOf_7 : decode cX8_costOf 7 = .ok (.getfield 131, 3) := by decide +kernel
theorem dX8_costOf_10 : decode cX8_costOf 10 = .ok (.iload_n 1, 1) := by decide +kernel
theorem dX8_costOf_11 : decode cX8_costOf 11 = .ok (.iconst 2, 1) := by decide +kernel
theorem dX8_costOf_12 : decode cX8_costOf 12 = .ok (.iadd, 1) := by decide +kernel
theorem dX8_costOf_13 : decode cX8_costOf 13 = .ok (.laload, 1) := by decide +kernel
theorem dX8_costOf_14 : decode cX8_costOf 14 = .ok (.l2i, 1) := by decide +kernel
theorem dX8_costOf_15 : decode cX8_costOf 15 = .ok (.istore 8, 2) := by decide +kernel
theorem dX8_costOf_17 : decode cX8_costOf 17 = .ok (.iconst 0, 1) := by decide +kernel
theorem dX8_costOf_18 : decode cX8_costOf 18 = .ok (.istore 9, 2) := by decide +kernel
theorem dX8_costOf_20 : decode cX8_costOf 20 = .ok (.iload 9, 2) := by decide +kernel
theorem dX8_costOf_22 : decode cX8_costOf 22 = .ok (.iload 8, 2) := by decide +kernel
theorem dX8_costOf_24 : decode cX8_costOf 24 = .ok (.if_icmp .ge 161, 3) := by decide +kernel
theorem dX8_costOf_27 : decode cX8_costOf 27 = .ok (.lload 6, 2) := by decide +kernel
theorem dX8_costOf_29 : decode cX8_costOf 29 = .ok (.lload_n 2, 1) := by decide +kernel
theorem dX8_costOf_30 : decode cX8_costOf 30 = .ok (.lcmp, 1) := by decide +kernel
theorem dX8_costOf_31 : decode cX8_costOf 31 = .ok (.ifCond .ge 154, 3) := by decide +kernel
theorem dX8_costOf_34 : decode cX8_costOf 34 = .ok (.iload 9, 2) := by decide +kernel
theorem dX8_costOf_36 : decode cX8_costOf 36 = .ok (.iload 8, 2) := by decide +kernel
theorem dX8_costOf_38 : decode cX8_costOf 38 = .ok (.iconst 1, 1) := by decide +kernel
theorem dX8_costOf_39 : decode cX8_costOf 39 = .ok (.isub, 1) := by decide +kernel
theorem dX8_costOf_40 : decode cX8_costOf 40 = .ok (.if_icmp .ne 7, 3) := by decide +kernel
theorem dX8_costOf_43 : decode cX8_costOf 43 = .ok (.lload_n 2, 1) := by decide +kernel
theorem dX8_costOf_44 : decode cX8_costOf 44 = .ok (.goto 20, 3) := by decide +kernel
theorem dX8_costOf_47 : decode cX8_costOf 47 = .ok (.lload_n 2, 1) := by decide +kernel
theorem dX8_costOf_48 : decode cX8_costOf 48 = .ok (.aload_n 0, 1) := by decide +kernel
theorem dX8_costOf_49 : decode cX8_costOf 49 = .ok (.getfield 131, 3) := by decide +kernel
theorem dX8_costOf_52 : decode cX8_costOf 52 = .ok (.iload_n 1, 1) := by decide +kernel
theorem dX8_costOf_53 : decode cX8_costOf 53 = .ok (.iconst 3, 1) := by decide +kernel
theorem dX8_costOf_54 : decode cX8_costOf 54 = .ok (.iadd, 1) := by decide +kernel
theorem dX8_costOf_55 : decode cX8_costOf 55 = .ok (.iconst 3, 1) := by decide +kernel
theorem dX8_costOf_56 : decode cX8_costOf 56 = .ok (.iload 9, 2) := by decide +kernel
theorem dX8_costOf_58 : decode cX8_costOf 58 = .ok (.imul, 1) := by decide +kernel
theorem dX8_costOf_59 : decode cX8_costOf 59 = .ok (.iadd, 1) := by decide +kernel
theorem dX8_costOf_60 : decode cX8_costOf 60 = .ok (.laload, 1) := by decide +kernel
theorem dX8_costOf_61 : decode cX8_costOf 61 = .ok (.invokestatic 109, 3) := by decide +kernel
theorem dX8_costOf_64 : decode cX8_costOf 64 = .ok (.lstore 10, 2) := by decide +kernel
theorem dX8_costOf_66 : decode cX8_costOf 66 = .ok (.lload 10, 2) := by decide +kernel
theorem dX8_costOf_68 : decode cX8_costOf 68 = .ok (.lload 6, 2) := by decide +kernel
theorem dX8_costOf_70 : decode cX8_costOf 70 = .ok (.lsub, 1) := by decide +kernel
theorem dX8_costOf_71 : decode cX8_costOf 71 = .ok (.lstore 12, 2) := by decide +kernel
theorem dX8_costOf_73 : decode cX8_costOf 73 = .ok (.aload_n 0, 1) := by decide +kernel
theorem dX8_costOf_74 : decode cX8_costOf 74 = .ok (.getfield 131, 3) := by decide +kernel
theorem dX8_costOf_77 : decode cX8_costOf 77 = .ok (.iload_n 1, 1) := by decide +kernel
theorem dX8_costOf_78 : decode cX8_costOf 78 = .ok (.iconst 4, 1) := by decide +kernel
theorem dX8_costOf_79 : decode cX8_costOf 79 = .ok (.iadd, 1) := by decide +kernel
theorem dX8_costOf_80 : decode cX8_costOf 80 = .ok (.iconst 3, 1) := by decide +kernel
theorem dX8_costOf_81 : decode cX8_costOf 81 = .ok (.iload 9, 2) := by decide +kernel
theorem dX8_costOf_83 : decode cX8_costOf 83 = .ok (.imul, 1) := by decide +kernel
theorem dX8_costOf_84 : decode cX8_costOf 84 = .ok (.iadd, 1) := by decide +kernel
theorem dX8_costOf_85 : decode cX8_costOf 85 = .ok (.laload, 1) := by decide +kernel
theorem dX8_costOf_86 : decode cX8_costOf 86 = .ok (.lstore 14, 2) := by decide +kernel
theorem dX8_costOf_88 : decode cX8_costOf 88 = .ok (.aload_n 0, 1) := by decide +kernel
theorem dX8_costOf_89 : decode cX8_costOf 89 = .ok (.getfield 131, 3) := by decide +kernel
theorem dX8_costOf_92 : decode cX8_costOf 92 = .ok (.iload_n 1, 1) := by decide +kernel
theorem dX8_costOf_93 : decode cX8_costOf 93 = .ok (.iconst 5, 1) := by decide +kernel
theorem dX8_costOf_94 : decode cX8_costOf 94 = .ok (.iadd, 1) := by decide +kernel
theorem dX8_costOf_95 : decode cX8_costOf 95 = .ok (.iconst 3, 1) := by decide +kernel
theorem dX8_costOf_96 : decode cX8_costOf 96 = .ok (.iload 9, 2) := by decide +kernel
theorem dX8_costOf_98 : decode cX8_costOf 98 = .ok (.imul, 1) := by decide +kernel
theorem dX8_costOf_99 : decode cX8_costOf 99 = .ok (.iadd, 1) := by decide +kernel
theorem dX8_costOf_100 : decode cX8_costOf 100 = .ok (.laload, 1) := by decide +kernel
theorem dX8_costOf_101 : decode cX8_costOf 101 = .ok (.lstore 16, 2) := by decide +kernel
theorem dX8_costOf_103 : decode cX8_costOf 103 = .ok (.aload_n 0, 1) := by decide +kernel
theorem dX8_costOf_104 : decode cX8_costOf 104 = .ok (.getfield 131, 3) := by decide +kernel
theorem dX8_costOf_107 : decode cX8_costOf 107 = .ok (.iload_n 1, 1) := by decide +kernel
theorem dX8_costOf_108 : decode cX8_costOf 108 = .ok (.laload, 1) := by decide +kernel
theorem dX8_costOf_109 : decode cX8_costOf 109 = .ok (.lconst 1, 1) := by decide +kernel
theorem dX8_costOf_110 : decode cX8_costOf 110 = .ok (.lcmp, 1) := by decide +kernel
theorem dX8_costOf_111 : decode cX8_costOf 111 = .ok (.ifCond .ne 15, 3) := by decide +kernel
theorem dX8_costOf_114 : decode cX8_costOf 114 = .ok (.lload_n 2, 1) := by decide +kernel
theorem dX8_costOf_115 : decode cX8_costOf 115 = .ok (.lload 14, 2) := by decide +kernel
theorem dX8_costOf_117 : decode cX8_costOf 117 = .ok (.lmul, 1) := by decide +kernel
theorem dX8_costOf_118 : decode cX8_costOf 118 = .ok (.lload 16, 2) := by decide +kernel
theorem dX8_costOf_120 : decode cX8_costOf 120 = .ok (.ladd, 1) := by decide +kernel
theorem dX8_costOf_121 : decode cX8_costOf 121 = .ok (.lstore 4, 2) := by decide +kernel
theorem dX8_costOf_123 : decode cX8_costOf 123 = .ok (.goto 52, 3) := by decide +kernel
theorem dX8_costOf_126 : decode cX8_costOf 126 = .ok (.aload_n 0, 1) := by decide +kernel
theorem dX8_costOf_127 : decode cX8_costOf 127 = .ok (.getfield 131, 3) := by decide +kernel
theorem dX8_costOf_130 : decode cX8_costOf 130 = .ok (.iload_n 1, 1) := by decide +kernel
theorem dX8_costOf_131 : decode cX8_costOf 131 = .ok (.iconst 1, 1) := by decide +kernel
theorem dX8_costOf_132 : decode cX8_costOf 132 = .ok (.iadd, 1) := by decide +kernel
theorem dX8_costOf_133 : decode cX8_costOf 133 = .ok (.laload, 1) := by decide +kernel
theorem dX8_costOf_134 : decode cX8_costOf 134 = .ok (.lstore 18, 2) := by decide +kernel
theorem dX8_costOf_136 : decode cX8_costOf 136 = .ok (.lload 4, 2) := by decide +kernel
theorem dX8_costOf_138 : decode cX8_costOf 138 = .ok (.aload_n 0, 1) := by decide +kernel
theorem dX8_costOf_139 : decode cX8_costOf 139 = .ok (.getfield 131, 3) := by decide +kernel
theorem dX8_costOf_142 : decode cX8_costOf 142 = .ok (.iload_n 1, 1) := by decide +kernel
theorem dX8_costOf_143 : decode cX8_costOf 143 = .ok (.laload, 1) := by decide +kernel
theorem dX8_costOf_144 : decode cX8_costOf 144 = .ok (.ldc2_w 183, 3) := by decide +kernel
theorem dX8_costOf_147 : decode cX8_costOf 147 = .ok (.lcmp, 1) := by decide +kernel
theorem dX8_costOf_148 : decode cX8_costOf 148 = .ok (.ifCond .ne 16, 3) := by decide +kernel
theorem dX8_costOf_151 : decode cX8_costOf 151 = .ok (.lload 12, 2) := by decide +kernel
theorem dX8_costOf_153 : decode cX8_costOf 153 = .ok (.lload 18, 2) := by decide +kernel
theorem dX8_costOf_155 : decode cX8_costOf 155 = .ok (.ladd, 1) := by decide +kernel
theorem dX8_costOf_156 : decode cX8_costOf 156 = .ok (.lconst 1, 1) := by decide +kernel
theorem dX8_costOf_157 : decode cX8_costOf 157 = .ok (.lsub, 1) := by decide +kernel
theorem dX8_costOf_158 : decode cX8_costOf 158 = .ok (.lload 18, 2) := by decide +kernel
theorem dX8_costOf_160 : decode cX8_costOf 160 = .ok (.ldiv, 1) := by decide +kernel
theorem dX8_costOf_161 : decode cX8_costOf 161 = .ok (.goto 5, 3) := by decide +kernel
theorem dX8_costOf_164 : decode cX8_costOf 164 = .ok (.lload 12, 2) := by decide +kernel
theorem dX8_costOf_166 : decode cX8_costOf 166 = .ok (.lload 14, 2) := by decide +kernel
theorem dX8_costOf_168 : decode cX8_costOf 168 = .ok (.lmul, 1) := by decide +kernel
theorem dX8_costOf_169 : decode cX8_costOf 169 = .ok (.lload 16, 2) := by decide +kernel
theorem dX8_costOf_171 : decode cX8_costOf 171 = .ok (.ladd, 1) := by decide +kernel
theorem dX8_costOf_172 : decode cX8_costOf 172 = .ok (.ladd, 1) := by decide +kernel
theorem dX8_costOf_173 : decode cX8_costOf 173 = .ok (.lstore 4, 2) := by decide +kernel
theorem dX8_costOf_175 : decode cX8_costOf 175 = .ok (.lload 10, 2) := by decide +kernel
theorem dX8_costOf_177 : decode cX8_costOf 177 = .ok (.lstore 6, 2) := by decide +kernel
theorem dX8_costOf_179 : decode cX8_costOf 179 = .ok (.iinc 9 1, 3) := by decide +kernel
theorem dX8_costOf_182 : decode cX8_costOf 182 = .ok (.goto (-162), 3) := by decide +kernel
theorem dX8_costOf_185 : decode cX8_costOf 185 = .ok (.lload 4, 2) := by decide +kernel
theorem dX8_costOf_187 : decode cX8_costOf 187 = .ok (.lreturn, 1) := by decide +kernel
theorem dX8_terms_0 : decode cX8_terms 0 = .ok (.iload_n 1, 1) := by decide +kernel
theorem dX8_terms_1 : decode cX8_terms 1 = .ok (.invokestatic 7, 3) := by decide +kernel
theorem dX8_terms_4 : decode cX8_terms 4 = .ok (.ifCond .eq 41, 3) := by decide +kernel
theorem dX8_terms_7 : decode cX8_terms 7 = .ok (.iload_n 2, 1) := by decide +kernel
theorem dX8_terms_8 : decode cX8_terms 8 = .ok (.ifCond .lt 37, 3) := by decide +kernel
theorem dX8_terms_11 : decode cX8_terms 11 = .ok (.iload_n 2, 1) := by decide +kernel
theorem dX8_terms_12 : decode cX8_terms 12 = .ok (.sipush 10000, 3) := by decide +kernel
theorem dX8_terms_15 : decode cX8_terms 15 = .ok (.if_icmp .gt 30, 3) := by decide +kernel
theorem dX8_terms_18 : decode cX8_terms 18 = .ok (.lload_n 3, 1) := by decide +kernel
theorem dX8_terms_19 : decode cX8_terms 19 = .ok (.lconst 0, 1) := by decide +kernel
theorem dX8_terms_20 : decode cX8_terms 20 = .ok (.lcmp, 1) := by decide +kernel
theorem dX8_terms_21 : decode cX8_terms 21 = .ok (.ifCond .lt 24, 3) := by decide +kernel
theorem dX8_terms_24 : decode cX8_terms 24 = .ok (.lload_n 3, 1) := by decide +kernel
theorem dX8_terms_25 : decode cX8_terms 25 = .ok (.ldc2_w 185, 3) := by decide +kernel
theorem dX8_terms_28 : decode cX8_terms 28 = .ok (.lcmp, 1) := by decide +kernel
theorem dX8_terms_29 : decode cX8_terms 29 = .ok (.ifCond .gt 16, 3) := by decide +kernel
theorem dX8_terms_32 : decode cX8_terms 32 = .ok (.iload 5, 2) := by decide +kernel
theorem dX8_terms_34 : decode cX8_terms 34 = .ok (.ifCond .lt 11, 3) := by decide +kernel
theorem dX8_terms_37 : decode cX8_terms 37 = .ok (.iload 5, 2) := by decide +kernel
theorem dX8_terms_39 : decode cX8_terms 39 = .ok (.sipush 10000, 3) := by decide +kernel
theorem dX8_terms_42 : decode cX8_terms 42 = .ok (.if_icmp .le 6, 3) := by decide +kernel
theorem dX8_terms_45 : decode cX8_terms 45 = .ok (.bipush (-2), 2) := by decide +kernel
theorem dX8_terms_47 : decode cX8_terms 47 = .ok (.ireturn, 1) := by decide +kernel
theorem dX8_terms_48 : decode cX8_terms 48 = .ok (.aload_n 0, 1) := by decide +kernel
theorem dX8_terms_49 : decode cX8_terms 49 = .ok (.getfield 134, 3) := by decide +kernel
theorem dX8_terms_52 : decode cX8_terms 52 = .ok (.iload_n 1, 1) := by decide +kernel
theorem dX8_terms_53 : decode cX8_terms 53 = .ok (.iload_n 2, 1) := by decide +kernel
theorem dX8_terms_54 : decode cX8_terms 54 = .ok (.iastore, 1) := by decide +kernel
theorem dX8_terms_55 : decode cX8_terms 55 = .ok (.aload_n 0, 1) := by decide +kernel
theorem dX8_terms_56 : decode cX8_terms 56 = .ok (.getfield 137, 3) := by decide +kernel
theorem dX8_terms_59 : decode cX8_terms 59 = .ok (.iload_n 1, 1) := by decide +kernel
theorem dX8_terms_60 : decode cX8_terms 60 = .ok (.lload_n 3, 1) := by decide +kernel
theorem dX8_terms_61 : decode cX8_terms 61 = .ok (.lastore, 1) := by decide +kernel
theorem dX8_terms_62 : decode cX8_terms 62 = .ok (.aload_n 0, 1) := by decide +kernel
theorem dX8_terms_63 : decode cX8_terms 63 = .ok (.getfield 140, 3) := by decide +kernel
theorem dX8_terms_66 : decode cX8_terms 66 = .ok (.iload_n 1, 1) := by decide +kernel
theorem dX8_terms_67 : decode cX8_terms 67 = .ok (.iload 5, 2) := by decide +kernel
theorem dX8_terms_69 : decode cX8_terms 69 = .ok (.iastore, 1) := by decide +kernel
theorem dX8_terms_70 : decode cX8_terms 70 = .ok (.iconst 0, 1) := by decide +kernel
theorem dX8_terms_71 : decode cX8_terms 71 = .ok (.ireturn, 1) := by decide +kernel
theorem dX8_leftOf_0 : decode cX8_leftOf 0 = .ok (.bipush 40, 2) := by decide +kernel
theorem dX8_leftOf_2 : decode cX8_leftOf 2 = .ok (.iload_n 1, 1) := by decide +kernel
theorem dX8_leftOf_3 : decode cX8_leftOf 3 = .ok (.imul, 1) := by decide +kernel
theorem dX8_leftOf_4 : decode cX8_leftOf 4 = .ok (.iload_n 2, 1) := by decide +kernel
theorem dX8_leftOf_5 : decode cX8_leftOf 5 = .ok (.iadd, 1) := by decide +kernel
theorem dX8_leftOf_6 : decode cX8_leftOf 6 = .ok (.istore_n 3, 1) := by decide +kernel
theorem dX8_leftOf_7 : decode cX8_leftOf 7 = .ok (.aload_n 0, 1) := by decide +kernel
theorem dX8_leftOf_8 : decode cX8_leftOf 8 = .ok (.getfield 149, 3) := by decide +kernel
theorem dX8_leftOf_11 : decode cX8_leftOf 11 = .ok (.iload_n 3, 1) := by decide +kernel
theorem dX8_leftOf_12 : decode cX8_leftOf 12 = .ok (.iaload, 1) := by decide +kernel
theorem dX8_leftOf_13 : decode cX8_leftOf 13 = .ok (.aload_n 0, 1) := by decide +kernel
theorem dX8_leftOf_14 : decode cX8_leftOf 14 = .ok (.getfield 49, 3) := by decide +kernel
theorem dX8_leftOf_17 : decode cX8_leftOf 17 = .ok (.iload_n 1, 1) := by decide +kernel
theorem dX8_leftOf_18 : decode cX8_leftOf 18 = .ok (.iaload, 1) := by decide +kernel
theorem dX8_leftOf_19 : decode cX8_leftOf 19 = .ok (.if_icmp .ge 7, 3) := by decide +kernel
theorem dX8_leftOf_22 : decode cX8_leftOf 22 = .ok (.lconst 0, 1) := by decide +kernel
theorem dX8_leftOf_23 : decode cX8_leftOf 23 = .ok (.goto 9, 3) := by decide +kernel
theorem dX8_leftOf_26 : decode cX8_leftOf 26 = .ok (.aload_n 0, 1) := by decide +kernel
theorem dX8_leftOf_27 : decode cX8_leftOf 27 = .ok (.getfield 146, 3) := by decide +kernel
theorem dX8_leftOf_30 : decode cX8_leftOf 30 = .ok (.iload_n 3, 1) := by decide +kernel
theorem dX8_leftOf_31 : decode cX8_leftOf 31 = .ok (.laload, 1) := by decide +kernel
theorem dX8_leftOf_32 : decode cX8_leftOf 32 = .ok (.lreturn, 1) := by decide +kernel
theorem dX8_credit_0 : decode cX8_credit 0 = .ok (.iload_n 1, 1) := by decide +kernel
theorem dX8_credit_1 : decode cX8_credit 1 = .ok (.invokestatic 7, 3) := by decide +kernel
theorem dX8_credit_4 : decode cX8_credit 4 = .ok (.ifCond .eq 40, 3) := by decide +kernel
theorem dX8_credit_7 : decode cX8_credit 7 = .ok (.lload_n 2, 1) := by decide +kernel
theorem dX8_credit_8 : decode cX8_credit 8 = .ok (.lconst 1, 1) := by decide +kernel
theorem dX8_credit_9 : decode cX8_credit 9 = .ok (.lcmp, 1) := by decide +kernel
theorem dX8_credit_10 : decode cX8_credit 10 = .ok (.ifCond .lt 34, 3) := by decide +kernel
theorem dX8_credit_13 : decode cX8_credit 13 = .ok (.lload_n 2, 1) := by decide +kernel
theorem dX8_credit_14 : decode cX8_credit 14 = .ok (.ldc2_w 185, 3) := by decide +kernel
theorem dX8_credit_17 : decode cX8_credit 17 = .ok (.lcmp, 1) := by decide +kernel
theorem dX8_credit_18 : decode cX8_credit 18 = .ok (.ifCond .gt 26, 3) := by decide +kernel
theorem dX8_credit_21 : decode cX8_credit 21 = .ok (.iload 4, 2) := by decide +kernel
theorem dX8_credit_23 : decode cX8_credit 23 = .ok (.ifCond .lt 21, 3) := by decide +kernel
theorem dX8_credit_26 : decode cX8_credit 26 = .ok (.iload 4, 2) := by decide +kernel
theorem dX8_credit_28 : decode cX8_credit 28 = .ok (.bipush 100, 2) := by decide +kernel
theorem dX8_credit_30 : decode cX8_credit 30 = .ok (.if_icmp .ge 14, 3) := by decide +kernel
theorem dX8_credit_33 : decode cX8_credit 33 = .ok (.iload 4, 2) := by decide +kernel
theorem dX8_credit_35 : decode cX8_credit 35 = .ok (.aload_n 0, 1) := by decide +kernel
theorem dX8_credit_36 : decode cX8_credit 36 = .ok (.getfield 49, 3) := by decide +kernel
theorem dX8_credit_39 : decode cX8_credit 39 = .ok (.iload_n 1, 1) := by decide +kernel
theorem dX8_credit_40 : decode cX8_credit 40 = .ok (.iaload, 1) := by decide +kernel
theorem dX8_credit_41 : decode cX8_credit 41 = .ok (.if_icmp .ge 6, 3) := by decide +kernel
theorem dX8_credit_44 : decode cX8_credit 44 = .ok (.bipush (-2), 2) := by decide +kernel
theorem dX8_credit_46 : decode cX8_credit 46 = .ok (.ireturn, 1) := by decide +kernel
theorem dX8_credit_47 : decode cX8_credit 47 = .ok (.iconst 0, 1) := by decide +kernel
theorem dX8_credit_48 : decode cX8_credit 48 = .ok (.istore 5, 2) := by decide +kernel
theorem dX8_credit_50 : decode cX8_credit 50 = .ok (.iconst 0, 1) := by decide +kernel
theorem dX8_credit_51 : decode cX8_credit 51 = .ok (.istore 6, 2) := by decide +kernel
theorem dX8_credit_53 : decode cX8_credit 53 = .ok (.iload 6, 2) := by decide +kernel
theorem dX8_credit_55 : decode cX8_credit 55 = .ok (.aload_n 0, 1) := by decide +kernel
theorem dX8_credit_56 : decode cX8_credit 56 = .ok (.getfield 143, 3) := by decide +kernel
theorem dX8_credit_59 : decode cX8_credit 59 = .ok (.iload_n 1, 1) := by decide +kernel
theorem dX8_credit_60 : decode cX8_credit 60 = .ok (.iaload, 1) := by decide +kernel
theorem dX8_credit_61 : decode cX8_credit 61 = .ok (.if_icmp .ge 31, 3) := by decide +kernel
theorem dX8_credit_64 : decode cX8_credit 64 = .ok (.iload 5, 2) := by decide +kernel
theorem dX8_credit_66 : decode cX8_credit 66 = .ok (.aload_n 0, 1) := by decide +kernel
theorem dX8_credit_67 : decode cX8_credit 67 = .ok (.iload_n 1, 1) := by decide +kernel
theorem dX8_credit_68 : decode cX8_credit 68 = .ok (.iload 6, 2) := by decide +kernel
theorem dX8_credit_70 : decode cX8_credit 70 = .ok (.invokevirtual 187, 3) := by decide +kernel
theorem dX8_credit_73 : decode cX8_credit 73 = .ok (.lconst 0, 1) := by decide +kernel
theorem dX8_credit_74 : decode cX8_credit 74 = .ok (.lcmp, 1) := by decide +kernel
theorem dX8_credit_75 : decode cX8_credit 75 = .ok (.ifCond .le 7, 3) := by decide +kernel
theorem dX8_credit_78 : decode cX8_credit 78 = .ok (.iconst 1, 1) := by decide +kernel
theorem dX8_credit_79 : decode cX8_credit 79 = .ok (.goto 4, 3) := by decide +kernel
theorem dX8_credit_82 : decode cX8_credit 82 = .ok (.iconst 0, 1) := by decide +kernel
theorem dX8_credit_83 : decode cX8_credit 83 = .ok (.iadd, 1) := by decide +kernel
theorem dX8_credit_84 : decode cX8_credit 84 = .ok (.istore 5, 2) := by decide +kernel
theorem dX8_credit_86 : decode cX8_credit 86 = .ok (.iinc 6 1, 3) := by decide +kernel
theorem dX8_credit_89 : decode cX8_credit 89 = .ok (.goto (-36), 3) := by decide +kernel
theorem dX8_credit_92 : decode cX8_credit 92 = .ok (.iload 5, 2) := by decide +kernel
theorem dX8_credit_94 : decode cX8_credit 94 = .ok (.bipush 10, 2) := by decide +kernel
theorem dX8_credit_96 : decode cX8_credit 96 = .ok (.if_icmp .eq 14, 3) := by decide +kernel
theorem dX8_credit_99 : decode cX8_credit 99 = .ok (.aload_n 0, 1) := by decide +kernel
theorem dX8_credit_100 : decode cX8_credit 100 = .ok (.getfield 143, 3) := by decide +kernel
theorem dX8_credit_103 : decode cX8_credit 103 = .ok (.iload_n 1, 1) := by decide +kernel
theorem dX8_credit_104 : decode cX8_credit 104 = .ok (.iaload, 1) := by decide +kernel
theorem dX8_credit_105 : decode cX8_credit 105 = .ok (.bipush 40, 2) := by decide +kernel
theorem dX8_credit_107 : decode cX8_credit 107 = .ok (.if_icmp .ne 6, 3) := by decide +kernel
theorem dX8_credit_110 : decode cX8_credit 110 = .ok (.bipush (-3), 2) := by decide +kernel
theorem dX8_credit_112 : decode cX8_credit 112 = .ok (.ireturn, 1) := by decide +kernel
theorem dX8_credit_113 : decode cX8_credit 113 = .ok (.aload_n 0, 1) := by decide +kernel
theorem dX8_credit_114 : decode cX8_credit 114 = .ok (.getfield 146, 3) := by decide +kernel
theorem dX8_credit_117 : decode cX8_credit 117 = .ok (.bipush 40, 2) := by decide +kernel
theorem dX8_credit_119 : decode cX8_credit 119 = .ok (.iload_n 1, 1) := by decide +kernel
theorem dX8_credit_120 : decode cX8_credit 120 = .ok (.imul, 1) := by decide +kernel
theorem dX8_credit_121 : decode cX8_credit 121 = .ok (.aload_n 0, 1) := by decide +kernel
theorem dX8_credit_122 : decode cX8_credit 122 = .ok (.getfield 143, 3) := by decide +kernel
theorem dX8_credit_125 : decode cX8_credit 125 = .ok (.iload_n 1, 1) := by decide +kernel
theorem dX8_credit_126 : decode cX8_credit 126 = .ok (.iaload, 1) := by decide +kernel
theorem dX8_credit_127 : decode cX8_credit 127 = .ok (.iadd, 1) := by decide +kernel
theorem dX8_credit_128 : decode cX8_credit 128 = .ok (.lload_n 2, 1) := by decide +kernel
theorem dX8_credit_129 : decode cX8_credit 129 = .ok (.lastore, 1) := by decide +kernel
theorem dX8_credit_130 : decode cX8_credit 130 = .ok (.aload_n 0, 1) := by decide +kernel
theorem dX8_credit_131 : decode cX8_credit 131 = .ok (.getfield 149, 3) := by decide +kernel
theorem dX8_credit_134 : decode cX8_credit 134 = .ok (.bipush 40, 2) := by decide +kernel
theorem dX8_credit_136 : decode cX8_credit 136 = .ok (.iload_n 1, 1) := by decide +kernel
theorem dX8_credit_137 : decode cX8_credit 137 = .ok (.imul, 1) := by decide +kernel
theorem dX8_credit_138 : decode cX8_credit 138 = .ok (.aload_n 0, 1) := by decide +kernel
theorem dX8_credit_139 : decode cX8_credit 139 = .ok (.getfield 143, 3) := by decide +kernel
theorem dX8_credit_142 : decode cX8_credit 142 = .ok (.iload_n 1, 1) := by decide +kernel
theorem dX8_credit_143 : decode cX8_credit 143 = .ok (.iaload, 1) := by decide +kernel
theorem dX8_credit_144 : decode cX8_credit 144 = .ok (.iadd, 1) := by decide +kernel
theorem dX8_credit_145 : decode cX8_credit 145 = .ok (.iload 4, 2) := by decide +kernel
theorem dX8_credit_147 : decode cX8_credit 147 = .ok (.iastore, 1) := by decide +kernel
theorem dX8_credit_148 : decode cX8_credit 148 = .ok (.aload_n 0, 1) := by decide +kernel
theorem dX8_credit_149 : decode cX8_credit 149 = .ok (.getfield 143, 3) := by decide +kernel
theorem dX8_credit_152 : decode cX8_credit 152 = .ok (.iload_n 1, 1) := by decide +kernel
theorem dX8_credit_153 : decode cX8_credit 153 = .ok (.dup2, 1) := by decide +kernel
theorem dX8_credit_154 : decode cX8_credit 154 = .ok (.iaload, 1) := by decide +kernel
theorem dX8_credit_155 : decode cX8_credit 155 = .ok (.iconst 1, 1) := by decide +kernel
theorem dX8_credit_156 : decode cX8_credit 156 = .ok (.iadd, 1) := by decide +kernel
theorem dX8_credit_157 : decode cX8_credit 157 = .ok (.iastore, 1) := by decide +kernel
theorem dX8_credit_158 : decode cX8_credit 158 = .ok (.aload_n 0, 1) := by decide +kernel
theorem dX8_credit_159 : decode cX8_credit 159 = .ok (.getfield 143, 3) := by decide +kernel
theorem dX8_credit_162 : decode cX8_credit 162 = .ok (.iload_n 1, 1) := by decide +kernel
theorem dX8_credit_163 : decode cX8_credit 163 = .ok (.iaload, 1) := by decide +kernel
theorem dX8_credit_164 : decode cX8_credit 164 = .ok (.iconst 1, 1) := by decide +kernel
theorem dX8_credit_165 : decode cX8_credit 165 = .ok (.isub, 1) := by decide +kernel
theorem dX8_credit_166 : decode cX8_credit 166 = .ok (.ireturn, 1) := by decide +kernel
theorem dX8_left_0 : decode cX8_left 0 = .ok (.iload_n 1, 1) := by decide +kernel
theorem dX8_left_1 : decode cX8_left 1 = .ok (.invokestatic 7, 3) := by decide +kernel
theorem dX8_left_4 : decode cX8_left 4 = .ok (.ifCond .eq 26, 3) := by decide +kernel
theorem dX8_left_7 : decode cX8_left 7 = .ok (.iload_n 2, 1) := by decide +kernel
theorem dX8_left_8 : decode cX8_left 8 = .ok (.ifCond .lt 22, 3) := by decide +kernel
theorem dX8_left_11 : decode cX8_left 11 = .ok (.iload_n 2, 1) := by decide +kernel
theorem dX8_left_12 : decode cX8_left 12 = .ok (.aload_n 0, 1) := by decide +kernel
theorem dX8_left_13 : decode cX8_left 13 = .ok (.getfield 143, 3) := by decide +kernel
theorem dX8_left_16 : decode cX8_left 16 = .ok (.iload_n 1, 1) := by decide +kernel
theorem dX8_left_17 : decode cX8_left 17 = .ok (.iaload, 1) := by decide +kernel
theorem dX8_left_18 : decode cX8_left 18 = .ok (.if_icmp .ge 12, 3) := by decide +kernel
theorem dX8_left_21 : decode cX8_left 21 = .ok (.aload_n 0, 1) := by decide +kernel
theorem dX8_left_22 : decode cX8_left 22 = .ok (.iload_n 1, 1) := by decide +kernel
theorem dX8_left_23 : decode cX8_left 23 = .ok (.iload_n 2, 1) := by decide +kernel
theorem dX8_left_24 : decode cX8_left 24 = .ok (.invokevirtual 187, 3) := by decide +kernel
theorem dX8_left_27 : decode cX8_left 27 = .ok (.goto 6, 3) := by decide +kernel
theorem dX8_left_30 : decode cX8_left 30 = .ok (.ldc2_w 75, 3) := by decide +kernel
theorem dX8_left_33 : decode cX8_left 33 = .ok (.lreturn, 1) := by decide +kernel
theorem dX8_quantity_0 : decode cX8_quantity 0 = .ok (.lconst 0, 1) := by decide +kernel
theorem dX8_quantity_1 : decode cX8_quantity 1 = .ok (.lstore 4, 2) := by decide +kernel
theorem dX8_quantity_3 : decode cX8_quantity 3 = .ok (.iconst 0, 1) := by decide +kernel
theorem dX8_quantity_4 : decode cX8_quantity 4 = .ok (.istore 6, 2) := by decide +kernel
theorem dX8_quantity_6 : decode cX8_quantity 6 = .ok (.iload 6, 2) := by decide +kernel
theorem dX8_quantity_8 : decode cX8_quantity 8 = .ok (.aload_n 0, 1) := by decide +kernel
theorem dX8_quantity_9 : decode cX8_quantity 9 = .ok (.getfield 3, 3) := by decide +kernel
theorem dX8_quantity_12 : decode cX8_quantity 12 = .ok (.if_icmp .ge 41, 3) := by decide +kernel
theorem dX8_quantity_15 : decode cX8_quantity 15 = .ok (.lload 4, 2) := by decide +kernel
theorem dX8_quantity_17 : decode cX8_quantity 17 = .ok (.aload_n 0, 1) := by decide +kernel
theorem dX8_quantity_18 : decode cX8_quantity 18 = .ok (.getfield 14, 3) := by decide +kernel
