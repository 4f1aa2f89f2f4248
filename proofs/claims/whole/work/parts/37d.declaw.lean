theorem d_111_0 : decode method_3_code 0 = .ok (.aload_n 0, 1) := by decide +kernel
theorem d_111_1 : decode method_3_code 1 = .ok (.iload_n 1, 1) := by decide +kernel
theorem d_111_2 : decode method_3_code 2 = .ok (.invokevirtual 7, 3) := by decide +kernel
theorem d_111_5 : decode method_3_code 5 = .ok (.goto 6, 3) := by decide +kernel
theorem d_111_8 : decode method_3_code 8 = .ok (.astore_n 2, 1) := by decide +kernel
theorem d_111_9 : decode method_3_code 9 = .ok (.iconst 1, 1) := by decide +kernel
theorem d_111_10 : decode method_3_code 10 = .ok (.ireturn, 1) := by decide +kernel
theorem d_111_11 : decode method_3_code 11 = .ok (.iconst 0, 1) := by decide +kernel
theorem d_111_12 : decode method_3_code 12 = .ok (.ireturn, 1) := by decide +kernel
theorem d_112_0 : decode method_4_code 0 = .ok (.aload_n 2, 1) := by decide +kernel
theorem d_112_1 : decode method_4_code 1 = .ok (.iconst 0, 1) := by decide +kernel
theorem d_112_2 : decode method_4_code 2 = .ok (.aload_n 0, 1) := by decide +kernel
theorem d_112_3 : decode method_4_code 3 = .ok (.iload_n 1, 1) := by decide +kernel
theorem d_112_4 : decode method_4_code 4 = .ok (.invokevirtual 15, 3) := by decide +kernel
theorem d_112_7 : decode method_4_code 7 = .ok (.i2l, 1) := by decide +kernel
theorem d_112_8 : decode method_4_code 8 = .ok (.lastore, 1) := by decide +kernel
theorem d_112_9 : decode method_4_code 9 = .ok (.goto 9, 3) := by decide +kernel
theorem d_112_12 : decode method_4_code 12 = .ok (.astore_n 3, 1) := by decide +kernel
theorem d_112_13 : decode method_4_code 13 = .ok (.iconst 1, 1) := by decide +kernel
theorem d_112_14 : decode method_4_code 14 = .ok (.ireturn, 1) := by decide +kernel
theorem d_112_15 : decode method_4_code 15 = .ok (.astore_n 3, 1) := by decide +kernel
theorem d_112_16 : decode method_4_code 16 = .ok (.iconst 2, 1) := by decide +kernel
theorem d_112_17 : decode method_4_code 17 = .ok (.ireturn, 1) := by decide +kernel
theorem d_112_18 : decode method_4_code 18 = .ok (.iconst 0, 1) := by decide +kernel
theorem d_112_19 : decode method_4_code 19 = .ok (.ireturn, 1) := by decide +kernel
theorem d_113_0 : decode method_5_code 0 = .ok (.aload_n 3, 1) := by decide +kernel
theorem d_113_1 : decode method_5_code 1 = .ok (.iconst 0, 1) := by decide +kernel
theorem d_113_2 : decode method_5_code 2 = .ok (.aload_n 0, 1) := by decide +kernel
theorem d_113_3 : decode method_5_code 3 = .ok (.iload_n 1, 1) := by decide +kernel
theorem d_113_4 : decode method_5_code 4 = .ok (.iload_n 2, 1) := by decide +kernel
theorem d_113_5 : decode method_5_code 5 = .ok (.invokevirtual 21, 3) := by decide +kernel
theorem d_113_8 : decode method_5_code 8 = .ok (.i2l, 1) := by decide +kernel
theorem d_113_9 : decode method_5_code 9 = .ok (.lastore, 1) := by decide +kernel
theorem d_113_10 : decode method_5_code 10 = .ok (.goto 11, 3) := by decide +kernel
theorem d_113_13 : decode method_5_code 13 = .ok (.astore 4, 2) := by decide +kernel
theorem d_113_15 : decode method_5_code 15 = .ok (.iconst 1, 1) := by decide +kernel
theorem d_113_16 : decode method_5_code 16 = .ok (.ireturn, 1) := by decide +kernel
theorem d_113_17 : decode method_5_code 17 = .ok (.astore 4, 2) := by decide +kernel
theorem d_113_19 : decode method_5_code 19 = .ok (.iconst 2, 1) := by decide +kernel
theorem d_113_20 : decode method_5_code 20 = .ok (.ireturn, 1) := by decide +kernel
theorem d_113_21 : decode method_5_code 21 = .ok (.iconst 0, 1) := by decide +kernel
theorem d_113_22 : decode method_5_code 22 = .ok (.ireturn, 1) := by decide +kernel
theorem d_114_0 : decode method_6_code 0 = .ok (.aload_n 3, 1) := by decide +kernel
theorem d_114_1 : decode method_6_code 1 = .ok (.iconst 0, 1) := by decide +kernel
theorem d_114_2 : decode method_6_code 2 = .ok (.aload_n 0, 1) := by decide +kernel
theorem d_114_3 : decode method_6_code 3 = .ok (.iload_n 1, 1) := by decide +kernel
theorem d_114_4 : decode method_6_code 4 = .ok (.iload_n 2, 1) := by decide +kernel
theorem d_114_5 : decode method_6_code 5 = .ok (.invokevirtual 27, 3) := by decide +kernel
theorem d_114_8 : decode method_6_code 8 = .ok (.i2l, 1) := by decide +kernel
theorem d_114_9 : decode method_6_code 9 = .ok (.lastore, 1) := by decide +kernel
theorem d_114_10 : decode method_6_code 10 = .ok (.goto 7, 3) := by decide +kernel
theorem d_114_13 : decode method_6_code 13 = .ok (.astore 4, 2) := by decide +kernel
theorem d_114_15 : decode method_6_code 15 = .ok (.iconst 1, 1) := by decide +kernel
theorem d_114_16 : decode method_6_code 16 = .ok (.ireturn, 1) := by decide +kernel
theorem d_114_17 : decode method_6_code 17 = .ok (.iconst 0, 1) := by decide +kernel
theorem d_114_18 : decode method_6_code 18 = .ok (.ireturn, 1) := by decide +kernel
theorem d_115_0 : decode method_7_code 0 = .ok (.aload_n 3, 1) := by decide +kernel
theorem d_115_1 : decode method_7_code 1 = .ok (.iconst 0, 1) := by decide +kernel
theorem d_115_2 : decode method_7_code 2 = .ok (.aload_n 0, 1) := by decide +kernel
theorem d_115_3 : decode method_7_code 3 = .ok (.iload_n 1, 1) := by decide +kernel
theorem d_115_4 : decode method_7_code 4 = .ok (.iload_n 2, 1) := by decide +kernel
theorem d_115_5 : decode method_7_code 5 = .ok (.invokevirtual 30, 3) := by decide +kernel
theorem d_115_8 : decode method_7_code 8 = .ok (.i2l, 1) := by decide +kernel
theorem d_115_9 : decode method_7_code 9 = .ok (.lastore, 1) := by decide +kernel
theorem d_115_10 : decode method_7_code 10 = .ok (.goto 11, 3) := by decide +kernel
theorem d_115_13 : decode method_7_code 13 = .ok (.astore 4, 2) := by decide +kernel
theorem d_115_15 : decode method_7_code 15 = .ok (.iconst 1, 1) := by decide +kernel
theorem d_115_16 : decode method_7_code 16 = .ok (.ireturn, 1) := by decide +kernel
theorem d_115_17 : decode method_7_code 17 = .ok (.astore 4, 2) := by decide +kernel
theorem d_115_19 : decode method_7_code 19 = .ok (.iconst 2, 1) := by decide +kernel
theorem d_115_20 : decode method_7_code 20 = .ok (.ireturn, 1) := by decide +kernel
theorem d_115_21 : decode method_7_code 21 = .ok (.iconst 0, 1) := by decide +kernel
theorem d_115_22 : decode method_7_code 22 = .ok (.ireturn, 1) := by decide +kernel
theorem d_116_0 : decode method_8_code 0 = .ok (.aload_n 3, 1) := by decide +kernel
theorem d_116_1 : decode method_8_code 1 = .ok (.iconst 0, 1) := by decide +kernel
theorem d_116_2 : decode method_8_code 2 = .ok (.aload_n 0, 1) := by decide +kernel
theorem d_116_3 : decode method_8_code 3 = .ok (.iload_n 1, 1) := by decide +kernel
theorem d_116_4 : decode method_8_code 4 = .ok (.iload_n 2, 1) := by decide +kernel
theorem d_116_5 : decode method_8_code 5 = .ok (.invokevirtual 33, 3) := by decide +kernel
theorem d_116_8 : decode method_8_code 8 = .ok (.i2l, 1) := by decide +kernel
theorem d_116_9 : decode method_8_code 9 = .ok (.lastore, 1) := by decide +kernel
theorem d_116_10 : decode method_8_code 10 = .ok (.goto 7, 3) := by decide +kernel
theorem d_116_13 : decode method_8_code 13 = .ok (.astore 4, 2) := by decide +kernel
theorem d_116_15 : decode method_8_code 15 = .ok (.iconst 1, 1) := by decide +kernel
theorem d_116_16 : decode method_8_code 16 = .ok (.ireturn, 1) := by decide +kernel
theorem d_116_17 : decode method_8_code 17 = .ok (.iconst 0, 1) := by decide +kernel
theorem d_116_18 : decode method_8_code 18 = .ok (.ireturn, 1) := by decide +kernel
theorem d_117_0 : decode code 0 = .ok (.new 8, 3) := by decide +kernel
theorem d_117_3 : decode code 3 = .ok (.dup, 1) := by decide +kernel
theorem d_117_4 : decode code 4 = .ok (.invokespecial 36, 3) := by decide +kernel
theorem d_117_7 : decode code 7 = .ok (.astore_n 1, 1) := by decide +kernel
theorem d_117_8 : decode code 8 = .ok (.new 37, 3) := by decide +kernel
theorem d_117_11 : decode code 11 = .ok (.dup, 1) := by decide +kernel
theorem d_117_12 : decode code 12 = .ok (.invokespecial 39, 3) := by decide +kernel
theorem d_117_15 : decode code 15 = .ok (.astore_n 2, 1) := by decide +kernel
theorem d_117_16 : decode code 16 = .ok (.iconst 1, 1) := by decide +kernel
theorem d_117_17 : decode code 17 = .ok (.newarray .long, 2) := by decide +kernel
theorem d_117_19 : decode code 19 = .ok (.astore_n 3, 1) := by decide +kernel
theorem d_117_20 : decode code 20 = .ok (.iconst 0, 1) := by decide +kernel
theorem d_117_21 : decode code 21 = .ok (.istore 4, 2) := by decide +kernel
theorem d_117_23 : decode code 23 = .ok (.iload 4, 2) := by decide +kernel
theorem d_117_25 : decode code 25 = .ok (.aload_n 0, 1) := by decide +kernel
theorem d_117_26 : decode code 26 = .ok (.arraylength, 1) := by decide +kernel
theorem d_117_27 : decode code 27 = .ok (.iconst 3, 1) := by decide +kernel
theorem d_117_28 : decode code 28 = .ok (.isub, 1) := by decide +kernel
theorem d_117_29 : decode code 29 = .ok (.if_icmp .gt 657, 3) := by decide +kernel
theorem d_117_32 : decode code 32 = .ok (.aload_n 0, 1) := by decide +kernel
theorem d_117_33 : decode code 33 = .ok (.iload 4, 2) := by decide +kernel
theorem d_117_35 : decode code 35 = .ok (.iaload, 1) := by decide +kernel
theorem d_117_36 : decode code 36 = .ok (.bipush 15, 2) := by decide +kernel
theorem d_117_38 : decode code 38 = .ok (.iand, 1) := by decide +kernel
theorem d_117_39 : decode code 39 = .ok (.tableswitch 641 0 13 #[69, 126, 139, 175, 231, 244, 257, 282, 350, 418, 486, 554, 591, 616], 69) := by decide +kernel
theorem d_117_108 : decode code 108 = .ok (.aload_n 1, 1) := by decide +kernel
theorem d_117_109 : decode code 109 = .ok (.aload_n 0, 1) := by decide +kernel
theorem d_117_110 : decode code 110 = .ok (.iload 4, 2) := by decide +kernel
theorem d_117_112 : decode code 112 = .ok (.iconst 1, 1) := by decide +kernel
theorem d_117_113 : decode code 113 = .ok (.iadd, 1) := by decide +kernel
theorem d_117_114 : decode code 114 = .ok (.iaload, 1) := by decide +kernel
theorem d_117_115 : decode code 115 = .ok (.i2l, 1) := by decide +kernel
theorem d_117_116 : decode code 116 = .ok (.bipush 32, 2) := by decide +kernel
theorem d_117_118 : decode code 118 = .ok (.lshl, 1) := by decide +kernel
theorem d_117_119 : decode code 119 = .ok (.aload_n 0, 1) := by decide +kernel
theorem d_117_120 : decode code 120 = .ok (.iload 4, 2) := by decide +kernel
theorem d_117_122 : decode code 122 = .ok (.iconst 2, 1) := by decide +kernel
theorem d_117_123 : decode code 123 = .ok (.iadd, 1) := by decide +kernel
theorem d_117_124 : decode code 124 = .ok (.iaload, 1) := by decide +kernel
theorem d_117_125 : decode code 125 = .ok (.i2l, 1) := by decide +kernel
theorem d_117_126 : decode code 126 = .ok (.ldc2_w 40, 3) := by decide +kernel
theorem d_117_129 : decode code 129 = .ok (.land, 1) := by decide +kernel
theorem d_117_130 : decode code 130 = .ok (.lor, 1) := by decide +kernel
theorem d_117_131 : decode code 131 = .ok (.invokevirtual 42, 3) := by decide +kernel
theorem d_117_134 : decode code 134 = .ok (.aload_n 2, 1) := by decide +kernel
theorem d_117_135 : decode code 135 = .ok (.aload_n 0, 1) := by decide +kernel
theorem d_117_136 : decode code 136 = .ok (.iload 4, 2) := by decide +kernel
theorem d_117_138 : decode code 138 = .ok (.iconst 1, 1) := by decide +kernel
theorem d_117_139 : decode code 139 = .ok (.iadd, 1) := by decide +kernel
theorem d_117_140 : decode code 140 = .ok (.iaload, 1) := by decide +kernel
theorem d_117_141 : decode code 141 = .ok (.i2l, 1) := by decide +kernel
theorem d_117_142 : decode code 142 = .ok (.bipush 32, 2) := by decide +kernel
theorem d_117_144 : decode code 144 = .ok (.lshl, 1) := by decide +kernel
theorem d_117_145 : decode code 145 = .ok (.aload_n 0, 1) := by decide +kernel
theorem d_117_146 : decode code 146 = .ok (.iload 4, 2) := by decide +kernel
theorem d_117_148 : decode code 148 = .ok (.iconst 2, 1) := by decide +kernel
theorem d_117_149 : decode code 149 = .ok (.iadd, 1) := by decide +kernel
theorem d_117_150 : decode code 150 = .ok (.iaload, 1) := by decide +kernel
theorem d_117_151 : decode code 151 = .ok (.i2l, 1) := by decide +kernel
theorem d_117_152 : decode code 152 = .ok (.ldc2_w 40, 3) := by decide +kernel
theorem d_117_155 : decode code 155 = .ok (.land, 1) := by decide +kernel
theorem d_117_156 : decode code 156 = .ok (.lor, 1) := by decide +kernel
theorem d_117_157 : decode code 157 = .ok (.invokevirtual 46, 3) := by decide +kernel
theorem d_117_160 : decode code 160 = .ok (.if_icmp .eq 520, 3) := by decide +kernel
theorem d_117_163 : decode code 163 = .ok (.iconst 0, 1) := by decide +kernel
theorem d_117_164 : decode code 164 = .ok (.ireturn, 1) := by decide +kernel
theorem d_117_165 : decode code 165 = .ok (.aload_n 1, 1) := by decide +kernel
theorem d_117_166 : decode code 166 = .ok (.invokevirtual 47, 3) := by decide +kernel
theorem d_117_169 : decode code 169 = .ok (.aload_n 2, 1) := by decide +kernel
theorem d_117_170 : decode code 170 = .ok (.invokevirtual 51, 3) := by decide +kernel
theorem d_117_173 : decode code 173 = .ok (.if_icmp .eq 507, 3) := by decide +kernel
theorem d_117_176 : decode code 176 = .ok (.iconst 0, 1) := by decide +kernel
theorem d_117_177 : decode code 177 = .ok (.ireturn, 1) := by decide +kernel
theorem d_117_178 : decode code 178 = .ok (.aload_n 1, 1) := by decide +kernel
theorem d_117_179 : decode code 179 = .ok (.aload_n 0, 1) := by decide +kernel
theorem d_117_180 : decode code 180 = .ok (.iload 4, 2) := by decide +kernel
theorem d_117_182 : decode code 182 = .ok (.iconst 1, 1) := by decide +kernel
theorem d_117_183 : decode code 183 = .ok (.iadd, 1) := by decide +kernel
theorem d_117_184 : decode code 184 = .ok (.iaload, 1) := by decide +kernel
theorem d_117_185 : decode code 185 = .ok (.invokestatic 52, 3) := by decide +kernel
theorem d_117_188 : decode code 188 = .ok (.istore 5, 2) := by decide +kernel
theorem d_117_190 : decode code 190 = .ok (.aload_n 2, 1) := by decide +kernel
theorem d_117_191 : decode code 191 = .ok (.aload_n 0, 1) := by decide +kernel
theorem d_117_192 : decode code 192 = .ok (.iload 4, 2) := by decide +kernel
theorem d_117_194 : decode code 194 = .ok (.iconst 1, 1) := by decide +kernel
theorem d_117_195 : decode code 195 = .ok (.iadd, 1) := by decide +kernel
theorem d_117_196 : decode code 196 = .ok (.iaload, 1) := by decide +kernel
theorem d_117_197 : decode code 197 = .ok (.invokevirtual 57, 3) := by decide +kernel
theorem d_117_200 : decode code 200 = .ok (.aload_n 2, 1) := by decide +kernel
theorem d_117_201 : decode code 201 = .ok (.invokevirtual 58, 3) := by decide +kernel
theorem d_117_204 : decode code 204 = .ok (.iload 5, 2) := by decide +kernel
theorem d_117_206 : decode code 206 = .ok (.if_icmp .eq 5, 3) := by decide +kernel
theorem d_117_209 : decode code 209 = .ok (.iconst 0, 1) := by decide +kernel
theorem d_117_210 : decode code 210 = .ok (.ireturn, 1) := by decide +kernel
theorem d_117_211 : decode code 211 = .ok (.goto 469, 3) := by decide +kernel
theorem d_117_214 : decode code 214 = .ok (.aload_n 1, 1) := by decide +kernel
theorem d_117_215 : decode code 215 = .ok (.aload_n 0, 1) := by decide +kernel
theorem d_117_216 : decode code 216 = .ok (.iload 4, 2) := by decide +kernel
theorem d_117_218 : decode code 218 = .ok (.iconst 1, 1) := by decide +kernel
theorem d_117_219 : decode code 219 = .ok (.iadd, 1) := by decide +kernel
theorem d_117_220 : decode code 220 = .ok (.iaload, 1) := by decide +kernel
theorem d_117_221 : decode code 221 = .ok (.aload_n 3, 1) := by decide +kernel
theorem d_117_222 : decode code 222 = .ok (.invokestatic 61, 3) := by decide +kernel
theorem d_117_225 : decode code 225 = .ok (.istore 5, 2) := by decide +kernel
theorem d_117_227 : decode code 227 = .ok (.aload_n 2, 1) := by decide +kernel
theorem d_117_228 : decode code 228 = .ok (.aload_n 0, 1) := by decide +kernel
theorem d_117_229 : decode code 229 = .ok (.iload 4, 2) := by decide +kernel
theorem d_117_231 : decode code 231 = .ok (.iconst 1, 1) := by decide +kernel
theorem d_117_232 : decode code 232 = .ok (.iadd, 1) := by decide +kernel
theorem d_117_233 : decode code 233 = .ok (.iaload, 1) := by decide +kernel
theorem d_117_234 : decode code 234 = .ok (.invokevirtual 64, 3) := by decide +kernel
theorem d_117_237 : decode code 237 = .ok (.istore 6, 2) := by decide +kernel
theorem d_117_239 : decode code 239 = .ok (.aload_n 2, 1) := by decide +kernel
theorem d_117_240 : decode code 240 = .ok (.invokevirtual 58, 3) := by decide +kernel
theorem d_117_243 : decode code 243 = .ok (.iload 5, 2) := by decide +kernel
theorem d_117_245 : decode code 245 = .ok (.if_icmp .eq 5, 3) := by decide +kernel
theorem d_117_248 : decode code 248 = .ok (.iconst 0, 1) := by decide +kernel
theorem d_117_249 : decode code 249 = .ok (.ireturn, 1) := by decide +kernel
theorem d_117_250 : decode code 250 = .ok (.iload 5, 2) := by decide +kernel
theorem d_117_252 : decode code 252 = .ok (.ifCond .ne 15, 3) := by decide +kernel
theorem d_117_255 : decode code 255 = .ok (.aload_n 3, 1) := by decide +kernel
theorem d_117_256 : decode code 256 = .ok (.iconst 0, 1) := by decide +kernel
theorem d_117_257 : decode code 257 = .ok (.laload, 1) := by decide +kernel
theorem d_117_258 : decode code 258 = .ok (.iload 6, 2) := by decide +kernel
theorem d_117_260 : decode code 260 = .ok (.i2l, 1) := by decide +kernel
theorem d_117_261 : decode code 261 = .ok (.lcmp, 1) := by decide +kernel
theorem d_117_262 : decode code 262 = .ok (.ifCond .eq 5, 3) := by decide +kernel
theorem d_117_265 : decode code 265 = .ok (.iconst 0, 1) := by decide +kernel
theorem d_117_266 : decode code 266 = .ok (.ireturn, 1) := by decide +kernel
theorem d_117_267 : decode code 267 = .ok (.goto 413, 3) := by decide +kernel
theorem d_117_270 : decode code 270 = .ok (.aload_n 1, 1) := by decide +kernel
theorem d_117_271 : decode code 271 = .ok (.invokevirtual 65, 3) := by decide +kernel
theorem d_117_274 : decode code 274 = .ok (.aload_n 2, 1) := by decide +kernel
theorem d_117_275 : decode code 275 = .ok (.invokevirtual 68, 3) := by decide +kernel
theorem d_117_278 : decode code 278 = .ok (.if_icmp .eq 402, 3) := by decide +kernel
theorem d_117_281 : decode code 281 = .ok (.iconst 0, 1) := by decide +kernel
theorem d_117_282 : decode code 282 = .ok (.ireturn, 1) := by decide +kernel
theorem d_117_283 : decode code 283 = .ok (.aload_n 1, 1) := by decide +kernel
theorem d_117_284 : decode code 284 = .ok (.invokevirtual 69, 3) := by decide +kernel
theorem d_117_287 : decode code 287 = .ok (.aload_n 2, 1) := by decide +kernel
theorem d_117_288 : decode code 288 = .ok (.invokevirtual 72, 3) := by decide +kernel
theorem d_117_291 : decode code 291 = .ok (.if_icmp .eq 389, 3) := by decide +kernel
theorem d_117_294 : decode code 294 = .ok (.iconst 0, 1) := by decide +kernel
theorem d_117_295 : decode code 295 = .ok (.ireturn, 1) := by decide +kernel
theorem d_117_296 : decode code 296 = .ok (.aload_n 1, 1) := by decide +kernel
theorem d_117_297 : decode code 297 = .ok (.aload_n 0, 1) := by decide +kernel
theorem d_117_298 : decode code 298 = .ok (.iload 4, 2) := by decide +kernel
theorem d_117_300 : decode code 300 = .ok (.iconst 1, 1) := by decide +kernel
theorem d_117_301 : decode code 301 = .ok (.iadd, 1) := by decide +kernel
theorem d_117_302 : decode code 302 = .ok (.iaload, 1) := by decide +kernel
theorem d_117_303 : decode code 303 = .ok (.invokevirtual 73, 3) := by decide +kernel
theorem d_117_306 : decode code 306 = .ok (.aload_n 2, 1) := by decide +kernel
theorem d_117_307 : decode code 307 = .ok (.aload_n 0, 1) := by decide +kernel
theorem d_117_308 : decode code 308 = .ok (.iload 4, 2) := by decide +kernel
theorem d_117_310 : decode code 310 = .ok (.iconst 1, 1) := by decide +kernel
theorem d_117_311 : decode code 311 = .ok (.iadd, 1) := by decide +kernel
theorem d_117_312 : decode code 312 = .ok (.iaload, 1) := by decide +kernel
theorem d_117_313 : decode code 313 = .ok (.invokevirtual 76, 3) := by decide +kernel
theorem d_117_316 : decode code 316 = .ok (.if_icmp .eq 364, 3) := by decide +kernel
theorem d_117_319 : decode code 319 = .ok (.iconst 0, 1) := by decide +kernel
theorem d_117_320 : decode code 320 = .ok (.ireturn, 1) := by decide +kernel
theorem d_117_321 : decode code 321 = .ok (.aload_n 1, 1) := by decide +kernel
theorem d_117_322 : decode code 322 = .ok (.aload_n 0, 1) := by decide +kernel
theorem d_117_323 : decode code 323 = .ok (.iload 4, 2) := by decide +kernel
theorem d_117_325 : decode code 325 = .ok (.iconst 1, 1) := by decide +kernel
theorem d_117_326 : decode code 326 = .ok (.iadd, 1) := by decide +kernel
theorem d_117_327 : decode code 327 = .ok (.iaload, 1) := by decide +kernel
theorem d_117_328 : decode code 328 = .ok (.aload_n 0, 1) := by decide +kernel
theorem d_117_329 : decode code 329 = .ok (.iload 4, 2) := by decide +kernel
theorem d_117_331 : decode code 331 = .ok (.iconst 2, 1) := by decide +kernel
theorem d_117_332 : decode code 332 = .ok (.iadd, 1) := by decide +kernel
theorem d_117_333 : decode code 333 = .ok (.iaload, 1) := by decide +kernel
theorem d_117_334 : decode code 334 = .ok (.aload_n 3, 1) := by decide +kernel
theorem d_117_335 : decode code 335 = .ok (.invokestatic 77, 3) := by decide +kernel
theorem d_117_338 : decode code 338 = .ok (.istore 5, 2) := by decide +kernel
theorem d_117_340 : decode code 340 = .ok (.aload_n 2, 1) := by decide +kernel
theorem d_117_341 : decode code 341 = .ok (.aload_n 0, 1) := by decide +kernel
theorem d_117_342 : decode code 342 = .ok (.iload 4, 2) := by decide +kernel
theorem d_117_344 : decode code 344 = .ok (.iconst 1, 1) := by decide +kernel
theorem d_117_345 : decode code 345 = .ok (.iadd, 1) := by decide +kernel
theorem d_117_346 : decode code 346 = .ok (.iaload, 1) := by decide +kernel
theorem d_117_347 : decode code 347 = .ok (.aload_n 0, 1) := by decide +kernel
theorem d_117_348 : decode code 348 = .ok (.iload 4, 2) := by decide +kernel
theorem d_117_350 : decode code 350 = .ok (.iconst 2, 1) := by decide +kernel
theorem d_117_351 : decode code 351 = .ok (.iadd, 1) := by decide +kernel
theorem d_117_352 : decode code 352 = .ok (.iaload, 1) := by decide +kernel
theorem d_117_353 : decode code 353 = .ok (.invokevirtual 80, 3) := by decide +kernel
theorem d_117_356 : decode code 356 = .ok (.istore 6, 2) := by decide +kernel
theorem d_117_358 : decode code 358 = .ok (.aload_n 2, 1) := by decide +kernel
theorem d_117_359 : decode code 359 = .ok (.invokevirtual 58, 3) := by decide +kernel
theorem d_117_362 : decode code 362 = .ok (.iload 5, 2) := by decide +kernel
theorem d_117_364 : decode code 364 = .ok (.if_icmp .eq 5, 3) := by decide +kernel
theorem d_117_367 : decode code 367 = .ok (.iconst 0, 1) := by decide +kernel
theorem d_117_368 : decode code 368 = .ok (.ireturn, 1) := by decide +kernel
theorem d_117_369 : decode code 369 = .ok (.iload 5, 2) := by decide +kernel
theorem d_117_371 : decode code 371 = .ok (.ifCond .ne 15, 3) := by decide +kernel
theorem d_117_374 : decode code 374 = .ok (.aload_n 3, 1) := by decide +kernel
theorem d_117_375 : decode code 375 = .ok (.iconst 0, 1) := by decide +kernel
theorem d_117_376 : decode code 376 = .ok (.laload, 1) := by decide +kernel
theorem d_117_377 : decode code 377 = .ok (.iload 6, 2) := by decide +kernel
theorem d_117_379 : decode code 379 = .ok (.i2l, 1) := by decide +kernel
theorem d_117_380 : decode code 380 = .ok (.lcmp, 1) := by decide +kernel
theorem d_117_381 : decode code 381 = .ok (.ifCond .eq 5, 3) := by decide +kernel
theorem d_117_384 : decode code 384 = .ok (.iconst 0, 1) := by decide +kernel
theorem d_117_385 : decode code 385 = .ok (.ireturn, 1) := by decide +kernel
theorem d_117_386 : decode code 386 = .ok (.goto 294, 3) := by decide +kernel
theorem d_117_389 : decode code 389 = .ok (.aload_n 1, 1) := by decide +kernel
theorem d_117_390 : decode code 390 = .ok (.aload_n 0, 1) := by decide +kernel
theorem d_117_391 : decode code 391 = .ok (.iload 4, 2) := by decide +kernel
theorem d_117_393 : decode code 393 = .ok (.iconst 1, 1) := by decide +kernel
theorem d_117_394 : decode code 394 = .ok (.iadd, 1) := by decide +kernel
theorem d_117_395 : decode code 395 = .ok (.iaload, 1) := by decide +kernel
theorem d_117_396 : decode code 396 = .ok (.aload_n 0, 1) := by decide +kernel
theorem d_117_397 : decode code 397 = .ok (.iload 4, 2) := by decide +kernel
theorem d_117_399 : decode code 399 = .ok (.iconst 2, 1) := by decide +kernel
theorem d_117_400 : decode code 400 = .ok (.iadd, 1) := by decide +kernel
theorem d_117_401 : decode code 401 = .ok (.iaload, 1) := by decide +kernel
theorem d_117_402 : decode code 402 = .ok (.aload_n 3, 1) := by decide +kernel
theorem d_117_403 : decode code 403 = .ok (.invokestatic 81, 3) := by decide +kernel
theorem d_117_406 : decode code 406 = .ok (.istore 5, 2) := by decide +kernel
theorem d_117_408 : decode code 408 = .ok (.aload_n 2, 1) := by decide +kernel
theorem d_117_409 : decode code 409 = .ok (.aload_n 0, 1) := by decide +kernel
theorem d_117_410 : decode code 410 = .ok (.iload 4, 2) := by decide +kernel
theorem d_117_412 : decode code 412 = .ok (.iconst 1, 1) := by decide +kernel
theorem d_117_413 : decode code 413 = .ok (.iadd, 1) := by decide +kernel
theorem d_117_414 : decode code 414 = .ok (.iaload, 1) := by decide +kernel
theorem d_117_415 : decode code 415 = .ok (.aload_n 0, 1) := by decide +kernel
theorem d_117_416 : decode code 416 = .ok (.iload 4, 2) := by decide +kernel
theorem d_117_418 : decode code 418 = .ok (.iconst 2, 1) := by decide +kernel
theorem d_117_419 : decode code 419 = .ok (.iadd, 1) := by decide +kernel
theorem d_117_420 : decode code 420 = .ok (.iaload, 1) := by decide +kernel
theorem d_117_421 : decode code 421 = .ok (.invokevirtual 83, 3) := by decide +kernel
theorem d_117_424 : decode code 424 = .ok (.istore 6, 2) := by decide +kernel
theorem d_117_426 : decode code 426 = .ok (.aload_n 2, 1) := by decide +kernel
theorem d_117_427 : decode code 427 = .ok (.invokevirtual 58, 3) := by decide +kernel
theorem d_117_430 : decode code 430 = .ok (.iload 5, 2) := by decide +kernel
theorem d_117_432 : decode code 432 = .ok (.if_icmp .eq 5, 3) := by decide +kernel
theorem d_117_435 : decode code 435 = .ok (.iconst 0, 1) := by decide +kernel
theorem d_117_436 : decode code 436 = .ok (.ireturn, 1) := by decide +kernel
theorem d_117_437 : decode code 437 = .ok (.iload 5, 2) := by decide +kernel
theorem d_117_439 : decode code 439 = .ok (.ifCond .ne 15, 3) := by decide +kernel
theorem d_117_442 : decode code 442 = .ok (.aload_n 3, 1) := by decide +kernel
theorem d_117_443 : decode code 443 = .ok (.iconst 0, 1) := by decide +kernel
theorem d_117_444 : decode code 444 = .ok (.laload, 1) := by decide +kernel
theorem d_117_445 : decode code 445 = .ok (.iload 6, 2) := by decide +kernel
theorem d_117_447 : decode code 447 = .ok (.i2l, 1) := by decide +kernel
theorem d_117_448 : decode code 448 = .ok (.lcmp, 1) := by decide +kernel
theorem d_117_449 : decode code 449 = .ok (.ifCond .eq 5, 3) := by decide +kernel
theorem d_117_452 : decode code 452 = .ok (.iconst 0, 1) := by decide +kernel
theorem d_117_453 : decode code 453 = .ok (.ireturn, 1) := by decide +kernel
theorem d_117_454 : decode code 454 = .ok (.goto 226, 3) := by decide +kernel
theorem d_117_457 : decode code 457 = .ok (.aload_n 1, 1) := by decide +kernel
theorem d_117_458 : decode code 458 = .ok (.aload_n 0, 1) := by decide +kernel
theorem d_117_459 : decode code 459 = .ok (.iload 4, 2) := by decide +kernel
theorem d_117_461 : decode code 461 = .ok (.iconst 1, 1) := by decide +kernel
theorem d_117_462 : decode code 462 = .ok (.iadd, 1) := by decide +kernel
theorem d_117_463 : decode code 463 = .ok (.iaload, 1) := by decide +kernel
theorem d_117_464 : decode code 464 = .ok (.aload_n 0, 1) := by decide +kernel
theorem d_117_465 : decode code 465 = .ok (.iload 4, 2) := by decide +kernel
theorem d_117_467 : decode code 467 = .ok (.iconst 2, 1) := by decide +kernel
theorem d_117_468 : decode code 468 = .ok (.iadd, 1) := by decide +kernel
theorem d_117_469 : decode code 469 = .ok (.iaload, 1) := by decide +kernel
theorem d_117_470 : decode code 470 = .ok (.aload_n 3, 1) := by decide +kernel
theorem d_117_471 : decode code 471 = .ok (.invokestatic 84, 3) := by decide +kernel
theorem d_117_474 : decode code 474 = .ok (.istore 5, 2) := by decide +kernel
theorem d_117_476 : decode code 476 = .ok (.aload_n 2, 1) := by decide +kernel
theorem d_117_477 : decode code 477 = .ok (.aload_n 0, 1) := by decide +kernel
theorem d_117_478 : decode code 478 = .ok (.iload 4, 2) := by decide +kernel
theorem d_117_480 : decode code 480 = .ok (.iconst 1, 1) := by decide +kernel
theorem d_117_481 : decode code 481 = .ok (.iadd, 1) := by decide +kernel
theorem d_117_482 : decode code 482 = .ok (.iaload, 1) := by decide +kernel
theorem d_117_483 : decode code 483 = .ok (.aload_n 0, 1) := by decide +kernel
theorem d_117_484 : decode code 484 = .ok (.iload 4, 2) := by decide +kernel
theorem d_117_486 : decode code 486 = .ok (.iconst 2, 1) := by decide +kernel
theorem d_117_487 : decode code 487 = .ok (.iadd, 1) := by decide +kernel
theorem d_117_488 : decode code 488 = .ok (.iaload, 1) := by decide +kernel
theorem d_117_489 : decode code 489 = .ok (.invokevirtual 86, 3) := by decide +kernel
theorem d_117_492 : decode code 492 = .ok (.istore 6, 2) := by decide +kernel
theorem d_117_494 : decode code 494 = .ok (.aload_n 2, 1) := by decide +kernel
theorem d_117_495 : decode code 495 = .ok (.invokevirtual 58, 3) := by decide +kernel
theorem d_117_498 : decode code 498 = .ok (.iload 5, 2) := by decide +kernel
theorem d_117_500 : decode code 500 = .ok (.if_icmp .eq 5, 3) := by decide +kernel
theorem d_117_503 : decode code 503 = .ok (.iconst 0, 1) := by decide +kernel
theorem d_117_504 : decode code 504 = .ok (.ireturn, 1) := by decide +kernel
theorem d_117_505 : decode code 505 = .ok (.iload 5, 2) := by decide +kernel
theorem d_117_507 : decode code 507 = .ok (.ifCond .ne 15, 3) := by decide +kernel
theorem d_117_510 : decode code 510 = .ok (.aload_n 3, 1) := by decide +kernel
theorem d_117_511 : decode code 511 = .ok (.iconst 0, 1) := by decide +kernel
theorem d_117_512 : decode code 512 = .ok (.laload, 1) := by decide +kernel
theorem d_117_513 : decode code 513 = .ok (.iload 6, 2) := by decide +kernel
theorem d_117_515 : decode code 515 = .ok (.i2l, 1) := by decide +kernel
theorem d_117_516 : decode code 516 = .ok (.lcmp, 1) := by decide +kernel
theorem d_117_517 : decode code 517 = .ok (.ifCond .eq 5, 3) := by decide +kernel
theorem d_117_520 : decode code 520 = .ok (.iconst 0, 1) := by decide +kernel
theorem d_117_521 : decode code 521 = .ok (.ireturn, 1) := by decide +kernel
theorem d_117_522 : decode code 522 = .ok (.goto 158, 3) := by decide +kernel
theorem d_117_525 : decode code 525 = .ok (.aload_n 1, 1) := by decide +kernel
theorem d_117_526 : decode code 526 = .ok (.aload_n 0, 1) := by decide +kernel
theorem d_117_527 : decode code 527 = .ok (.iload 4, 2) := by decide +kernel
theorem d_117_529 : decode code 529 = .ok (.iconst 1, 1) := by decide +kernel
theorem d_117_530 : decode code 530 = .ok (.iadd, 1) := by decide +kernel
theorem d_117_531 : decode code 531 = .ok (.iaload, 1) := by decide +kernel
theorem d_117_532 : decode code 532 = .ok (.aload_n 0, 1) := by decide +kernel
theorem d_117_533 : decode code 533 = .ok (.iload 4, 2) := by decide +kernel
theorem d_117_535 : decode code 535 = .ok (.iconst 2, 1) := by decide +kernel
theorem d_117_536 : decode code 536 = .ok (.iadd, 1) := by decide +kernel
theorem d_117_537 : decode code 537 = .ok (.iaload, 1) := by decide +kernel
theorem d_117_538 : decode code 538 = .ok (.aload_n 3, 1) := by decide +kernel
theorem d_117_539 : decode code 539 = .ok (.invokestatic 87, 3) := by decide +kernel
theorem d_117_542 : decode code 542 = .ok (.istore 5, 2) := by decide +kernel
theorem d_117_544 : decode code 544 = .ok (.aload_n 2, 1) := by decide +kernel
theorem d_117_545 : decode code 545 = .ok (.aload_n 0, 1) := by decide +kernel
theorem d_117_546 : decode code 546 = .ok (.iload 4, 2) := by decide +kernel
theorem d_117_548 : decode code 548 = .ok (.iconst 1, 1) := by decide +kernel
theorem d_117_549 : decode code 549 = .ok (.iadd, 1) := by decide +kernel
theorem d_117_550 : decode code 550 = .ok (.iaload, 1) := by decide +kernel
theorem d_117_551 : decode code 551 = .ok (.aload_n 0, 1) := by decide +kernel
theorem d_117_552 : decode code 552 = .ok (.iload 4, 2) := by decide +kernel
theorem d_117_554 : decode code 554 = .ok (.iconst 2, 1) := by decide +kernel
theorem d_117_555 : decode code 555 = .ok (.iadd, 1) := by decide +kernel
theorem d_117_556 : decode code 556 = .ok (.iaload, 1) := by decide +kernel
theorem d_117_557 : decode code 557 = .ok (.invokevirtual 89, 3) := by decide +kernel
theorem d_117_560 : decode code 560 = .ok (.istore 6, 2) := by decide +kernel
theorem d_117_562 : decode code 562 = .ok (.aload_n 2, 1) := by decide +kernel
theorem d_117_563 : decode code 563 = .ok (.invokevirtual 58, 3) := by decide +kernel
theorem d_117_566 : decode code 566 = .ok (.iload 5, 2) := by decide +kernel
theorem d_117_568 : decode code 568 = .ok (.if_icmp .eq 5, 3) := by decide +kernel
theorem d_117_571 : decode code 571 = .ok (.iconst 0, 1) := by decide +kernel
theorem d_117_572 : decode code 572 = .ok (.ireturn, 1) := by decide +kernel
theorem d_117_573 : decode code 573 = .ok (.iload 5, 2) := by decide +kernel
theorem d_117_575 : decode code 575 = .ok (.ifCond .ne 15, 3) := by decide +kernel
theorem d_117_578 : decode code 578 = .ok (.aload_n 3, 1) := by decide +kernel
theorem d_117_579 : decode code 579 = .ok (.iconst 0, 1) := by decide +kernel
theorem d_117_580 : decode code 580 = .ok (.laload, 1) := by decide +kernel
theorem d_117_581 : decode code 581 = .ok (.iload 6, 2) := by decide +kernel
theorem d_117_583 : decode code 583 = .ok (.i2l, 1) := by decide +kernel
theorem d_117_584 : decode code 584 = .ok (.lcmp, 1) := by decide +kernel
theorem d_117_585 : decode code 585 = .ok (.ifCond .eq 5, 3) := by decide +kernel
theorem d_117_588 : decode code 588 = .ok (.iconst 0, 1) := by decide +kernel
theorem d_117_589 : decode code 589 = .ok (.ireturn, 1) := by decide +kernel
theorem d_117_590 : decode code 590 = .ok (.goto 90, 3) := by decide +kernel
theorem d_117_593 : decode code 593 = .ok (.aload_n 1, 1) := by decide +kernel
theorem d_117_594 : decode code 594 = .ok (.aload_n 0, 1) := by decide +kernel
theorem d_117_595 : decode code 595 = .ok (.iload 4, 2) := by decide +kernel
theorem d_117_597 : decode code 597 = .ok (.iconst 1, 1) := by decide +kernel
theorem d_117_598 : decode code 598 = .ok (.iadd, 1) := by decide +kernel
theorem d_117_599 : decode code 599 = .ok (.iaload, 1) := by decide +kernel
theorem d_117_600 : decode code 600 = .ok (.aload_n 0, 1) := by decide +kernel
theorem d_117_601 : decode code 601 = .ok (.iload 4, 2) := by decide +kernel
theorem d_117_603 : decode code 603 = .ok (.iconst 2, 1) := by decide +kernel
theorem d_117_604 : decode code 604 = .ok (.iadd, 1) := by decide +kernel
theorem d_117_605 : decode code 605 = .ok (.iaload, 1) := by decide +kernel
theorem d_117_606 : decode code 606 = .ok (.invokevirtual 90, 3) := by decide +kernel
theorem d_117_609 : decode code 609 = .ok (.aload_n 2, 1) := by decide +kernel
theorem d_117_610 : decode code 610 = .ok (.aload_n 0, 1) := by decide +kernel
theorem d_117_611 : decode code 611 = .ok (.iload 4, 2) := by decide +kernel
theorem d_117_613 : decode code 613 = .ok (.iconst 1, 1) := by decide +kernel
theorem d_117_614 : decode code 614 = .ok (.iadd, 1) := by decide +kernel
theorem d_117_615 : decode code 615 = .ok (.iaload, 1) := by decide +kernel
theorem d_117_616 : decode code 616 = .ok (.aload_n 0, 1) := by decide +kernel
theorem d_117_617 : decode code 617 = .ok (.iload 4, 2) := by decide +kernel
theorem d_117_619 : decode code 619 = .ok (.iconst 2, 1) := by decide +kernel
theorem d_117_620 : decode code 620 = .ok (.iadd, 1) := by decide +kernel
theorem d_117_621 : decode code 621 = .ok (.iaload, 1) := by decide +kernel
theorem d_117_622 : decode code 622 = .ok (.invokevirtual 93, 3) := by decide +kernel
theorem d_117_625 : decode code 625 = .ok (.if_icmp .eq 55, 3) := by decide +kernel
theorem d_117_628 : decode code 628 = .ok (.iconst 0, 1) := by decide +kernel
theorem d_117_629 : decode code 629 = .ok (.ireturn, 1) := by decide +kernel
theorem d_117_630 : decode code 630 = .ok (.aload_n 1, 1) := by decide +kernel
theorem d_117_631 : decode code 631 = .ok (.aload_n 0, 1) := by decide +kernel
theorem d_117_632 : decode code 632 = .ok (.iload 4, 2) := by decide +kernel
theorem d_117_634 : decode code 634 = .ok (.iconst 1, 1) := by decide +kernel
theorem d_117_635 : decode code 635 = .ok (.iadd, 1) := by decide +kernel
theorem d_117_636 : decode code 636 = .ok (.iaload, 1) := by decide +kernel
theorem d_117_637 : decode code 637 = .ok (.invokevirtual 94, 3) := by decide +kernel
theorem d_117_640 : decode code 640 = .ok (.aload_n 2, 1) := by decide +kernel
theorem d_117_641 : decode code 641 = .ok (.aload_n 0, 1) := by decide +kernel
theorem d_117_642 : decode code 642 = .ok (.iload 4, 2) := by decide +kernel
theorem d_117_644 : decode code 644 = .ok (.iconst 1, 1) := by decide +kernel
theorem d_117_645 : decode code 645 = .ok (.iadd, 1) := by decide +kernel
theorem d_117_646 : decode code 646 = .ok (.iaload, 1) := by decide +kernel
theorem d_117_647 : decode code 647 = .ok (.invokevirtual 97, 3) := by decide +kernel
theorem d_117_650 : decode code 650 = .ok (.if_icmp .eq 30, 3) := by decide +kernel
theorem d_117_653 : decode code 653 = .ok (.iconst 0, 1) := by decide +kernel
theorem d_117_654 : decode code 654 = .ok (.ireturn, 1) := by decide +kernel
theorem d_117_655 : decode code 655 = .ok (.aload_n 1, 1) := by decide +kernel
theorem d_117_656 : decode code 656 = .ok (.aload_n 0, 1) := by decide +kernel
theorem d_117_657 : decode code 657 = .ok (.iload 4, 2) := by decide +kernel
theorem d_117_659 : decode code 659 = .ok (.iconst 1, 1) := by decide +kernel
theorem d_117_660 : decode code 660 = .ok (.iadd, 1) := by decide +kernel
theorem d_117_661 : decode code 661 = .ok (.iaload, 1) := by decide +kernel
theorem d_117_662 : decode code 662 = .ok (.invokevirtual 98, 3) := by decide +kernel
theorem d_117_665 : decode code 665 = .ok (.aload_n 2, 1) := by decide +kernel
theorem d_117_666 : decode code 666 = .ok (.aload_n 0, 1) := by decide +kernel
theorem d_117_667 : decode code 667 = .ok (.iload 4, 2) := by decide +kernel
theorem d_117_669 : decode code 669 = .ok (.iconst 1, 1) := by decide +kernel
theorem d_117_670 : decode code 670 = .ok (.iadd, 1) := by decide +kernel
theorem d_117_671 : decode code 671 = .ok (.iaload, 1) := by decide +kernel
theorem d_117_672 : decode code 672 = .ok (.invokevirtual 101, 3) := by decide +kernel
theorem d_117_675 : decode code 675 = .ok (.if_icmp .eq 5, 3) := by decide +kernel
theorem d_117_678 : decode code 678 = .ok (.iconst 0, 1) := by decide +kernel
theorem d_117_679 : decode code 679 = .ok (.ireturn, 1) := by decide +kernel
theorem d_117_680 : decode code 680 = .ok (.iinc 4 3, 3) := by decide +kernel
theorem d_117_683 : decode code 683 = .ok (.goto (-660), 3) := by decide +kernel
theorem d_117_686 : decode code 686 = .ok (.iconst 1, 1) := by decide +kernel
theorem d_117_687 : decode code 687 = .ok (.ireturn, 1) := by decide +kernel
