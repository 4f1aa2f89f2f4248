theorem d_69_0 : decode prog_10_method_1_code 0 = .ok (.aload_n 0, 1) := by decide +kernel
theorem d_69_1 : decode prog_10_method_1_code 1 = .ok (.invokespecial 1, 3) := by decide +kernel
theorem d_69_4 : decode prog_10_method_1_code 4 = .ok (.aload_n 0, 1) := by decide +kernel
theorem d_69_5 : decode prog_10_method_1_code 5 = .ok (.bipush 40, 2) := by decide +kernel
theorem d_69_7 : decode prog_10_method_1_code 7 = .ok (.newarray .int, 2) := by decide +kernel
theorem d_69_9 : decode prog_10_method_1_code 9 = .ok (.putfield 7, 3) := by decide +kernel
theorem d_69_12 : decode prog_10_method_1_code 12 = .ok (.aload_n 0, 1) := by decide +kernel
theorem d_69_13 : decode prog_10_method_1_code 13 = .ok (.iconst (-1), 1) := by decide +kernel
theorem d_69_14 : decode prog_10_method_1_code 14 = .ok (.putfield 13, 3) := by decide +kernel
theorem d_69_17 : decode prog_10_method_1_code 17 = .ok (.aload_n 0, 1) := by decide +kernel
theorem d_69_18 : decode prog_10_method_1_code 18 = .ok (.sipush 1344, 3) := by decide +kernel
theorem d_69_21 : decode prog_10_method_1_code 21 = .ok (.newarray .int, 2) := by decide +kernel
theorem d_69_23 : decode prog_10_method_1_code 23 = .ok (.putfield 17, 3) := by decide +kernel
theorem d_69_26 : decode prog_10_method_1_code 26 = .ok (.aload_n 0, 1) := by decide +kernel
theorem d_69_27 : decode prog_10_method_1_code 27 = .ok (.sipush 336, 3) := by decide +kernel
theorem d_69_30 : decode prog_10_method_1_code 30 = .ok (.newarray .int, 2) := by decide +kernel
theorem d_69_32 : decode prog_10_method_1_code 32 = .ok (.putfield 20, 3) := by decide +kernel
theorem d_69_35 : decode prog_10_method_1_code 35 = .ok (.aload_n 0, 1) := by decide +kernel
theorem d_69_36 : decode prog_10_method_1_code 36 = .ok (.sipush 336, 3) := by decide +kernel
theorem d_69_39 : decode prog_10_method_1_code 39 = .ok (.newarray .int, 2) := by decide +kernel
theorem d_69_41 : decode prog_10_method_1_code 41 = .ok (.putfield 23, 3) := by decide +kernel
theorem d_69_44 : decode prog_10_method_1_code 44 = .ok (.aload_n 0, 1) := by decide +kernel
theorem d_69_45 : decode prog_10_method_1_code 45 = .ok (.bipush 21, 2) := by decide +kernel
theorem d_69_47 : decode prog_10_method_1_code 47 = .ok (.newarray .int, 2) := by decide +kernel
theorem d_69_49 : decode prog_10_method_1_code 49 = .ok (.putfield 26, 3) := by decide +kernel
theorem d_69_52 : decode prog_10_method_1_code 52 = .ok (.aload_n 0, 1) := by decide +kernel
theorem d_69_53 : decode prog_10_method_1_code 53 = .ok (.bipush 21, 2) := by decide +kernel
theorem d_69_55 : decode prog_10_method_1_code 55 = .ok (.newarray .int, 2) := by decide +kernel
theorem d_69_57 : decode prog_10_method_1_code 57 = .ok (.putfield 29, 3) := by decide +kernel
theorem d_69_60 : decode prog_10_method_1_code 60 = .ok (.aload_n 0, 1) := by decide +kernel
theorem d_69_61 : decode prog_10_method_1_code 61 = .ok (.bipush 21, 2) := by decide +kernel
theorem d_69_63 : decode prog_10_method_1_code 63 = .ok (.newarray .int, 2) := by decide +kernel
theorem d_69_65 : decode prog_10_method_1_code 65 = .ok (.putfield 32, 3) := by decide +kernel
theorem d_69_68 : decode prog_10_method_1_code 68 = .ok (.aload_n 0, 1) := by decide +kernel
theorem d_69_69 : decode prog_10_method_1_code 69 = .ok (.bipush 63, 2) := by decide +kernel
theorem d_69_71 : decode prog_10_method_1_code 71 = .ok (.newarray .int, 2) := by decide +kernel
theorem d_69_73 : decode prog_10_method_1_code 73 = .ok (.putfield 35, 3) := by decide +kernel
theorem d_69_76 : decode prog_10_method_1_code 76 = .ok (.aload_n 0, 1) := by decide +kernel
theorem d_69_77 : decode prog_10_method_1_code 77 = .ok (.sipush 840, 3) := by decide +kernel
theorem d_69_80 : decode prog_10_method_1_code 80 = .ok (.newarray .int, 2) := by decide +kernel
theorem d_69_82 : decode prog_10_method_1_code 82 = .ok (.putfield 38, 3) := by decide +kernel
theorem d_69_85 : decode prog_10_method_1_code 85 = .ok (.aload_n 0, 1) := by decide +kernel
theorem d_69_86 : decode prog_10_method_1_code 86 = .ok (.bipush 21, 2) := by decide +kernel
theorem d_69_88 : decode prog_10_method_1_code 88 = .ok (.newarray .int, 2) := by decide +kernel
theorem d_69_90 : decode prog_10_method_1_code 90 = .ok (.putfield 41, 3) := by decide +kernel
theorem d_69_93 : decode prog_10_method_1_code 93 = .ok (.aload_n 0, 1) := by decide +kernel
theorem d_69_94 : decode prog_10_method_1_code 94 = .ok (.bipush 84, 2) := by decide +kernel
theorem d_69_96 : decode prog_10_method_1_code 96 = .ok (.newarray .int, 2) := by decide +kernel
theorem d_69_98 : decode prog_10_method_1_code 98 = .ok (.putfield 44, 3) := by decide +kernel
theorem d_69_101 : decode prog_10_method_1_code 101 = .ok (.aload_n 0, 1) := by decide +kernel
theorem d_69_102 : decode prog_10_method_1_code 102 = .ok (.sipush 1200, 3) := by decide +kernel
theorem d_69_105 : decode prog_10_method_1_code 105 = .ok (.newarray .int, 2) := by decide +kernel
theorem d_69_107 : decode prog_10_method_1_code 107 = .ok (.putfield 47, 3) := by decide +kernel
theorem d_69_110 : decode prog_10_method_1_code 110 = .ok (.aload_n 0, 1) := by decide +kernel
theorem d_69_111 : decode prog_10_method_1_code 111 = .ok (.sipush 300, 3) := by decide +kernel
theorem d_69_114 : decode prog_10_method_1_code 114 = .ok (.newarray .int, 2) := by decide +kernel
theorem d_69_116 : decode prog_10_method_1_code 116 = .ok (.putfield 50, 3) := by decide +kernel
theorem d_69_119 : decode prog_10_method_1_code 119 = .ok (.aload_n 0, 1) := by decide +kernel
theorem d_69_120 : decode prog_10_method_1_code 120 = .ok (.sipush 300, 3) := by decide +kernel
theorem d_69_123 : decode prog_10_method_1_code 123 = .ok (.newarray .int, 2) := by decide +kernel
theorem d_69_125 : decode prog_10_method_1_code 125 = .ok (.putfield 53, 3) := by decide +kernel
theorem d_69_128 : decode prog_10_method_1_code 128 = .ok (.aload_n 0, 1) := by decide +kernel
theorem d_69_129 : decode prog_10_method_1_code 129 = .ok (.sipush 300, 3) := by decide +kernel
theorem d_69_132 : decode prog_10_method_1_code 132 = .ok (.newarray .int, 2) := by decide +kernel
theorem d_69_134 : decode prog_10_method_1_code 134 = .ok (.putfield 56, 3) := by decide +kernel
theorem d_69_137 : decode prog_10_method_1_code 137 = .ok (.aload_n 0, 1) := by decide +kernel
theorem d_69_138 : decode prog_10_method_1_code 138 = .ok (.sipush 300, 3) := by decide +kernel
theorem d_69_141 : decode prog_10_method_1_code 141 = .ok (.newarray .int, 2) := by decide +kernel
theorem d_69_143 : decode prog_10_method_1_code 143 = .ok (.putfield 59, 3) := by decide +kernel
theorem d_69_146 : decode prog_10_method_1_code 146 = .ok (.aload_n 0, 1) := by decide +kernel
theorem d_69_147 : decode prog_10_method_1_code 147 = .ok (.sipush 300, 3) := by decide +kernel
theorem d_69_150 : decode prog_10_method_1_code 150 = .ok (.newarray .int, 2) := by decide +kernel
theorem d_69_152 : decode prog_10_method_1_code 152 = .ok (.putfield 62, 3) := by decide +kernel
theorem d_69_155 : decode prog_10_method_1_code 155 = .ok (.aload_n 0, 1) := by decide +kernel
theorem d_69_156 : decode prog_10_method_1_code 156 = .ok (.sipush 300, 3) := by decide +kernel
theorem d_69_159 : decode prog_10_method_1_code 159 = .ok (.newarray .int, 2) := by decide +kernel
theorem d_69_161 : decode prog_10_method_1_code 161 = .ok (.putfield 65, 3) := by decide +kernel
theorem d_69_164 : decode prog_10_method_1_code 164 = .ok (.aload_n 0, 1) := by decide +kernel
theorem d_69_165 : decode prog_10_method_1_code 165 = .ok (.bipush 40, 2) := by decide +kernel
theorem d_69_167 : decode prog_10_method_1_code 167 = .ok (.newarray .int, 2) := by decide +kernel
theorem d_69_169 : decode prog_10_method_1_code 169 = .ok (.putfield 68, 3) := by decide +kernel
theorem d_69_172 : decode prog_10_method_1_code 172 = .ok (.aload_n 0, 1) := by decide +kernel
theorem d_69_173 : decode prog_10_method_1_code 173 = .ok (.bipush 40, 2) := by decide +kernel
theorem d_69_175 : decode prog_10_method_1_code 175 = .ok (.newarray .int, 2) := by decide +kernel
theorem d_69_177 : decode prog_10_method_1_code 177 = .ok (.putfield 71, 3) := by decide +kernel
theorem d_69_180 : decode prog_10_method_1_code 180 = .ok (.aload_n 0, 1) := by decide +kernel
theorem d_69_181 : decode prog_10_method_1_code 181 = .ok (.bipush 40, 2) := by decide +kernel
theorem d_69_183 : decode prog_10_method_1_code 183 = .ok (.newarray .int, 2) := by decide +kernel
theorem d_69_185 : decode prog_10_method_1_code 185 = .ok (.putfield 74, 3) := by decide +kernel
theorem d_69_188 : decode prog_10_method_1_code 188 = .ok (.aload_n 0, 1) := by decide +kernel
theorem d_69_189 : decode prog_10_method_1_code 189 = .ok (.bipush 40, 2) := by decide +kernel
theorem d_69_191 : decode prog_10_method_1_code 191 = .ok (.newarray .int, 2) := by decide +kernel
theorem d_69_193 : decode prog_10_method_1_code 193 = .ok (.putfield 77, 3) := by decide +kernel
theorem d_69_196 : decode prog_10_method_1_code 196 = .ok (.aload_n 0, 1) := by decide +kernel
theorem d_69_197 : decode prog_10_method_1_code 197 = .ok (.bipush 16, 2) := by decide +kernel
theorem d_69_199 : decode prog_10_method_1_code 199 = .ok (.newarray .int, 2) := by decide +kernel
theorem d_69_201 : decode prog_10_method_1_code 201 = .ok (.putfield 80, 3) := by decide +kernel
theorem d_69_204 : decode prog_10_method_1_code 204 = .ok (.aload_n 0, 1) := by decide +kernel
theorem d_69_205 : decode prog_10_method_1_code 205 = .ok (.bipush 16, 2) := by decide +kernel
theorem d_69_207 : decode prog_10_method_1_code 207 = .ok (.newarray .boolean, 2) := by decide +kernel
theorem d_69_209 : decode prog_10_method_1_code 209 = .ok (.putfield 83, 3) := by decide +kernel
theorem d_69_212 : decode prog_10_method_1_code 212 = .ok (.aload_n 0, 1) := by decide +kernel
theorem d_69_213 : decode prog_10_method_1_code 213 = .ok (.bipush 16, 2) := by decide +kernel
theorem d_69_215 : decode prog_10_method_1_code 215 = .ok (.newarray .int, 2) := by decide +kernel
theorem d_69_217 : decode prog_10_method_1_code 217 = .ok (.putfield 87, 3) := by decide +kernel
theorem d_69_220 : decode prog_10_method_1_code 220 = .ok (.aload_n 0, 1) := by decide +kernel
theorem d_69_221 : decode prog_10_method_1_code 221 = .ok (.bipush 16, 2) := by decide +kernel
theorem d_69_223 : decode prog_10_method_1_code 223 = .ok (.newarray .int, 2) := by decide +kernel
theorem d_69_225 : decode prog_10_method_1_code 225 = .ok (.putfield 90, 3) := by decide +kernel
theorem d_69_228 : decode prog_10_method_1_code 228 = .ok (.aload_n 0, 1) := by decide +kernel
theorem d_69_229 : decode prog_10_method_1_code 229 = .ok (.bipush 16, 2) := by decide +kernel
theorem d_69_231 : decode prog_10_method_1_code 231 = .ok (.newarray .int, 2) := by decide +kernel
theorem d_69_233 : decode prog_10_method_1_code 233 = .ok (.putfield 93, 3) := by decide +kernel
theorem d_69_236 : decode prog_10_method_1_code 236 = .ok (.aload_n 0, 1) := by decide +kernel
theorem d_69_237 : decode prog_10_method_1_code 237 = .ok (.bipush 16, 2) := by decide +kernel
theorem d_69_239 : decode prog_10_method_1_code 239 = .ok (.newarray .int, 2) := by decide +kernel
theorem d_69_241 : decode prog_10_method_1_code 241 = .ok (.putfield 96, 3) := by decide +kernel
theorem d_69_244 : decode prog_10_method_1_code 244 = .ok (.aload_n 0, 1) := by decide +kernel
theorem d_69_245 : decode prog_10_method_1_code 245 = .ok (.bipush 48, 2) := by decide +kernel
theorem d_69_247 : decode prog_10_method_1_code 247 = .ok (.newarray .int, 2) := by decide +kernel
theorem d_69_249 : decode prog_10_method_1_code 249 = .ok (.putfield 99, 3) := by decide +kernel
theorem d_69_252 : decode prog_10_method_1_code 252 = .ok (.return_, 1) := by decide +kernel
theorem d_70_0 : decode prog_10_method_2_code 0 = .ok (.aload_n 0, 1) := by decide +kernel
theorem d_70_1 : decode prog_10_method_2_code 1 = .ok (.getfield 102, 3) := by decide +kernel
theorem d_70_4 : decode prog_10_method_2_code 4 = .ok (.ireturn, 1) := by decide +kernel
theorem d_71_0 : decode prog_10_method_3_code 0 = .ok (.aload_n 0, 1) := by decide +kernel
theorem d_71_1 : decode prog_10_method_3_code 1 = .ok (.iconst 0, 1) := by decide +kernel
theorem d_71_2 : decode prog_10_method_3_code 2 = .ok (.putfield 102, 3) := by decide +kernel
theorem d_71_5 : decode prog_10_method_3_code 5 = .ok (.iconst 0, 1) := by decide +kernel
theorem d_71_6 : decode prog_10_method_3_code 6 = .ok (.istore_n 3, 1) := by decide +kernel
theorem d_71_7 : decode prog_10_method_3_code 7 = .ok (.iconst 0, 1) := by decide +kernel
theorem d_71_8 : decode prog_10_method_3_code 8 = .ok (.istore 4, 2) := by decide +kernel
theorem d_71_10 : decode prog_10_method_3_code 10 = .ok (.iload 4, 2) := by decide +kernel
theorem d_71_12 : decode prog_10_method_3_code 12 = .ok (.bipush 64, 2) := by decide +kernel
theorem d_71_14 : decode prog_10_method_3_code 14 = .ok (.if_icmp .ge 30, 3) := by decide +kernel
theorem d_71_17 : decode prog_10_method_3_code 17 = .ok (.lload_n 1, 1) := by decide +kernel
theorem d_71_18 : decode prog_10_method_3_code 18 = .ok (.iload 4, 2) := by decide +kernel
theorem d_71_20 : decode prog_10_method_3_code 20 = .ok (.lshr, 1) := by decide +kernel
theorem d_71_21 : decode prog_10_method_3_code 21 = .ok (.ldc2_w 105, 3) := by decide +kernel
theorem d_71_24 : decode prog_10_method_3_code 24 = .ok (.land, 1) := by decide +kernel
theorem d_71_25 : decode prog_10_method_3_code 25 = .ok (.lconst 0, 1) := by decide +kernel
theorem d_71_26 : decode prog_10_method_3_code 26 = .ok (.lcmp, 1) := by decide +kernel
theorem d_71_27 : decode prog_10_method_3_code 27 = .ok (.ifCond .eq 9, 3) := by decide +kernel
theorem d_71_30 : decode prog_10_method_3_code 30 = .ok (.iload_n 3, 1) := by decide +kernel
theorem d_71_31 : decode prog_10_method_3_code 31 = .ok (.iconst 1, 1) := by decide +kernel
theorem d_71_32 : decode prog_10_method_3_code 32 = .ok (.iadd, 1) := by decide +kernel
theorem d_71_33 : decode prog_10_method_3_code 33 = .ok (.goto 4, 3) := by decide +kernel
theorem d_71_36 : decode prog_10_method_3_code 36 = .ok (.iload_n 3, 1) := by decide +kernel
theorem d_71_37 : decode prog_10_method_3_code 37 = .ok (.istore_n 3, 1) := by decide +kernel
theorem d_71_38 : decode prog_10_method_3_code 38 = .ok (.iinc 4 8, 3) := by decide +kernel
theorem d_71_41 : decode prog_10_method_3_code 41 = .ok (.goto (-31), 3) := by decide +kernel
theorem d_71_44 : decode prog_10_method_3_code 44 = .ok (.aload_n 0, 1) := by decide +kernel
theorem d_71_45 : decode prog_10_method_3_code 45 = .ok (.getfield 107, 3) := by decide +kernel
theorem d_71_48 : decode prog_10_method_3_code 48 = .ok (.iload_n 3, 1) := by decide +kernel
theorem d_71_49 : decode prog_10_method_3_code 49 = .ok (.iadd, 1) := by decide +kernel
theorem d_71_50 : decode prog_10_method_3_code 50 = .ok (.bipush 40, 2) := by decide +kernel
theorem d_71_52 : decode prog_10_method_3_code 52 = .ok (.if_icmp .le 5, 3) := by decide +kernel
theorem d_71_55 : decode prog_10_method_3_code 55 = .ok (.iconst (-1), 1) := by decide +kernel
theorem d_71_56 : decode prog_10_method_3_code 56 = .ok (.ireturn, 1) := by decide +kernel
theorem d_71_57 : decode prog_10_method_3_code 57 = .ok (.iconst 0, 1) := by decide +kernel
theorem d_71_58 : decode prog_10_method_3_code 58 = .ok (.istore 4, 2) := by decide +kernel
theorem d_71_60 : decode prog_10_method_3_code 60 = .ok (.iload 4, 2) := by decide +kernel
theorem d_71_62 : decode prog_10_method_3_code 62 = .ok (.bipush 64, 2) := by decide +kernel
theorem d_71_64 : decode prog_10_method_3_code 64 = .ok (.if_icmp .ge 46, 3) := by decide +kernel
theorem d_71_67 : decode prog_10_method_3_code 67 = .ok (.lload_n 1, 1) := by decide +kernel
theorem d_71_68 : decode prog_10_method_3_code 68 = .ok (.iload 4, 2) := by decide +kernel
theorem d_71_70 : decode prog_10_method_3_code 70 = .ok (.lshr, 1) := by decide +kernel
theorem d_71_71 : decode prog_10_method_3_code 71 = .ok (.ldc2_w 105, 3) := by decide +kernel
theorem d_71_74 : decode prog_10_method_3_code 74 = .ok (.land, 1) := by decide +kernel
theorem d_71_75 : decode prog_10_method_3_code 75 = .ok (.l2i, 1) := by decide +kernel
theorem d_71_76 : decode prog_10_method_3_code 76 = .ok (.istore 5, 2) := by decide +kernel
theorem d_71_78 : decode prog_10_method_3_code 78 = .ok (.iload 5, 2) := by decide +kernel
theorem d_71_80 : decode prog_10_method_3_code 80 = .ok (.ifCond .eq 24, 3) := by decide +kernel
theorem d_71_83 : decode prog_10_method_3_code 83 = .ok (.aload_n 0, 1) := by decide +kernel
theorem d_71_84 : decode prog_10_method_3_code 84 = .ok (.getfield 7, 3) := by decide +kernel
theorem d_71_87 : decode prog_10_method_3_code 87 = .ok (.aload_n 0, 1) := by decide +kernel
theorem d_71_88 : decode prog_10_method_3_code 88 = .ok (.getfield 107, 3) := by decide +kernel
theorem d_71_91 : decode prog_10_method_3_code 91 = .ok (.iload 5, 2) := by decide +kernel
theorem d_71_93 : decode prog_10_method_3_code 93 = .ok (.iastore, 1) := by decide +kernel
theorem d_71_94 : decode prog_10_method_3_code 94 = .ok (.aload_n 0, 1) := by decide +kernel
theorem d_71_95 : decode prog_10_method_3_code 95 = .ok (.dup, 1) := by decide +kernel
theorem d_71_96 : decode prog_10_method_3_code 96 = .ok (.getfield 107, 3) := by decide +kernel
theorem d_71_99 : decode prog_10_method_3_code 99 = .ok (.iconst 1, 1) := by decide +kernel
theorem d_71_100 : decode prog_10_method_3_code 100 = .ok (.iadd, 1) := by decide +kernel
theorem d_71_101 : decode prog_10_method_3_code 101 = .ok (.putfield 107, 3) := by decide +kernel
theorem d_71_104 : decode prog_10_method_3_code 104 = .ok (.iinc 4 8, 3) := by decide +kernel
theorem d_71_107 : decode prog_10_method_3_code 107 = .ok (.goto (-47), 3) := by decide +kernel
theorem d_71_110 : decode prog_10_method_3_code 110 = .ok (.aload_n 0, 1) := by decide +kernel
theorem d_71_111 : decode prog_10_method_3_code 111 = .ok (.getfield 107, 3) := by decide +kernel
theorem d_71_114 : decode prog_10_method_3_code 114 = .ok (.ireturn, 1) := by decide +kernel
theorem d_72_0 : decode prog_10_method_4_code 0 = .ok (.aload_n 0, 1) := by decide +kernel
theorem d_72_1 : decode prog_10_method_4_code 1 = .ok (.iconst 0, 1) := by decide +kernel
theorem d_72_2 : decode prog_10_method_4_code 2 = .ok (.putfield 102, 3) := by decide +kernel
theorem d_72_5 : decode prog_10_method_4_code 5 = .ok (.aload_n 0, 1) := by decide +kernel
theorem d_72_6 : decode prog_10_method_4_code 6 = .ok (.getfield 107, 3) := by decide +kernel
theorem d_72_9 : decode prog_10_method_4_code 9 = .ok (.istore_n 1, 1) := by decide +kernel
theorem d_72_10 : decode prog_10_method_4_code 10 = .ok (.aload_n 0, 1) := by decide +kernel
theorem d_72_11 : decode prog_10_method_4_code 11 = .ok (.iconst 0, 1) := by decide +kernel
theorem d_72_12 : decode prog_10_method_4_code 12 = .ok (.putfield 107, 3) := by decide +kernel
theorem d_72_15 : decode prog_10_method_4_code 15 = .ok (.iload_n 1, 1) := by decide +kernel
theorem d_72_16 : decode prog_10_method_4_code 16 = .ok (.ireturn, 1) := by decide +kernel
theorem d_73_0 : decode prog_10_method_5_code 0 = .ok (.iload_n 0, 1) := by decide +kernel
theorem d_73_1 : decode prog_10_method_5_code 1 = .ok (.bipush 107, 2) := by decide +kernel
theorem d_73_3 : decode prog_10_method_5_code 3 = .ok (.if_icmp .eq 51, 3) := by decide +kernel
theorem d_73_6 : decode prog_10_method_5_code 6 = .ok (.iload_n 0, 1) := by decide +kernel
theorem d_73_7 : decode prog_10_method_5_code 7 = .ok (.bipush 112, 2) := by decide +kernel
theorem d_73_9 : decode prog_10_method_5_code 9 = .ok (.if_icmp .eq 45, 3) := by decide +kernel
theorem d_73_12 : decode prog_10_method_5_code 12 = .ok (.iload_n 0, 1) := by decide +kernel
theorem d_73_13 : decode prog_10_method_5_code 13 = .ok (.bipush 111, 2) := by decide +kernel
theorem d_73_15 : decode prog_10_method_5_code 15 = .ok (.if_icmp .eq 39, 3) := by decide +kernel
theorem d_73_18 : decode prog_10_method_5_code 18 = .ok (.iload_n 0, 1) := by decide +kernel
theorem d_73_19 : decode prog_10_method_5_code 19 = .ok (.bipush 108, 2) := by decide +kernel
theorem d_73_21 : decode prog_10_method_5_code 21 = .ok (.if_icmp .eq 33, 3) := by decide +kernel
theorem d_73_24 : decode prog_10_method_5_code 24 = .ok (.iload_n 0, 1) := by decide +kernel
theorem d_73_25 : decode prog_10_method_5_code 25 = .ok (.bipush 114, 2) := by decide +kernel
theorem d_73_27 : decode prog_10_method_5_code 27 = .ok (.if_icmp .eq 27, 3) := by decide +kernel
theorem d_73_30 : decode prog_10_method_5_code 30 = .ok (.iload_n 0, 1) := by decide +kernel
theorem d_73_31 : decode prog_10_method_5_code 31 = .ok (.bipush 99, 2) := by decide +kernel
theorem d_73_33 : decode prog_10_method_5_code 33 = .ok (.if_icmp .eq 21, 3) := by decide +kernel
theorem d_73_36 : decode prog_10_method_5_code 36 = .ok (.iload_n 0, 1) := by decide +kernel
theorem d_73_37 : decode prog_10_method_5_code 37 = .ok (.bipush 116, 2) := by decide +kernel
theorem d_73_39 : decode prog_10_method_5_code 39 = .ok (.if_icmp .eq 15, 3) := by decide +kernel
theorem d_73_42 : decode prog_10_method_5_code 42 = .ok (.iload_n 0, 1) := by decide +kernel
theorem d_73_43 : decode prog_10_method_5_code 43 = .ok (.bipush 109, 2) := by decide +kernel
theorem d_73_45 : decode prog_10_method_5_code 45 = .ok (.if_icmp .eq 9, 3) := by decide +kernel
theorem d_73_48 : decode prog_10_method_5_code 48 = .ok (.iload_n 0, 1) := by decide +kernel
theorem d_73_49 : decode prog_10_method_5_code 49 = .ok (.bipush 120, 2) := by decide +kernel
theorem d_73_51 : decode prog_10_method_5_code 51 = .ok (.if_icmp .ne 7, 3) := by decide +kernel
theorem d_73_54 : decode prog_10_method_5_code 54 = .ok (.iconst 1, 1) := by decide +kernel
theorem d_73_55 : decode prog_10_method_5_code 55 = .ok (.goto 4, 3) := by decide +kernel
theorem d_73_58 : decode prog_10_method_5_code 58 = .ok (.iconst 0, 1) := by decide +kernel
theorem d_73_59 : decode prog_10_method_5_code 59 = .ok (.ireturn, 1) := by decide +kernel
theorem d_74_0 : decode prog_10_method_6_code 0 = .ok (.iload_n 0, 1) := by decide +kernel
theorem d_74_1 : decode prog_10_method_6_code 1 = .ok (.bipush 49, 2) := by decide +kernel
theorem d_74_3 : decode prog_10_method_6_code 3 = .ok (.if_icmp .lt 13, 3) := by decide +kernel
theorem d_74_6 : decode prog_10_method_6_code 6 = .ok (.iload_n 0, 1) := by decide +kernel
theorem d_74_7 : decode prog_10_method_6_code 7 = .ok (.bipush 52, 2) := by decide +kernel
theorem d_74_9 : decode prog_10_method_6_code 9 = .ok (.if_icmp .gt 7, 3) := by decide +kernel
theorem d_74_12 : decode prog_10_method_6_code 12 = .ok (.iconst 1, 1) := by decide +kernel
theorem d_74_13 : decode prog_10_method_6_code 13 = .ok (.goto 4, 3) := by decide +kernel
theorem d_74_16 : decode prog_10_method_6_code 16 = .ok (.iconst 0, 1) := by decide +kernel
theorem d_74_17 : decode prog_10_method_6_code 17 = .ok (.ireturn, 1) := by decide +kernel
theorem d_75_0 : decode prog_10_method_7_code 0 = .ok (.aload_n 0, 1) := by decide +kernel
theorem d_75_1 : decode prog_10_method_7_code 1 = .ok (.iconst 0, 1) := by decide +kernel
theorem d_75_2 : decode prog_10_method_7_code 2 = .ok (.putfield 110, 3) := by decide +kernel
theorem d_75_5 : decode prog_10_method_7_code 5 = .ok (.iconst 0, 1) := by decide +kernel
theorem d_75_6 : decode prog_10_method_7_code 6 = .ok (.istore 4, 2) := by decide +kernel
theorem d_75_8 : decode prog_10_method_7_code 8 = .ok (.iload 4, 2) := by decide +kernel
theorem d_75_10 : decode prog_10_method_7_code 10 = .ok (.iload_n 3, 1) := by decide +kernel
theorem d_75_11 : decode prog_10_method_7_code 11 = .ok (.if_icmp .ge 171, 3) := by decide +kernel
theorem d_75_14 : decode prog_10_method_7_code 14 = .ok (.aload_n 1, 1) := by decide +kernel
theorem d_75_15 : decode prog_10_method_7_code 15 = .ok (.iload_n 2, 1) := by decide +kernel
theorem d_75_16 : decode prog_10_method_7_code 16 = .ok (.iload 4, 2) := by decide +kernel
theorem d_75_18 : decode prog_10_method_7_code 18 = .ok (.iadd, 1) := by decide +kernel
theorem d_75_19 : decode prog_10_method_7_code 19 = .ok (.iaload, 1) := by decide +kernel
theorem d_75_20 : decode prog_10_method_7_code 20 = .ok (.istore 5, 2) := by decide +kernel
theorem d_75_22 : decode prog_10_method_7_code 22 = .ok (.aload_n 0, 1) := by decide +kernel
theorem d_75_23 : decode prog_10_method_7_code 23 = .ok (.getfield 68, 3) := by decide +kernel
theorem d_75_26 : decode prog_10_method_7_code 26 = .ok (.aload_n 0, 1) := by decide +kernel
theorem d_75_27 : decode prog_10_method_7_code 27 = .ok (.getfield 110, 3) := by decide +kernel
theorem d_75_30 : decode prog_10_method_7_code 30 = .ok (.iload 5, 2) := by decide +kernel
theorem d_75_32 : decode prog_10_method_7_code 32 = .ok (.iastore, 1) := by decide +kernel
theorem d_75_33 : decode prog_10_method_7_code 33 = .ok (.aload_n 0, 1) := by decide +kernel
theorem d_75_34 : decode prog_10_method_7_code 34 = .ok (.getfield 71, 3) := by decide +kernel
theorem d_75_37 : decode prog_10_method_7_code 37 = .ok (.aload_n 0, 1) := by decide +kernel
theorem d_75_38 : decode prog_10_method_7_code 38 = .ok (.getfield 110, 3) := by decide +kernel
theorem d_75_41 : decode prog_10_method_7_code 41 = .ok (.iload 4, 2) := by decide +kernel
theorem d_75_43 : decode prog_10_method_7_code 43 = .ok (.iastore, 1) := by decide +kernel
theorem d_75_44 : decode prog_10_method_7_code 44 = .ok (.iload 5, 2) := by decide +kernel
theorem d_75_46 : decode prog_10_method_7_code 46 = .ok (.invokestatic 113, 3) := by decide +kernel
theorem d_75_49 : decode prog_10_method_7_code 49 = .ok (.ifCond .eq 9, 3) := by decide +kernel
theorem d_75_52 : decode prog_10_method_7_code 52 = .ok (.iinc 4 1, 3) := by decide +kernel
theorem d_75_55 : decode prog_10_method_7_code 55 = .ok (.goto 114, 3) := by decide +kernel
theorem d_75_58 : decode prog_10_method_7_code 58 = .ok (.iload 5, 2) := by decide +kernel
theorem d_75_60 : decode prog_10_method_7_code 60 = .ok (.bipush 60, 2) := by decide +kernel
theorem d_75_62 : decode prog_10_method_7_code 62 = .ok (.if_icmp .eq 10, 3) := by decide +kernel
theorem d_75_65 : decode prog_10_method_7_code 65 = .ok (.iload 5, 2) := by decide +kernel
theorem d_75_67 : decode prog_10_method_7_code 67 = .ok (.bipush 62, 2) := by decide +kernel
theorem d_75_69 : decode prog_10_method_7_code 69 = .ok (.if_icmp .ne 97, 3) := by decide +kernel
theorem d_75_72 : decode prog_10_method_7_code 72 = .ok (.iconst 1, 1) := by decide +kernel
theorem d_75_73 : decode prog_10_method_7_code 73 = .ok (.istore 6, 2) := by decide +kernel
theorem d_75_75 : decode prog_10_method_7_code 75 = .ok (.iload 6, 2) := by decide +kernel
theorem d_75_77 : decode prog_10_method_7_code 77 = .ok (.iconst 3, 1) := by decide +kernel
theorem d_75_78 : decode prog_10_method_7_code 78 = .ok (.if_icmp .ge 39, 3) := by decide +kernel
theorem d_75_81 : decode prog_10_method_7_code 81 = .ok (.iload 4, 2) := by decide +kernel
theorem d_75_83 : decode prog_10_method_7_code 83 = .ok (.iload 6, 2) := by decide +kernel
theorem d_75_85 : decode prog_10_method_7_code 85 = .ok (.iadd, 1) := by decide +kernel
theorem d_75_86 : decode prog_10_method_7_code 86 = .ok (.iload_n 3, 1) := by decide +kernel
theorem d_75_87 : decode prog_10_method_7_code 87 = .ok (.if_icmp .ge 18, 3) := by decide +kernel
theorem d_75_90 : decode prog_10_method_7_code 90 = .ok (.aload_n 1, 1) := by decide +kernel
theorem d_75_91 : decode prog_10_method_7_code 91 = .ok (.iload_n 2, 1) := by decide +kernel
theorem d_75_92 : decode prog_10_method_7_code 92 = .ok (.iload 4, 2) := by decide +kernel
theorem d_75_94 : decode prog_10_method_7_code 94 = .ok (.iadd, 1) := by decide +kernel
theorem d_75_95 : decode prog_10_method_7_code 95 = .ok (.iload 6, 2) := by decide +kernel
theorem d_75_97 : decode prog_10_method_7_code 97 = .ok (.iadd, 1) := by decide +kernel
theorem d_75_98 : decode prog_10_method_7_code 98 = .ok (.iaload, 1) := by decide +kernel
theorem d_75_99 : decode prog_10_method_7_code 99 = .ok (.invokestatic 117, 3) := by decide +kernel
theorem d_75_102 : decode prog_10_method_7_code 102 = .ok (.ifCond .ne 9, 3) := by decide +kernel
theorem d_75_105 : decode prog_10_method_7_code 105 = .ok (.iload 4, 2) := by decide +kernel
theorem d_75_107 : decode prog_10_method_7_code 107 = .ok (.iload 6, 2) := by decide +kernel
theorem d_75_109 : decode prog_10_method_7_code 109 = .ok (.iadd, 1) := by decide +kernel
theorem d_75_110 : decode prog_10_method_7_code 110 = .ok (.ireturn, 1) := by decide +kernel
theorem d_75_111 : decode prog_10_method_7_code 111 = .ok (.iinc 6 1, 3) := by decide +kernel
theorem d_75_114 : decode prog_10_method_7_code 114 = .ok (.goto (-39), 3) := by decide +kernel
theorem d_75_117 : decode prog_10_method_7_code 117 = .ok (.aload_n 0, 1) := by decide +kernel
theorem d_75_118 : decode prog_10_method_7_code 118 = .ok (.getfield 74, 3) := by decide +kernel
theorem d_75_121 : decode prog_10_method_7_code 121 = .ok (.aload_n 0, 1) := by decide +kernel
theorem d_75_122 : decode prog_10_method_7_code 122 = .ok (.getfield 110, 3) := by decide +kernel
theorem d_75_125 : decode prog_10_method_7_code 125 = .ok (.aload_n 1, 1) := by decide +kernel
theorem d_75_126 : decode prog_10_method_7_code 126 = .ok (.iload_n 2, 1) := by decide +kernel
theorem d_75_127 : decode prog_10_method_7_code 127 = .ok (.iload 4, 2) := by decide +kernel
theorem d_75_129 : decode prog_10_method_7_code 129 = .ok (.iadd, 1) := by decide +kernel
theorem d_75_130 : decode prog_10_method_7_code 130 = .ok (.iconst 1, 1) := by decide +kernel
theorem d_75_131 : decode prog_10_method_7_code 131 = .ok (.iadd, 1) := by decide +kernel
theorem d_75_132 : decode prog_10_method_7_code 132 = .ok (.iaload, 1) := by decide +kernel
theorem d_75_133 : decode prog_10_method_7_code 133 = .ok (.bipush 48, 2) := by decide +kernel
theorem d_75_135 : decode prog_10_method_7_code 135 = .ok (.isub, 1) := by decide +kernel
theorem d_75_136 : decode prog_10_method_7_code 136 = .ok (.iastore, 1) := by decide +kernel
theorem d_75_137 : decode prog_10_method_7_code 137 = .ok (.aload_n 0, 1) := by decide +kernel
theorem d_75_138 : decode prog_10_method_7_code 138 = .ok (.getfield 77, 3) := by decide +kernel
theorem d_75_141 : decode prog_10_method_7_code 141 = .ok (.aload_n 0, 1) := by decide +kernel
theorem d_75_142 : decode prog_10_method_7_code 142 = .ok (.getfield 110, 3) := by decide +kernel
theorem d_75_145 : decode prog_10_method_7_code 145 = .ok (.aload_n 1, 1) := by decide +kernel
theorem d_75_146 : decode prog_10_method_7_code 146 = .ok (.iload_n 2, 1) := by decide +kernel
theorem d_75_147 : decode prog_10_method_7_code 147 = .ok (.iload 4, 2) := by decide +kernel
theorem d_75_149 : decode prog_10_method_7_code 149 = .ok (.iadd, 1) := by decide +kernel
theorem d_75_150 : decode prog_10_method_7_code 150 = .ok (.iconst 2, 1) := by decide +kernel
theorem d_75_151 : decode prog_10_method_7_code 151 = .ok (.iadd, 1) := by decide +kernel
theorem d_75_152 : decode prog_10_method_7_code 152 = .ok (.iaload, 1) := by decide +kernel
theorem d_75_153 : decode prog_10_method_7_code 153 = .ok (.bipush 48, 2) := by decide +kernel
theorem d_75_155 : decode prog_10_method_7_code 155 = .ok (.isub, 1) := by decide +kernel
theorem d_75_156 : decode prog_10_method_7_code 156 = .ok (.iastore, 1) := by decide +kernel
theorem d_75_157 : decode prog_10_method_7_code 157 = .ok (.iload 4, 2) := by decide +kernel
theorem d_75_159 : decode prog_10_method_7_code 159 = .ok (.iconst 3, 1) := by decide +kernel
theorem d_75_160 : decode prog_10_method_7_code 160 = .ok (.iadd, 1) := by decide +kernel
theorem d_75_161 : decode prog_10_method_7_code 161 = .ok (.istore 4, 2) := by decide +kernel
theorem d_75_163 : decode prog_10_method_7_code 163 = .ok (.goto 6, 3) := by decide +kernel
theorem d_75_166 : decode prog_10_method_7_code 166 = .ok (.iload 4, 2) := by decide +kernel
theorem d_75_168 : decode prog_10_method_7_code 168 = .ok (.ireturn, 1) := by decide +kernel
theorem d_75_169 : decode prog_10_method_7_code 169 = .ok (.aload_n 0, 1) := by decide +kernel
theorem d_75_170 : decode prog_10_method_7_code 170 = .ok (.dup, 1) := by decide +kernel
theorem d_75_171 : decode prog_10_method_7_code 171 = .ok (.getfield 110, 3) := by decide +kernel
theorem d_75_174 : decode prog_10_method_7_code 174 = .ok (.iconst 1, 1) := by decide +kernel
theorem d_75_175 : decode prog_10_method_7_code 175 = .ok (.iadd, 1) := by decide +kernel
theorem d_75_176 : decode prog_10_method_7_code 176 = .ok (.putfield 110, 3) := by decide +kernel
theorem d_75_179 : decode prog_10_method_7_code 179 = .ok (.goto (-171), 3) := by decide +kernel
theorem d_75_182 : decode prog_10_method_7_code 182 = .ok (.aload_n 0, 1) := by decide +kernel
theorem d_75_183 : decode prog_10_method_7_code 183 = .ok (.getfield 110, 3) := by decide +kernel
theorem d_75_186 : decode prog_10_method_7_code 186 = .ok (.ifCond .ne 7, 3) := by decide +kernel
theorem d_75_189 : decode prog_10_method_7_code 189 = .ok (.iconst 0, 1) := by decide +kernel
theorem d_75_190 : decode prog_10_method_7_code 190 = .ok (.goto 4, 3) := by decide +kernel
theorem d_75_193 : decode prog_10_method_7_code 193 = .ok (.iconst (-1), 1) := by decide +kernel
theorem d_75_194 : decode prog_10_method_7_code 194 = .ok (.ireturn, 1) := by decide +kernel
theorem d_76_0 : decode prog_10_method_8_code 0 = .ok (.aload_n 0, 1) := by decide +kernel
theorem d_76_1 : decode prog_10_method_8_code 1 = .ok (.getfield 68, 3) := by decide +kernel
theorem d_76_4 : decode prog_10_method_8_code 4 = .ok (.iload_n 1, 1) := by decide +kernel
theorem d_76_5 : decode prog_10_method_8_code 5 = .ok (.iaload, 1) := by decide +kernel
theorem d_76_6 : decode prog_10_method_8_code 6 = .ok (.lookupswitch 78 #[(60, 58), (62, 58), (99, 76), (108, 74), (111, 72), (114, 74)], 58) := by decide +kernel
theorem d_76_64 : decode prog_10_method_8_code 64 = .ok (.aload_n 0, 1) := by decide +kernel
theorem d_76_65 : decode prog_10_method_8_code 65 = .ok (.getfield 74, 3) := by decide +kernel
theorem d_76_68 : decode prog_10_method_8_code 68 = .ok (.iload_n 1, 1) := by decide +kernel
theorem d_76_69 : decode prog_10_method_8_code 69 = .ok (.iaload, 1) := by decide +kernel
theorem d_76_70 : decode prog_10_method_8_code 70 = .ok (.aload_n 0, 1) := by decide +kernel
theorem d_76_71 : decode prog_10_method_8_code 71 = .ok (.getfield 77, 3) := by decide +kernel
theorem d_76_74 : decode prog_10_method_8_code 74 = .ok (.iload_n 1, 1) := by decide +kernel
theorem d_76_75 : decode prog_10_method_8_code 75 = .ok (.iaload, 1) := by decide +kernel
theorem d_76_76 : decode prog_10_method_8_code 76 = .ok (.iadd, 1) := by decide +kernel
theorem d_76_77 : decode prog_10_method_8_code 77 = .ok (.ireturn, 1) := by decide +kernel
theorem d_76_78 : decode prog_10_method_8_code 78 = .ok (.iconst 0, 1) := by decide +kernel
theorem d_76_79 : decode prog_10_method_8_code 79 = .ok (.ireturn, 1) := by decide +kernel
theorem d_76_80 : decode prog_10_method_8_code 80 = .ok (.iconst 2, 1) := by decide +kernel
theorem d_76_81 : decode prog_10_method_8_code 81 = .ok (.ireturn, 1) := by decide +kernel
theorem d_76_82 : decode prog_10_method_8_code 82 = .ok (.iconst 3, 1) := by decide +kernel
theorem d_76_83 : decode prog_10_method_8_code 83 = .ok (.ireturn, 1) := by decide +kernel
theorem d_76_84 : decode prog_10_method_8_code 84 = .ok (.iconst 1, 1) := by decide +kernel
theorem d_76_85 : decode prog_10_method_8_code 85 = .ok (.ireturn, 1) := by decide +kernel
theorem d_77_0 : decode prog_10_method_9_code 0 = .ok (.aload_n 0, 1) := by decide +kernel
theorem d_77_1 : decode prog_10_method_9_code 1 = .ok (.getfield 68, 3) := by decide +kernel
theorem d_77_4 : decode prog_10_method_9_code 4 = .ok (.iload_n 1, 1) := by decide +kernel
theorem d_77_5 : decode prog_10_method_9_code 5 = .ok (.iaload, 1) := by decide +kernel
theorem d_77_6 : decode prog_10_method_9_code 6 = .ok (.bipush 60, 2) := by decide +kernel
theorem d_77_8 : decode prog_10_method_9_code 8 = .ok (.if_icmp .eq 14, 3) := by decide +kernel
theorem d_77_11 : decode prog_10_method_9_code 11 = .ok (.aload_n 0, 1) := by decide +kernel
theorem d_77_12 : decode prog_10_method_9_code 12 = .ok (.getfield 68, 3) := by decide +kernel
theorem d_77_15 : decode prog_10_method_9_code 15 = .ok (.iload_n 1, 1) := by decide +kernel
theorem d_77_16 : decode prog_10_method_9_code 16 = .ok (.iaload, 1) := by decide +kernel
theorem d_77_17 : decode prog_10_method_9_code 17 = .ok (.bipush 62, 2) := by decide +kernel
theorem d_77_19 : decode prog_10_method_9_code 19 = .ok (.if_icmp .ne 19, 3) := by decide +kernel
theorem d_77_22 : decode prog_10_method_9_code 22 = .ok (.aload_n 0, 1) := by decide +kernel
theorem d_77_23 : decode prog_10_method_9_code 23 = .ok (.getfield 74, 3) := by decide +kernel
theorem d_77_26 : decode prog_10_method_9_code 26 = .ok (.iload_n 1, 1) := by decide +kernel
theorem d_77_27 : decode prog_10_method_9_code 27 = .ok (.iaload, 1) := by decide +kernel
theorem d_77_28 : decode prog_10_method_9_code 28 = .ok (.aload_n 0, 1) := by decide +kernel
theorem d_77_29 : decode prog_10_method_9_code 29 = .ok (.getfield 77, 3) := by decide +kernel
theorem d_77_32 : decode prog_10_method_9_code 32 = .ok (.iload_n 1, 1) := by decide +kernel
theorem d_77_33 : decode prog_10_method_9_code 33 = .ok (.iaload, 1) := by decide +kernel
theorem d_77_34 : decode prog_10_method_9_code 34 = .ok (.iadd, 1) := by decide +kernel
theorem d_77_35 : decode prog_10_method_9_code 35 = .ok (.goto 19, 3) := by decide +kernel
theorem d_77_38 : decode prog_10_method_9_code 38 = .ok (.aload_n 0, 1) := by decide +kernel
theorem d_77_39 : decode prog_10_method_9_code 39 = .ok (.getfield 68, 3) := by decide +kernel
theorem d_77_42 : decode prog_10_method_9_code 42 = .ok (.iload_n 1, 1) := by decide +kernel
theorem d_77_43 : decode prog_10_method_9_code 43 = .ok (.iaload, 1) := by decide +kernel
theorem d_77_44 : decode prog_10_method_9_code 44 = .ok (.bipush 120, 2) := by decide +kernel
theorem d_77_46 : decode prog_10_method_9_code 46 = .ok (.if_icmp .ne 7, 3) := by decide +kernel
theorem d_77_49 : decode prog_10_method_9_code 49 = .ok (.iconst 0, 1) := by decide +kernel
theorem d_77_50 : decode prog_10_method_9_code 50 = .ok (.goto 4, 3) := by decide +kernel
theorem d_77_53 : decode prog_10_method_9_code 53 = .ok (.iconst 1, 1) := by decide +kernel
theorem d_77_54 : decode prog_10_method_9_code 54 = .ok (.ireturn, 1) := by decide +kernel
theorem d_78_0 : decode prog_10_method_10_code 0 = .ok (.aload_n 0, 1) := by decide +kernel
theorem d_78_1 : decode prog_10_method_10_code 1 = .ok (.iload_n 2, 1) := by decide +kernel
theorem d_78_2 : decode prog_10_method_10_code 2 = .ok (.putfield 13, 3) := by decide +kernel
theorem d_78_5 : decode prog_10_method_10_code 5 = .ok (.iload_n 1, 1) := by decide +kernel
theorem d_78_6 : decode prog_10_method_10_code 6 = .ok (.ireturn, 1) := by decide +kernel
theorem d_79_0 : decode prog_10_method_11_code 0 = .ok (.aload_n 0, 1) := by decide +kernel
theorem d_79_1 : decode prog_10_method_11_code 1 = .ok (.getfield 20, 3) := by decide +kernel
theorem d_79_4 : decode prog_10_method_11_code 4 = .ok (.bipush 16, 2) := by decide +kernel
theorem d_79_6 : decode prog_10_method_11_code 6 = .ok (.aload_n 0, 1) := by decide +kernel
theorem d_79_7 : decode prog_10_method_11_code 7 = .ok (.getfield 120, 3) := by decide +kernel
theorem d_79_10 : decode prog_10_method_11_code 10 = .ok (.imul, 1) := by decide +kernel
theorem d_79_11 : decode prog_10_method_11_code 11 = .ok (.iload_n 1, 1) := by decide +kernel
theorem d_79_12 : decode prog_10_method_11_code 12 = .ok (.iadd, 1) := by decide +kernel
theorem d_79_13 : decode prog_10_method_11_code 13 = .ok (.iaload, 1) := by decide +kernel
theorem d_79_14 : decode prog_10_method_11_code 14 = .ok (.ireturn, 1) := by decide +kernel
theorem d_80_0 : decode prog_10_method_12_code 0 = .ok (.iconst 0, 1) := by decide +kernel
theorem d_80_1 : decode prog_10_method_12_code 1 = .ok (.istore_n 1, 1) := by decide +kernel
theorem d_80_2 : decode prog_10_method_12_code 2 = .ok (.iconst 0, 1) := by decide +kernel
theorem d_80_3 : decode prog_10_method_12_code 3 = .ok (.istore_n 2, 1) := by decide +kernel
theorem d_80_4 : decode prog_10_method_12_code 4 = .ok (.iload_n 2, 1) := by decide +kernel
theorem d_80_5 : decode prog_10_method_12_code 5 = .ok (.aload_n 0, 1) := by decide +kernel
theorem d_80_6 : decode prog_10_method_12_code 6 = .ok (.getfield 110, 3) := by decide +kernel
theorem d_80_9 : decode prog_10_method_12_code 9 = .ok (.if_icmp .ge 136, 3) := by decide +kernel
theorem d_80_12 : decode prog_10_method_12_code 12 = .ok (.aload_n 0, 1) := by decide +kernel
theorem d_80_13 : decode prog_10_method_12_code 13 = .ok (.getfield 68, 3) := by decide +kernel
theorem d_80_16 : decode prog_10_method_12_code 16 = .ok (.iload_n 2, 1) := by decide +kernel
theorem d_80_17 : decode prog_10_method_12_code 17 = .ok (.iaload, 1) := by decide +kernel
theorem d_80_18 : decode prog_10_method_12_code 18 = .ok (.bipush 116, 2) := by decide +kernel
theorem d_80_20 : decode prog_10_method_12_code 20 = .ok (.if_icmp .ne 7, 3) := by decide +kernel
theorem d_80_23 : decode prog_10_method_12_code 23 = .ok (.iconst 1, 1) := by decide +kernel
theorem d_80_24 : decode prog_10_method_12_code 24 = .ok (.goto 4, 3) := by decide +kernel
theorem d_80_27 : decode prog_10_method_12_code 27 = .ok (.iconst 0, 1) := by decide +kernel
theorem d_80_28 : decode prog_10_method_12_code 28 = .ok (.istore_n 3, 1) := by decide +kernel
theorem d_80_29 : decode prog_10_method_12_code 29 = .ok (.aload_n 0, 1) := by decide +kernel
theorem d_80_30 : decode prog_10_method_12_code 30 = .ok (.getfield 68, 3) := by decide +kernel
theorem d_80_33 : decode prog_10_method_12_code 33 = .ok (.iload_n 2, 1) := by decide +kernel
theorem d_80_34 : decode prog_10_method_12_code 34 = .ok (.iaload, 1) := by decide +kernel
theorem d_80_35 : decode prog_10_method_12_code 35 = .ok (.bipush 108, 2) := by decide +kernel
theorem d_80_37 : decode prog_10_method_12_code 37 = .ok (.if_icmp .eq 36, 3) := by decide +kernel
theorem d_80_40 : decode prog_10_method_12_code 40 = .ok (.aload_n 0, 1) := by decide +kernel
theorem d_80_41 : decode prog_10_method_12_code 41 = .ok (.getfield 68, 3) := by decide +kernel
theorem d_80_44 : decode prog_10_method_12_code 44 = .ok (.iload_n 2, 1) := by decide +kernel
theorem d_80_45 : decode prog_10_method_12_code 45 = .ok (.iaload, 1) := by decide +kernel
theorem d_80_46 : decode prog_10_method_12_code 46 = .ok (.bipush 114, 2) := by decide +kernel
theorem d_80_48 : decode prog_10_method_12_code 48 = .ok (.if_icmp .eq 25, 3) := by decide +kernel
theorem d_80_51 : decode prog_10_method_12_code 51 = .ok (.aload_n 0, 1) := by decide +kernel
theorem d_80_52 : decode prog_10_method_12_code 52 = .ok (.getfield 68, 3) := by decide +kernel
theorem d_80_55 : decode prog_10_method_12_code 55 = .ok (.iload_n 2, 1) := by decide +kernel
theorem d_80_56 : decode prog_10_method_12_code 56 = .ok (.iaload, 1) := by decide +kernel
theorem d_80_57 : decode prog_10_method_12_code 57 = .ok (.bipush 99, 2) := by decide +kernel
theorem d_80_59 : decode prog_10_method_12_code 59 = .ok (.if_icmp .eq 14, 3) := by decide +kernel
theorem d_80_62 : decode prog_10_method_12_code 62 = .ok (.aload_n 0, 1) := by decide +kernel
theorem d_80_63 : decode prog_10_method_12_code 63 = .ok (.getfield 68, 3) := by decide +kernel
theorem d_80_66 : decode prog_10_method_12_code 66 = .ok (.iload_n 2, 1) := by decide +kernel
theorem d_80_67 : decode prog_10_method_12_code 67 = .ok (.iaload, 1) := by decide +kernel
theorem d_80_68 : decode prog_10_method_12_code 68 = .ok (.bipush 116, 2) := by decide +kernel
theorem d_80_70 : decode prog_10_method_12_code 70 = .ok (.if_icmp .ne 7, 3) := by decide +kernel
theorem d_80_73 : decode prog_10_method_12_code 73 = .ok (.iconst 1, 1) := by decide +kernel
theorem d_80_74 : decode prog_10_method_12_code 74 = .ok (.goto 4, 3) := by decide +kernel
theorem d_80_77 : decode prog_10_method_12_code 77 = .ok (.iconst 0, 1) := by decide +kernel
theorem d_80_78 : decode prog_10_method_12_code 78 = .ok (.istore 4, 2) := by decide +kernel
theorem d_80_80 : decode prog_10_method_12_code 80 = .ok (.iconst 0, 1) := by decide +kernel
theorem d_80_81 : decode prog_10_method_12_code 81 = .ok (.istore 5, 2) := by decide +kernel
theorem d_80_83 : decode prog_10_method_12_code 83 = .ok (.iload 5, 2) := by decide +kernel
theorem d_80_85 : decode prog_10_method_12_code 85 = .ok (.aload_n 0, 1) := by decide +kernel
theorem d_80_86 : decode prog_10_method_12_code 86 = .ok (.iload_n 2, 1) := by decide +kernel
theorem d_80_87 : decode prog_10_method_12_code 87 = .ok (.invokevirtual 123, 3) := by decide +kernel
theorem d_80_90 : decode prog_10_method_12_code 90 = .ok (.if_icmp .ge 29, 3) := by decide +kernel
theorem d_80_93 : decode prog_10_method_12_code 93 = .ok (.iload 4, 2) := by decide +kernel
theorem d_80_95 : decode prog_10_method_12_code 95 = .ok (.ifCond .eq 16, 3) := by decide +kernel
theorem d_80_98 : decode prog_10_method_12_code 98 = .ok (.iload_n 3, 1) := by decide +kernel
theorem d_80_99 : decode prog_10_method_12_code 99 = .ok (.aload_n 0, 1) := by decide +kernel
theorem d_80_100 : decode prog_10_method_12_code 100 = .ok (.iload_n 1, 1) := by decide +kernel
theorem d_80_101 : decode prog_10_method_12_code 101 = .ok (.iload 5, 2) := by decide +kernel
theorem d_80_103 : decode prog_10_method_12_code 103 = .ok (.iadd, 1) := by decide +kernel
theorem d_80_104 : decode prog_10_method_12_code 104 = .ok (.invokevirtual 127, 3) := by decide +kernel
theorem d_80_107 : decode prog_10_method_12_code 107 = .ok (.iadd, 1) := by decide +kernel
theorem d_80_108 : decode prog_10_method_12_code 108 = .ok (.goto 4, 3) := by decide +kernel
theorem d_80_111 : decode prog_10_method_12_code 111 = .ok (.iload_n 3, 1) := by decide +kernel
theorem d_80_112 : decode prog_10_method_12_code 112 = .ok (.istore_n 3, 1) := by decide +kernel
theorem d_80_113 : decode prog_10_method_12_code 113 = .ok (.iinc 5 1, 3) := by decide +kernel
theorem d_80_116 : decode prog_10_method_12_code 116 = .ok (.goto (-33), 3) := by decide +kernel
theorem d_80_119 : decode prog_10_method_12_code 119 = .ok (.iload_n 3, 1) := by decide +kernel
theorem d_80_120 : decode prog_10_method_12_code 120 = .ok (.iconst 4, 1) := by decide +kernel
theorem d_80_121 : decode prog_10_method_12_code 121 = .ok (.if_icmp .le 10, 3) := by decide +kernel
theorem d_80_124 : decode prog_10_method_12_code 124 = .ok (.aload_n 0, 1) := by decide +kernel
theorem d_80_125 : decode prog_10_method_12_code 125 = .ok (.getfield 71, 3) := by decide +kernel
theorem d_80_128 : decode prog_10_method_12_code 128 = .ok (.iload_n 2, 1) := by decide +kernel
theorem d_80_129 : decode prog_10_method_12_code 129 = .ok (.iaload, 1) := by decide +kernel
theorem d_80_130 : decode prog_10_method_12_code 130 = .ok (.ireturn, 1) := by decide +kernel
theorem d_80_131 : decode prog_10_method_12_code 131 = .ok (.iload_n 1, 1) := by decide +kernel
theorem d_80_132 : decode prog_10_method_12_code 132 = .ok (.aload_n 0, 1) := by decide +kernel
theorem d_80_133 : decode prog_10_method_12_code 133 = .ok (.iload_n 2, 1) := by decide +kernel
theorem d_80_134 : decode prog_10_method_12_code 134 = .ok (.invokevirtual 123, 3) := by decide +kernel
theorem d_80_137 : decode prog_10_method_12_code 137 = .ok (.iadd, 1) := by decide +kernel
theorem d_80_138 : decode prog_10_method_12_code 138 = .ok (.istore_n 1, 1) := by decide +kernel
theorem d_80_139 : decode prog_10_method_12_code 139 = .ok (.iinc 2 1, 3) := by decide +kernel
theorem d_80_142 : decode prog_10_method_12_code 142 = .ok (.goto (-138), 3) := by decide +kernel
theorem d_80_145 : decode prog_10_method_12_code 145 = .ok (.iconst (-1), 1) := by decide +kernel
theorem d_80_146 : decode prog_10_method_12_code 146 = .ok (.ireturn, 1) := by decide +kernel
theorem d_81_0 : decode prog_10_method_13_code 0 = .ok (.aload_n 0, 1) := by decide +kernel
theorem d_81_1 : decode prog_10_method_13_code 1 = .ok (.getfield 80, 3) := by decide +kernel
theorem d_81_4 : decode prog_10_method_13_code 4 = .ok (.iload_n 1, 1) := by decide +kernel
theorem d_81_5 : decode prog_10_method_13_code 5 = .ok (.iload_n 2, 1) := by decide +kernel
theorem d_81_6 : decode prog_10_method_13_code 6 = .ok (.iastore, 1) := by decide +kernel
theorem d_81_7 : decode prog_10_method_13_code 7 = .ok (.aload_n 0, 1) := by decide +kernel
theorem d_81_8 : decode prog_10_method_13_code 8 = .ok (.getfield 83, 3) := by decide +kernel
theorem d_81_11 : decode prog_10_method_13_code 11 = .ok (.iload_n 1, 1) := by decide +kernel
theorem d_81_12 : decode prog_10_method_13_code 12 = .ok (.iload 4, 2) := by decide +kernel
theorem d_81_14 : decode prog_10_method_13_code 14 = .ok (.bastore, 1) := by decide +kernel
theorem d_81_15 : decode prog_10_method_13_code 15 = .ok (.aload_n 0, 1) := by decide +kernel
theorem d_81_16 : decode prog_10_method_13_code 16 = .ok (.getfield 87, 3) := by decide +kernel
theorem d_81_19 : decode prog_10_method_13_code 19 = .ok (.iload_n 1, 1) := by decide +kernel
theorem d_81_20 : decode prog_10_method_13_code 20 = .ok (.iload 5, 2) := by decide +kernel
theorem d_81_22 : decode prog_10_method_13_code 22 = .ok (.iastore, 1) := by decide +kernel
theorem d_81_23 : decode prog_10_method_13_code 23 = .ok (.aload_n 0, 1) := by decide +kernel
theorem d_81_24 : decode prog_10_method_13_code 24 = .ok (.getfield 90, 3) := by decide +kernel
theorem d_81_27 : decode prog_10_method_13_code 27 = .ok (.iload_n 1, 1) := by decide +kernel
theorem d_81_28 : decode prog_10_method_13_code 28 = .ok (.aload_n 0, 1) := by decide +kernel
theorem d_81_29 : decode prog_10_method_13_code 29 = .ok (.getfield 71, 3) := by decide +kernel
theorem d_81_32 : decode prog_10_method_13_code 32 = .ok (.iload_n 3, 1) := by decide +kernel
theorem d_81_33 : decode prog_10_method_13_code 33 = .ok (.iaload, 1) := by decide +kernel
theorem d_81_34 : decode prog_10_method_13_code 34 = .ok (.iastore, 1) := by decide +kernel
theorem d_81_35 : decode prog_10_method_13_code 35 = .ok (.return_, 1) := by decide +kernel
theorem d_82_0 : decode prog_10_method_14_code 0 = .ok (.aload_n 0, 1) := by decide +kernel
theorem d_82_1 : decode prog_10_method_14_code 1 = .ok (.getfield 93, 3) := by decide +kernel
theorem d_82_4 : decode prog_10_method_14_code 4 = .ok (.iload_n 1, 1) := by decide +kernel
theorem d_82_5 : decode prog_10_method_14_code 5 = .ok (.aload_n 0, 1) := by decide +kernel
theorem d_82_6 : decode prog_10_method_14_code 6 = .ok (.getfield 68, 3) := by decide +kernel
theorem d_82_9 : decode prog_10_method_14_code 9 = .ok (.iload_n 2, 1) := by decide +kernel
theorem d_82_10 : decode prog_10_method_14_code 10 = .ok (.iaload, 1) := by decide +kernel
theorem d_82_11 : decode prog_10_method_14_code 11 = .ok (.iastore, 1) := by decide +kernel
theorem d_82_12 : decode prog_10_method_14_code 12 = .ok (.aload_n 0, 1) := by decide +kernel
theorem d_82_13 : decode prog_10_method_14_code 13 = .ok (.getfield 96, 3) := by decide +kernel
theorem d_82_16 : decode prog_10_method_14_code 16 = .ok (.iload_n 1, 1) := by decide +kernel
theorem d_82_17 : decode prog_10_method_14_code 17 = .ok (.iconst 1, 1) := by decide +kernel
theorem d_82_18 : decode prog_10_method_14_code 18 = .ok (.iastore, 1) := by decide +kernel
theorem d_82_19 : decode prog_10_method_14_code 19 = .ok (.aload_n 0, 1) := by decide +kernel
theorem d_82_20 : decode prog_10_method_14_code 20 = .ok (.getfield 99, 3) := by decide +kernel
theorem d_82_23 : decode prog_10_method_14_code 23 = .ok (.iconst 3, 1) := by decide +kernel
theorem d_82_24 : decode prog_10_method_14_code 24 = .ok (.iload_n 1, 1) := by decide +kernel
theorem d_82_25 : decode prog_10_method_14_code 25 = .ok (.imul, 1) := by decide +kernel
theorem d_82_26 : decode prog_10_method_14_code 26 = .ok (.iload_n 3, 1) := by decide +kernel
theorem d_82_27 : decode prog_10_method_14_code 27 = .ok (.iastore, 1) := by decide +kernel
theorem d_82_28 : decode prog_10_method_14_code 28 = .ok (.return_, 1) := by decide +kernel
theorem d_83_0 : decode prog_10_method_15_code 0 = .ok (.aload_n 0, 1) := by decide +kernel
theorem d_83_1 : decode prog_10_method_15_code 1 = .ok (.getfield 68, 3) := by decide +kernel
theorem d_83_4 : decode prog_10_method_15_code 4 = .ok (.iload_n 1, 1) := by decide +kernel
theorem d_83_5 : decode prog_10_method_15_code 5 = .ok (.iaload, 1) := by decide +kernel
theorem d_83_6 : decode prog_10_method_15_code 6 = .ok (.istore 4, 2) := by decide +kernel
theorem d_83_8 : decode prog_10_method_15_code 8 = .ok (.iconst 0, 1) := by decide +kernel
theorem d_83_9 : decode prog_10_method_15_code 9 = .ok (.istore 5, 2) := by decide +kernel
theorem d_83_11 : decode prog_10_method_15_code 11 = .ok (.iload 5, 2) := by decide +kernel
theorem d_83_13 : decode prog_10_method_15_code 13 = .ok (.aload_n 0, 1) := by decide +kernel
theorem d_83_14 : decode prog_10_method_15_code 14 = .ok (.iload_n 1, 1) := by decide +kernel
theorem d_83_15 : decode prog_10_method_15_code 15 = .ok (.invokevirtual 123, 3) := by decide +kernel
theorem d_83_18 : decode prog_10_method_15_code 18 = .ok (.if_icmp .ge 50, 3) := by decide +kernel
theorem d_83_21 : decode prog_10_method_15_code 21 = .ok (.aload_n 0, 1) := by decide +kernel
theorem d_83_22 : decode prog_10_method_15_code 22 = .ok (.iload_n 2, 1) := by decide +kernel
theorem d_83_23 : decode prog_10_method_15_code 23 = .ok (.iload 5, 2) := by decide +kernel
theorem d_83_25 : decode prog_10_method_15_code 25 = .ok (.iadd, 1) := by decide +kernel
theorem d_83_26 : decode prog_10_method_15_code 26 = .ok (.iload_n 3, 1) := by decide +kernel
theorem d_83_27 : decode prog_10_method_15_code 27 = .ok (.iload_n 1, 1) := by decide +kernel
theorem d_83_28 : decode prog_10_method_15_code 28 = .ok (.iload 4, 2) := by decide +kernel
theorem d_83_30 : decode prog_10_method_15_code 30 = .ok (.bipush 108, 2) := by decide +kernel
theorem d_83_32 : decode prog_10_method_15_code 32 = .ok (.if_icmp .ne 8, 3) := by decide +kernel
theorem d_83_35 : decode prog_10_method_15_code 35 = .ok (.iload 5, 2) := by decide +kernel
theorem d_83_37 : decode prog_10_method_15_code 37 = .ok (.ifCond .eq 16, 3) := by decide +kernel
theorem d_83_40 : decode prog_10_method_15_code 40 = .ok (.iload 4, 2) := by decide +kernel
theorem d_83_42 : decode prog_10_method_15_code 42 = .ok (.bipush 99, 2) := by decide +kernel
theorem d_83_44 : decode prog_10_method_15_code 44 = .ok (.if_icmp .ne 13, 3) := by decide +kernel
theorem d_83_47 : decode prog_10_method_15_code 47 = .ok (.iload 5, 2) := by decide +kernel
theorem d_83_49 : decode prog_10_method_15_code 49 = .ok (.iconst 1, 1) := by decide +kernel
theorem d_83_50 : decode prog_10_method_15_code 50 = .ok (.if_icmp .ne 7, 3) := by decide +kernel
theorem d_83_53 : decode prog_10_method_15_code 53 = .ok (.iconst 1, 1) := by decide +kernel
theorem d_83_54 : decode prog_10_method_15_code 54 = .ok (.goto 4, 3) := by decide +kernel
theorem d_83_57 : decode prog_10_method_15_code 57 = .ok (.iconst 0, 1) := by decide +kernel
theorem d_83_58 : decode prog_10_method_15_code 58 = .ok (.iconst 0, 1) := by decide +kernel
theorem d_83_59 : decode prog_10_method_15_code 59 = .ok (.invokevirtual 130, 3) := by decide +kernel
theorem d_83_62 : decode prog_10_method_15_code 62 = .ok (.iinc 5 1, 3) := by decide +kernel
theorem d_83_65 : decode prog_10_method_15_code 65 = .ok (.goto (-54), 3) := by decide +kernel
theorem d_83_68 : decode prog_10_method_15_code 68 = .ok (.aload_n 0, 1) := by decide +kernel
theorem d_83_69 : decode prog_10_method_15_code 69 = .ok (.getfield 93, 3) := by decide +kernel
theorem d_83_72 : decode prog_10_method_15_code 72 = .ok (.iload_n 3, 1) := by decide +kernel
theorem d_83_73 : decode prog_10_method_15_code 73 = .ok (.iload 4, 2) := by decide +kernel
theorem d_83_75 : decode prog_10_method_15_code 75 = .ok (.iastore, 1) := by decide +kernel
theorem d_83_76 : decode prog_10_method_15_code 76 = .ok (.aload_n 0, 1) := by decide +kernel
theorem d_83_77 : decode prog_10_method_15_code 77 = .ok (.getfield 96, 3) := by decide +kernel
theorem d_83_80 : decode prog_10_method_15_code 80 = .ok (.iload_n 3, 1) := by decide +kernel
theorem d_83_81 : decode prog_10_method_15_code 81 = .ok (.aload_n 0, 1) := by decide +kernel
theorem d_83_82 : decode prog_10_method_15_code 82 = .ok (.iload_n 1, 1) := by decide +kernel
theorem d_83_83 : decode prog_10_method_15_code 83 = .ok (.invokevirtual 123, 3) := by decide +kernel
theorem d_83_86 : decode prog_10_method_15_code 86 = .ok (.iastore, 1) := by decide +kernel
theorem d_83_87 : decode prog_10_method_15_code 87 = .ok (.aload_n 0, 1) := by decide +kernel
theorem d_83_88 : decode prog_10_method_15_code 88 = .ok (.getfield 99, 3) := by decide +kernel
theorem d_83_91 : decode prog_10_method_15_code 91 = .ok (.iconst 3, 1) := by decide +kernel
theorem d_83_92 : decode prog_10_method_15_code 92 = .ok (.iload_n 3, 1) := by decide +kernel
theorem d_83_93 : decode prog_10_method_15_code 93 = .ok (.imul, 1) := by decide +kernel
theorem d_83_94 : decode prog_10_method_15_code 94 = .ok (.iload 4, 2) := by decide +kernel
theorem d_83_96 : decode prog_10_method_15_code 96 = .ok (.bipush 108, 2) := by decide +kernel
theorem d_83_98 : decode prog_10_method_15_code 98 = .ok (.if_icmp .ne 9, 3) := by decide +kernel
theorem d_83_101 : decode prog_10_method_15_code 101 = .ok (.iload_n 2, 1) := by decide +kernel
theorem d_83_102 : decode prog_10_method_15_code 102 = .ok (.iconst 1, 1) := by decide +kernel
theorem d_83_103 : decode prog_10_method_15_code 103 = .ok (.iadd, 1) := by decide +kernel
theorem d_83_104 : decode prog_10_method_15_code 104 = .ok (.goto 4, 3) := by decide +kernel
theorem d_83_107 : decode prog_10_method_15_code 107 = .ok (.iload_n 2, 1) := by decide +kernel
theorem d_83_108 : decode prog_10_method_15_code 108 = .ok (.iastore, 1) := by decide +kernel
theorem d_83_109 : decode prog_10_method_15_code 109 = .ok (.aload_n 0, 1) := by decide +kernel
theorem d_83_110 : decode prog_10_method_15_code 110 = .ok (.getfield 99, 3) := by decide +kernel
theorem d_83_113 : decode prog_10_method_15_code 113 = .ok (.iconst 3, 1) := by decide +kernel
theorem d_83_114 : decode prog_10_method_15_code 114 = .ok (.iload_n 3, 1) := by decide +kernel
theorem d_83_115 : decode prog_10_method_15_code 115 = .ok (.imul, 1) := by decide +kernel
theorem d_83_116 : decode prog_10_method_15_code 116 = .ok (.iconst 1, 1) := by decide +kernel
theorem d_83_117 : decode prog_10_method_15_code 117 = .ok (.iadd, 1) := by decide +kernel
theorem d_83_118 : decode prog_10_method_15_code 118 = .ok (.iload 4, 2) := by decide +kernel
theorem d_83_120 : decode prog_10_method_15_code 120 = .ok (.bipush 108, 2) := by decide +kernel
theorem d_83_122 : decode prog_10_method_15_code 122 = .ok (.if_icmp .ne 7, 3) := by decide +kernel
theorem d_83_125 : decode prog_10_method_15_code 125 = .ok (.iload_n 2, 1) := by decide +kernel
theorem d_83_126 : decode prog_10_method_15_code 126 = .ok (.goto 19, 3) := by decide +kernel
theorem d_83_129 : decode prog_10_method_15_code 129 = .ok (.iload 4, 2) := by decide +kernel
theorem d_83_131 : decode prog_10_method_15_code 131 = .ok (.bipush 99, 2) := by decide +kernel
theorem d_83_133 : decode prog_10_method_15_code 133 = .ok (.if_icmp .ne 9, 3) := by decide +kernel
theorem d_83_136 : decode prog_10_method_15_code 136 = .ok (.iload_n 2, 1) := by decide +kernel
theorem d_83_137 : decode prog_10_method_15_code 137 = .ok (.iconst 2, 1) := by decide +kernel
theorem d_83_138 : decode prog_10_method_15_code 138 = .ok (.iadd, 1) := by decide +kernel
theorem d_83_139 : decode prog_10_method_15_code 139 = .ok (.goto 6, 3) := by decide +kernel
theorem d_83_142 : decode prog_10_method_15_code 142 = .ok (.iload_n 2, 1) := by decide +kernel
theorem d_83_143 : decode prog_10_method_15_code 143 = .ok (.iconst 1, 1) := by decide +kernel
theorem d_83_144 : decode prog_10_method_15_code 144 = .ok (.iadd, 1) := by decide +kernel
theorem d_83_145 : decode prog_10_method_15_code 145 = .ok (.iastore, 1) := by decide +kernel
theorem d_83_146 : decode prog_10_method_15_code 146 = .ok (.aload_n 0, 1) := by decide +kernel
theorem d_83_147 : decode prog_10_method_15_code 147 = .ok (.getfield 99, 3) := by decide +kernel
theorem d_83_150 : decode prog_10_method_15_code 150 = .ok (.iconst 3, 1) := by decide +kernel
theorem d_83_151 : decode prog_10_method_15_code 151 = .ok (.iload_n 3, 1) := by decide +kernel
theorem d_83_152 : decode prog_10_method_15_code 152 = .ok (.imul, 1) := by decide +kernel
theorem d_83_153 : decode prog_10_method_15_code 153 = .ok (.iconst 2, 1) := by decide +kernel
theorem d_83_154 : decode prog_10_method_15_code 154 = .ok (.iadd, 1) := by decide +kernel
theorem d_83_155 : decode prog_10_method_15_code 155 = .ok (.iload_n 2, 1) := by decide +kernel
theorem d_83_156 : decode prog_10_method_15_code 156 = .ok (.iconst 1, 1) := by decide +kernel
theorem d_83_157 : decode prog_10_method_15_code 157 = .ok (.iadd, 1) := by decide +kernel
theorem d_83_158 : decode prog_10_method_15_code 158 = .ok (.iastore, 1) := by decide +kernel
theorem d_83_159 : decode prog_10_method_15_code 159 = .ok (.return_, 1) := by decide +kernel
theorem d_84_0 : decode prog_10_method_16_code 0 = .ok (.aload_n 0, 1) := by decide +kernel
theorem d_84_1 : decode prog_10_method_16_code 1 = .ok (.getfield 74, 3) := by decide +kernel
theorem d_84_4 : decode prog_10_method_16_code 4 = .ok (.iload_n 1, 1) := by decide +kernel
theorem d_84_5 : decode prog_10_method_16_code 5 = .ok (.iaload, 1) := by decide +kernel
theorem d_84_6 : decode prog_10_method_16_code 6 = .ok (.istore 4, 2) := by decide +kernel
theorem d_84_8 : decode prog_10_method_16_code 8 = .ok (.aload_n 0, 1) := by decide +kernel
theorem d_84_9 : decode prog_10_method_16_code 9 = .ok (.getfield 77, 3) := by decide +kernel
theorem d_84_12 : decode prog_10_method_16_code 12 = .ok (.iload_n 1, 1) := by decide +kernel
theorem d_84_13 : decode prog_10_method_16_code 13 = .ok (.iaload, 1) := by decide +kernel
theorem d_84_14 : decode prog_10_method_16_code 14 = .ok (.istore 5, 2) := by decide +kernel
theorem d_84_16 : decode prog_10_method_16_code 16 = .ok (.iconst 0, 1) := by decide +kernel
theorem d_84_17 : decode prog_10_method_16_code 17 = .ok (.istore 6, 2) := by decide +kernel
theorem d_84_19 : decode prog_10_method_16_code 19 = .ok (.iload 6, 2) := by decide +kernel
theorem d_84_21 : decode prog_10_method_16_code 21 = .ok (.iload 4, 2) := by decide +kernel
theorem d_84_23 : decode prog_10_method_16_code 23 = .ok (.iload 5, 2) := by decide +kernel
theorem d_84_25 : decode prog_10_method_16_code 25 = .ok (.iadd, 1) := by decide +kernel
theorem d_84_26 : decode prog_10_method_16_code 26 = .ok (.if_icmp .ge 94, 3) := by decide +kernel
theorem d_84_29 : decode prog_10_method_16_code 29 = .ok (.iload 6, 2) := by decide +kernel
theorem d_84_31 : decode prog_10_method_16_code 31 = .ok (.iload 4, 2) := by decide +kernel
theorem d_84_33 : decode prog_10_method_16_code 33 = .ok (.if_icmp .ge 13, 3) := by decide +kernel
theorem d_84_36 : decode prog_10_method_16_code 36 = .ok (.iload_n 3, 1) := by decide +kernel
theorem d_84_37 : decode prog_10_method_16_code 37 = .ok (.iload 5, 2) := by decide +kernel
theorem d_84_39 : decode prog_10_method_16_code 39 = .ok (.iadd, 1) := by decide +kernel
theorem d_84_40 : decode prog_10_method_16_code 40 = .ok (.iload 6, 2) := by decide +kernel
theorem d_84_42 : decode prog_10_method_16_code 42 = .ok (.iadd, 1) := by decide +kernel
theorem d_84_43 : decode prog_10_method_16_code 43 = .ok (.goto 10, 3) := by decide +kernel
theorem d_84_46 : decode prog_10_method_16_code 46 = .ok (.iload_n 3, 1) := by decide +kernel
theorem d_84_47 : decode prog_10_method_16_code 47 = .ok (.iload 6, 2) := by decide +kernel
theorem d_84_49 : decode prog_10_method_16_code 49 = .ok (.iadd, 1) := by decide +kernel
theorem d_84_50 : decode prog_10_method_16_code 50 = .ok (.iload 4, 2) := by decide +kernel
theorem d_84_52 : decode prog_10_method_16_code 52 = .ok (.isub, 1) := by decide +kernel
theorem d_84_53 : decode prog_10_method_16_code 53 = .ok (.istore 7, 2) := by decide +kernel
theorem d_84_55 : decode prog_10_method_16_code 55 = .ok (.aload_n 0, 1) := by decide +kernel
theorem d_84_56 : decode prog_10_method_16_code 56 = .ok (.iload_n 2, 1) := by decide +kernel
theorem d_84_57 : decode prog_10_method_16_code 57 = .ok (.iload 6, 2) := by decide +kernel
theorem d_84_59 : decode prog_10_method_16_code 59 = .ok (.iadd, 1) := by decide +kernel
theorem d_84_60 : decode prog_10_method_16_code 60 = .ok (.iload 7, 2) := by decide +kernel
theorem d_84_62 : decode prog_10_method_16_code 62 = .ok (.iload_n 1, 1) := by decide +kernel
theorem d_84_63 : decode prog_10_method_16_code 63 = .ok (.iload 6, 2) := by decide +kernel
theorem d_84_65 : decode prog_10_method_16_code 65 = .ok (.iload 4, 2) := by decide +kernel
theorem d_84_67 : decode prog_10_method_16_code 67 = .ok (.if_icmp .ge 7, 3) := by decide +kernel
theorem d_84_70 : decode prog_10_method_16_code 70 = .ok (.iconst 1, 1) := by decide +kernel
theorem d_84_71 : decode prog_10_method_16_code 71 = .ok (.goto 4, 3) := by decide +kernel
theorem d_84_74 : decode prog_10_method_16_code 74 = .ok (.iconst 0, 1) := by decide +kernel
theorem d_84_75 : decode prog_10_method_16_code 75 = .ok (.aload_n 0, 1) := by decide +kernel
theorem d_84_76 : decode prog_10_method_16_code 76 = .ok (.getfield 68, 3) := by decide +kernel
theorem d_84_79 : decode prog_10_method_16_code 79 = .ok (.iload_n 1, 1) := by decide +kernel
theorem d_84_80 : decode prog_10_method_16_code 80 = .ok (.iaload, 1) := by decide +kernel
theorem d_84_81 : decode prog_10_method_16_code 81 = .ok (.bipush 62, 2) := by decide +kernel
theorem d_84_83 : decode prog_10_method_16_code 83 = .ok (.if_icmp .ne 7, 3) := by decide +kernel
theorem d_84_86 : decode prog_10_method_16_code 86 = .ok (.iconst 1, 1) := by decide +kernel
theorem d_84_87 : decode prog_10_method_16_code 87 = .ok (.goto 4, 3) := by decide +kernel
theorem d_84_90 : decode prog_10_method_16_code 90 = .ok (.iconst 0, 1) := by decide +kernel
theorem d_84_91 : decode prog_10_method_16_code 91 = .ok (.if_icmp .ne 7, 3) := by decide +kernel
theorem d_84_94 : decode prog_10_method_16_code 94 = .ok (.iconst 1, 1) := by decide +kernel
theorem d_84_95 : decode prog_10_method_16_code 95 = .ok (.goto 4, 3) := by decide +kernel
theorem d_84_98 : decode prog_10_method_16_code 98 = .ok (.iconst 0, 1) := by decide +kernel
theorem d_84_99 : decode prog_10_method_16_code 99 = .ok (.iconst 0, 1) := by decide +kernel
theorem d_84_100 : decode prog_10_method_16_code 100 = .ok (.invokevirtual 130, 3) := by decide +kernel
theorem d_84_103 : decode prog_10_method_16_code 103 = .ok (.aload_n 0, 1) := by decide +kernel
theorem d_84_104 : decode prog_10_method_16_code 104 = .ok (.iload 7, 2) := by decide +kernel
theorem d_84_106 : decode prog_10_method_16_code 106 = .ok (.iload_n 1, 1) := by decide +kernel
theorem d_84_107 : decode prog_10_method_16_code 107 = .ok (.iload_n 2, 1) := by decide +kernel
theorem d_84_108 : decode prog_10_method_16_code 108 = .ok (.iload 6, 2) := by decide +kernel
theorem d_84_110 : decode prog_10_method_16_code 110 = .ok (.iadd, 1) := by decide +kernel
theorem d_84_111 : decode prog_10_method_16_code 111 = .ok (.invokevirtual 134, 3) := by decide +kernel
theorem d_84_114 : decode prog_10_method_16_code 114 = .ok (.iinc 6 1, 3) := by decide +kernel
theorem d_84_117 : decode prog_10_method_16_code 117 = .ok (.goto (-98), 3) := by decide +kernel
theorem d_84_120 : decode prog_10_method_16_code 120 = .ok (.return_, 1) := by decide +kernel
theorem d_85_0 : decode prog_10_method_17_code 0 = .ok (.iconst 0, 1) := by decide +kernel
theorem d_85_1 : decode prog_10_method_17_code 1 = .ok (.istore_n 1, 1) := by decide +kernel
theorem d_85_2 : decode prog_10_method_17_code 2 = .ok (.iconst 0, 1) := by decide +kernel
theorem d_85_3 : decode prog_10_method_17_code 3 = .ok (.istore_n 2, 1) := by decide +kernel
theorem d_85_4 : decode prog_10_method_17_code 4 = .ok (.iconst 0, 1) := by decide +kernel
theorem d_85_5 : decode prog_10_method_17_code 5 = .ok (.istore_n 3, 1) := by decide +kernel
theorem d_85_6 : decode prog_10_method_17_code 6 = .ok (.iload_n 3, 1) := by decide +kernel
theorem d_85_7 : decode prog_10_method_17_code 7 = .ok (.aload_n 0, 1) := by decide +kernel
theorem d_85_8 : decode prog_10_method_17_code 8 = .ok (.getfield 110, 3) := by decide +kernel
theorem d_85_11 : decode prog_10_method_17_code 11 = .ok (.if_icmp .ge 170, 3) := by decide +kernel
theorem d_85_14 : decode prog_10_method_17_code 14 = .ok (.aload_n 0, 1) := by decide +kernel
theorem d_85_15 : decode prog_10_method_17_code 15 = .ok (.getfield 68, 3) := by decide +kernel
theorem d_85_18 : decode prog_10_method_17_code 18 = .ok (.iload_n 3, 1) := by decide +kernel
theorem d_85_19 : decode prog_10_method_17_code 19 = .ok (.iaload, 1) := by decide +kernel
theorem d_85_20 : decode prog_10_method_17_code 20 = .ok (.istore 4, 2) := by decide +kernel
theorem d_85_22 : decode prog_10_method_17_code 22 = .ok (.iload 4, 2) := by decide +kernel
theorem d_85_24 : decode prog_10_method_17_code 24 = .ok (.bipush 60, 2) := by decide +kernel
theorem d_85_26 : decode prog_10_method_17_code 26 = .ok (.if_icmp .eq 10, 3) := by decide +kernel
theorem d_85_29 : decode prog_10_method_17_code 29 = .ok (.iload 4, 2) := by decide +kernel
theorem d_85_31 : decode prog_10_method_17_code 31 = .ok (.bipush 62, 2) := by decide +kernel
theorem d_85_33 : decode prog_10_method_17_code 33 = .ok (.if_icmp .ne 13, 3) := by decide +kernel
theorem d_85_36 : decode prog_10_method_17_code 36 = .ok (.aload_n 0, 1) := by decide +kernel
theorem d_85_37 : decode prog_10_method_17_code 37 = .ok (.iload_n 3, 1) := by decide +kernel
theorem d_85_38 : decode prog_10_method_17_code 38 = .ok (.iload_n 1, 1) := by decide +kernel
theorem d_85_39 : decode prog_10_method_17_code 39 = .ok (.iload_n 2, 1) := by decide +kernel
theorem d_85_40 : decode prog_10_method_17_code 40 = .ok (.invokevirtual 138, 3) := by decide +kernel
theorem d_85_43 : decode prog_10_method_17_code 43 = .ok (.goto 116, 3) := by decide +kernel
theorem d_85_46 : decode prog_10_method_17_code 46 = .ok (.iload 4, 2) := by decide +kernel
theorem d_85_48 : decode prog_10_method_17_code 48 = .ok (.bipush 108, 2) := by decide +kernel
theorem d_85_50 : decode prog_10_method_17_code 50 = .ok (.if_icmp .eq 17, 3) := by decide +kernel
theorem d_85_53 : decode prog_10_method_17_code 53 = .ok (.iload 4, 2) := by decide +kernel
theorem d_85_55 : decode prog_10_method_17_code 55 = .ok (.bipush 114, 2) := by decide +kernel
theorem d_85_57 : decode prog_10_method_17_code 57 = .ok (.if_icmp .eq 10, 3) := by decide +kernel
theorem d_85_60 : decode prog_10_method_17_code 60 = .ok (.iload 4, 2) := by decide +kernel
theorem d_85_62 : decode prog_10_method_17_code 62 = .ok (.bipush 99, 2) := by decide +kernel
theorem d_85_64 : decode prog_10_method_17_code 64 = .ok (.if_icmp .ne 13, 3) := by decide +kernel
theorem d_85_67 : decode prog_10_method_17_code 67 = .ok (.aload_n 0, 1) := by decide +kernel
theorem d_85_68 : decode prog_10_method_17_code 68 = .ok (.iload_n 3, 1) := by decide +kernel
theorem d_85_69 : decode prog_10_method_17_code 69 = .ok (.iload_n 1, 1) := by decide +kernel
theorem d_85_70 : decode prog_10_method_17_code 70 = .ok (.iload_n 2, 1) := by decide +kernel
theorem d_85_71 : decode prog_10_method_17_code 71 = .ok (.invokevirtual 141, 3) := by decide +kernel
theorem d_85_74 : decode prog_10_method_17_code 74 = .ok (.goto 85, 3) := by decide +kernel
theorem d_85_77 : decode prog_10_method_17_code 77 = .ok (.iload 4, 2) := by decide +kernel
theorem d_85_79 : decode prog_10_method_17_code 79 = .ok (.bipush 120, 2) := by decide +kernel
theorem d_85_81 : decode prog_10_method_17_code 81 = .ok (.if_icmp .ne 15, 3) := by decide +kernel
theorem d_85_84 : decode prog_10_method_17_code 84 = .ok (.aload_n 0, 1) := by decide +kernel
theorem d_85_85 : decode prog_10_method_17_code 85 = .ok (.iload_n 1, 1) := by decide +kernel
theorem d_85_86 : decode prog_10_method_17_code 86 = .ok (.iconst (-1), 1) := by decide +kernel
theorem d_85_87 : decode prog_10_method_17_code 87 = .ok (.iload_n 3, 1) := by decide +kernel
theorem d_85_88 : decode prog_10_method_17_code 88 = .ok (.iconst 0, 1) := by decide +kernel
theorem d_85_89 : decode prog_10_method_17_code 89 = .ok (.iconst (-1), 1) := by decide +kernel
theorem d_85_90 : decode prog_10_method_17_code 90 = .ok (.invokevirtual 130, 3) := by decide +kernel
theorem d_85_93 : decode prog_10_method_17_code 93 = .ok (.goto 66, 3) := by decide +kernel
theorem d_85_96 : decode prog_10_method_17_code 96 = .ok (.iload 4, 2) := by decide +kernel
theorem d_85_98 : decode prog_10_method_17_code 98 = .ok (.bipush 111, 2) := by decide +kernel
theorem d_85_100 : decode prog_10_method_17_code 100 = .ok (.if_icmp .ne 21, 3) := by decide +kernel
theorem d_85_103 : decode prog_10_method_17_code 103 = .ok (.aload_n 0, 1) := by decide +kernel
theorem d_85_104 : decode prog_10_method_17_code 104 = .ok (.getfield 93, 3) := by decide +kernel
theorem d_85_107 : decode prog_10_method_17_code 107 = .ok (.iload_n 2, 1) := by decide +kernel
theorem d_85_108 : decode prog_10_method_17_code 108 = .ok (.iload 4, 2) := by decide +kernel
theorem d_85_110 : decode prog_10_method_17_code 110 = .ok (.iastore, 1) := by decide +kernel
theorem d_85_111 : decode prog_10_method_17_code 111 = .ok (.aload_n 0, 1) := by decide +kernel
theorem d_85_112 : decode prog_10_method_17_code 112 = .ok (.getfield 96, 3) := by decide +kernel
theorem d_85_115 : decode prog_10_method_17_code 115 = .ok (.iload_n 2, 1) := by decide +kernel
theorem d_85_116 : decode prog_10_method_17_code 116 = .ok (.iconst 0, 1) := by decide +kernel
theorem d_85_117 : decode prog_10_method_17_code 117 = .ok (.iastore, 1) := by decide +kernel
theorem d_85_118 : decode prog_10_method_17_code 118 = .ok (.goto 41, 3) := by decide +kernel
theorem d_85_121 : decode prog_10_method_17_code 121 = .ok (.aload_n 0, 1) := by decide +kernel
theorem d_85_122 : decode prog_10_method_17_code 122 = .ok (.iload_n 1, 1) := by decide +kernel
theorem d_85_123 : decode prog_10_method_17_code 123 = .ok (.iload_n 2, 1) := by decide +kernel
theorem d_85_124 : decode prog_10_method_17_code 124 = .ok (.iload_n 3, 1) := by decide +kernel
theorem d_85_125 : decode prog_10_method_17_code 125 = .ok (.iconst 0, 1) := by decide +kernel
theorem d_85_126 : decode prog_10_method_17_code 126 = .ok (.iload 4, 2) := by decide +kernel
theorem d_85_128 : decode prog_10_method_17_code 128 = .ok (.bipush 107, 2) := by decide +kernel
theorem d_85_130 : decode prog_10_method_17_code 130 = .ok (.if_icmp .ne 7, 3) := by decide +kernel
theorem d_85_133 : decode prog_10_method_17_code 133 = .ok (.iconst 0, 1) := by decide +kernel
theorem d_85_134 : decode prog_10_method_17_code 134 = .ok (.goto 15, 3) := by decide +kernel
theorem d_85_137 : decode prog_10_method_17_code 137 = .ok (.iload 4, 2) := by decide +kernel
theorem d_85_139 : decode prog_10_method_17_code 139 = .ok (.bipush 112, 2) := by decide +kernel
theorem d_85_141 : decode prog_10_method_17_code 141 = .ok (.if_icmp .ne 7, 3) := by decide +kernel
theorem d_85_144 : decode prog_10_method_17_code 144 = .ok (.iconst 1, 1) := by decide +kernel
theorem d_85_145 : decode prog_10_method_17_code 145 = .ok (.goto 4, 3) := by decide +kernel
theorem d_85_148 : decode prog_10_method_17_code 148 = .ok (.iconst (-1), 1) := by decide +kernel
theorem d_85_149 : decode prog_10_method_17_code 149 = .ok (.invokevirtual 130, 3) := by decide +kernel
theorem d_85_152 : decode prog_10_method_17_code 152 = .ok (.aload_n 0, 1) := by decide +kernel
theorem d_85_153 : decode prog_10_method_17_code 153 = .ok (.iload_n 2, 1) := by decide +kernel
theorem d_85_154 : decode prog_10_method_17_code 154 = .ok (.iload_n 3, 1) := by decide +kernel
theorem d_85_155 : decode prog_10_method_17_code 155 = .ok (.iload_n 1, 1) := by decide +kernel
theorem d_85_156 : decode prog_10_method_17_code 156 = .ok (.invokevirtual 134, 3) := by decide +kernel
theorem d_85_159 : decode prog_10_method_17_code 159 = .ok (.iload_n 1, 1) := by decide +kernel
theorem d_85_160 : decode prog_10_method_17_code 160 = .ok (.aload_n 0, 1) := by decide +kernel
theorem d_85_161 : decode prog_10_method_17_code 161 = .ok (.iload_n 3, 1) := by decide +kernel
theorem d_85_162 : decode prog_10_method_17_code 162 = .ok (.invokevirtual 123, 3) := by decide +kernel
theorem d_85_165 : decode prog_10_method_17_code 165 = .ok (.iadd, 1) := by decide +kernel
theorem d_85_166 : decode prog_10_method_17_code 166 = .ok (.istore_n 1, 1) := by decide +kernel
theorem d_85_167 : decode prog_10_method_17_code 167 = .ok (.iload_n 2, 1) := by decide +kernel
theorem d_85_168 : decode prog_10_method_17_code 168 = .ok (.aload_n 0, 1) := by decide +kernel
theorem d_85_169 : decode prog_10_method_17_code 169 = .ok (.iload_n 3, 1) := by decide +kernel
theorem d_85_170 : decode prog_10_method_17_code 170 = .ok (.invokevirtual 144, 3) := by decide +kernel
theorem d_85_173 : decode prog_10_method_17_code 173 = .ok (.iadd, 1) := by decide +kernel
theorem d_85_174 : decode prog_10_method_17_code 174 = .ok (.istore_n 2, 1) := by decide +kernel
theorem d_85_175 : decode prog_10_method_17_code 175 = .ok (.iinc 3 1, 3) := by decide +kernel
theorem d_85_178 : decode prog_10_method_17_code 178 = .ok (.goto (-172), 3) := by decide +kernel
theorem d_85_181 : decode prog_10_method_17_code 181 = .ok (.return_, 1) := by decide +kernel
theorem d_86_0 : decode prog_10_method_18_code 0 = .ok (.iconst 0, 1) := by decide +kernel
theorem d_86_1 : decode prog_10_method_18_code 1 = .ok (.istore_n 1, 1) := by decide +kernel
theorem d_86_2 : decode prog_10_method_18_code 2 = .ok (.iconst 0, 1) := by decide +kernel
theorem d_86_3 : decode prog_10_method_18_code 3 = .ok (.istore_n 2, 1) := by decide +kernel
theorem d_86_4 : decode prog_10_method_18_code 4 = .ok (.iload_n 2, 1) := by decide +kernel
theorem d_86_5 : decode prog_10_method_18_code 5 = .ok (.aload_n 0, 1) := by decide +kernel
theorem d_86_6 : decode prog_10_method_18_code 6 = .ok (.getfield 26, 3) := by decide +kernel
theorem d_86_9 : decode prog_10_method_18_code 9 = .ok (.aload_n 0, 1) := by decide +kernel
theorem d_86_10 : decode prog_10_method_18_code 10 = .ok (.getfield 120, 3) := by decide +kernel
theorem d_86_13 : decode prog_10_method_18_code 13 = .ok (.iaload, 1) := by decide +kernel
theorem d_86_14 : decode prog_10_method_18_code 14 = .ok (.if_icmp .ge 38, 3) := by decide +kernel
theorem d_86_17 : decode prog_10_method_18_code 17 = .ok (.iload_n 1, 1) := by decide +kernel
theorem d_86_18 : decode prog_10_method_18_code 18 = .ok (.ifCond .ne 22, 3) := by decide +kernel
theorem d_86_21 : decode prog_10_method_18_code 21 = .ok (.aload_n 0, 1) := by decide +kernel
theorem d_86_22 : decode prog_10_method_18_code 22 = .ok (.getfield 80, 3) := by decide +kernel
theorem d_86_25 : decode prog_10_method_18_code 25 = .ok (.iload_n 2, 1) := by decide +kernel
theorem d_86_26 : decode prog_10_method_18_code 26 = .ok (.iaload, 1) := by decide +kernel
theorem d_86_27 : decode prog_10_method_18_code 27 = .ok (.ifCond .lt 17, 3) := by decide +kernel
theorem d_86_30 : decode prog_10_method_18_code 30 = .ok (.aload_n 0, 1) := by decide +kernel
theorem d_86_31 : decode prog_10_method_18_code 31 = .ok (.getfield 80, 3) := by decide +kernel
theorem d_86_34 : decode prog_10_method_18_code 34 = .ok (.iload_n 2, 1) := by decide +kernel
theorem d_86_35 : decode prog_10_method_18_code 35 = .ok (.iaload, 1) := by decide +kernel
theorem d_86_36 : decode prog_10_method_18_code 36 = .ok (.iload_n 2, 1) := by decide +kernel
theorem d_86_37 : decode prog_10_method_18_code 37 = .ok (.if_icmp .eq 7, 3) := by decide +kernel
theorem d_86_40 : decode prog_10_method_18_code 40 = .ok (.iconst 1, 1) := by decide +kernel
theorem d_86_41 : decode prog_10_method_18_code 41 = .ok (.goto 4, 3) := by decide +kernel
theorem d_86_44 : decode prog_10_method_18_code 44 = .ok (.iconst 0, 1) := by decide +kernel
theorem d_86_45 : decode prog_10_method_18_code 45 = .ok (.istore_n 1, 1) := by decide +kernel
theorem d_86_46 : decode prog_10_method_18_code 46 = .ok (.iinc 2 1, 3) := by decide +kernel
theorem d_86_49 : decode prog_10_method_18_code 49 = .ok (.goto (-45), 3) := by decide +kernel
theorem d_86_52 : decode prog_10_method_18_code 52 = .ok (.iload_n 1, 1) := by decide +kernel
theorem d_86_53 : decode prog_10_method_18_code 53 = .ok (.ireturn, 1) := by decide +kernel
theorem d_87_0 : decode prog_10_method_19_code 0 = .ok (.iconst 0, 1) := by decide +kernel
theorem d_87_1 : decode prog_10_method_19_code 1 = .ok (.istore_n 1, 1) := by decide +kernel
theorem d_87_2 : decode prog_10_method_19_code 2 = .ok (.iload_n 1, 1) := by decide +kernel
theorem d_87_3 : decode prog_10_method_19_code 3 = .ok (.aload_n 0, 1) := by decide +kernel
theorem d_87_4 : decode prog_10_method_19_code 4 = .ok (.getfield 26, 3) := by decide +kernel
theorem d_87_7 : decode prog_10_method_19_code 7 = .ok (.aload_n 0, 1) := by decide +kernel
theorem d_87_8 : decode prog_10_method_19_code 8 = .ok (.getfield 120, 3) := by decide +kernel
theorem d_87_11 : decode prog_10_method_19_code 11 = .ok (.iaload, 1) := by decide +kernel
theorem d_87_12 : decode prog_10_method_19_code 12 = .ok (.if_icmp .ge 51, 3) := by decide +kernel
theorem d_87_15 : decode prog_10_method_19_code 15 = .ok (.aload_n 0, 1) := by decide +kernel
theorem d_87_16 : decode prog_10_method_19_code 16 = .ok (.getfield 80, 3) := by decide +kernel
theorem d_87_19 : decode prog_10_method_19_code 19 = .ok (.iload_n 1, 1) := by decide +kernel
theorem d_87_20 : decode prog_10_method_19_code 20 = .ok (.iaload, 1) := by decide +kernel
theorem d_87_21 : decode prog_10_method_19_code 21 = .ok (.ifCond .lt 36, 3) := by decide +kernel
theorem d_87_24 : decode prog_10_method_19_code 24 = .ok (.aload_n 0, 1) := by decide +kernel
theorem d_87_25 : decode prog_10_method_19_code 25 = .ok (.getfield 80, 3) := by decide +kernel
theorem d_87_28 : decode prog_10_method_19_code 28 = .ok (.iload_n 1, 1) := by decide +kernel
theorem d_87_29 : decode prog_10_method_19_code 29 = .ok (.iaload, 1) := by decide +kernel
theorem d_87_30 : decode prog_10_method_19_code 30 = .ok (.iload_n 1, 1) := by decide +kernel
theorem d_87_31 : decode prog_10_method_19_code 31 = .ok (.isub, 1) := by decide +kernel
theorem d_87_32 : decode prog_10_method_19_code 32 = .ok (.bipush 8, 2) := by decide +kernel
theorem d_87_34 : decode prog_10_method_19_code 34 = .ok (.if_icmp .gt 16, 3) := by decide +kernel
theorem d_87_37 : decode prog_10_method_19_code 37 = .ok (.iload_n 1, 1) := by decide +kernel
theorem d_87_38 : decode prog_10_method_19_code 38 = .ok (.aload_n 0, 1) := by decide +kernel
theorem d_87_39 : decode prog_10_method_19_code 39 = .ok (.getfield 80, 3) := by decide +kernel
theorem d_87_42 : decode prog_10_method_19_code 42 = .ok (.iload_n 1, 1) := by decide +kernel
theorem d_87_43 : decode prog_10_method_19_code 43 = .ok (.iaload, 1) := by decide +kernel
theorem d_87_44 : decode prog_10_method_19_code 44 = .ok (.isub, 1) := by decide +kernel
theorem d_87_45 : decode prog_10_method_19_code 45 = .ok (.bipush 8, 2) := by decide +kernel
theorem d_87_47 : decode prog_10_method_19_code 47 = .ok (.if_icmp .le 10, 3) := by decide +kernel
theorem d_87_50 : decode prog_10_method_19_code 50 = .ok (.aload_n 0, 1) := by decide +kernel
theorem d_87_51 : decode prog_10_method_19_code 51 = .ok (.getfield 90, 3) := by decide +kernel
theorem d_87_54 : decode prog_10_method_19_code 54 = .ok (.iload_n 1, 1) := by decide +kernel
theorem d_87_55 : decode prog_10_method_19_code 55 = .ok (.iaload, 1) := by decide +kernel
theorem d_87_56 : decode prog_10_method_19_code 56 = .ok (.ireturn, 1) := by decide +kernel
theorem d_87_57 : decode prog_10_method_19_code 57 = .ok (.iinc 1 1, 3) := by decide +kernel
theorem d_87_60 : decode prog_10_method_19_code 60 = .ok (.goto (-58), 3) := by decide +kernel
theorem d_87_63 : decode prog_10_method_19_code 63 = .ok (.iconst (-1), 1) := by decide +kernel
theorem d_87_64 : decode prog_10_method_19_code 64 = .ok (.ireturn, 1) := by decide +kernel
theorem d_88_0 : decode prog_10_method_20_code 0 = .ok (.iconst 0, 1) := by decide +kernel
theorem d_88_1 : decode prog_10_method_20_code 1 = .ok (.istore_n 2, 1) := by decide +kernel
theorem d_88_2 : decode prog_10_method_20_code 2 = .ok (.iconst 0, 1) := by decide +kernel
theorem d_88_3 : decode prog_10_method_20_code 3 = .ok (.istore_n 3, 1) := by decide +kernel
theorem d_88_4 : decode prog_10_method_20_code 4 = .ok (.iload_n 3, 1) := by decide +kernel
theorem d_88_5 : decode prog_10_method_20_code 5 = .ok (.iload_n 1, 1) := by decide +kernel
theorem d_88_6 : decode prog_10_method_20_code 6 = .ok (.if_icmp .ge 28, 3) := by decide +kernel
theorem d_88_9 : decode prog_10_method_20_code 9 = .ok (.aload_n 0, 1) := by decide +kernel
theorem d_88_10 : decode prog_10_method_20_code 10 = .ok (.getfield 93, 3) := by decide +kernel
theorem d_88_13 : decode prog_10_method_20_code 13 = .ok (.iload_n 3, 1) := by decide +kernel
theorem d_88_14 : decode prog_10_method_20_code 14 = .ok (.iaload, 1) := by decide +kernel
theorem d_88_15 : decode prog_10_method_20_code 15 = .ok (.bipush 109, 2) := by decide +kernel
theorem d_88_17 : decode prog_10_method_20_code 17 = .ok (.if_icmp .ne 7, 3) := by decide +kernel
theorem d_88_20 : decode prog_10_method_20_code 20 = .ok (.iload_n 2, 1) := by decide +kernel
theorem d_88_21 : decode prog_10_method_20_code 21 = .ok (.goto 6, 3) := by decide +kernel
theorem d_88_24 : decode prog_10_method_20_code 24 = .ok (.iload_n 2, 1) := by decide +kernel
theorem d_88_25 : decode prog_10_method_20_code 25 = .ok (.iconst 1, 1) := by decide +kernel
theorem d_88_26 : decode prog_10_method_20_code 26 = .ok (.iadd, 1) := by decide +kernel
theorem d_88_27 : decode prog_10_method_20_code 27 = .ok (.istore_n 2, 1) := by decide +kernel
theorem d_88_28 : decode prog_10_method_20_code 28 = .ok (.iinc 3 1, 3) := by decide +kernel
theorem d_88_31 : decode prog_10_method_20_code 31 = .ok (.goto (-27), 3) := by decide +kernel
theorem d_88_34 : decode prog_10_method_20_code 34 = .ok (.iload_n 2, 1) := by decide +kernel
theorem d_88_35 : decode prog_10_method_20_code 35 = .ok (.ireturn, 1) := by decide +kernel
theorem d_89_0 : decode prog_10_method_21_code 0 = .ok (.iconst 0, 1) := by decide +kernel
theorem d_89_1 : decode prog_10_method_21_code 1 = .ok (.istore_n 1, 1) := by decide +kernel
theorem d_89_2 : decode prog_10_method_21_code 2 = .ok (.aload_n 0, 1) := by decide +kernel
theorem d_89_3 : decode prog_10_method_21_code 3 = .ok (.invokevirtual 147, 3) := by decide +kernel
theorem d_89_6 : decode prog_10_method_21_code 6 = .ok (.istore_n 2, 1) := by decide +kernel
theorem d_89_7 : decode prog_10_method_21_code 7 = .ok (.iconst 0, 1) := by decide +kernel
theorem d_89_8 : decode prog_10_method_21_code 8 = .ok (.istore_n 3, 1) := by decide +kernel
theorem d_89_9 : decode prog_10_method_21_code 9 = .ok (.iload_n 3, 1) := by decide +kernel
theorem d_89_10 : decode prog_10_method_21_code 10 = .ok (.aload_n 0, 1) := by decide +kernel
theorem d_89_11 : decode prog_10_method_21_code 11 = .ok (.getfield 26, 3) := by decide +kernel
theorem d_89_14 : decode prog_10_method_21_code 14 = .ok (.aload_n 0, 1) := by decide +kernel
theorem d_89_15 : decode prog_10_method_21_code 15 = .ok (.getfield 120, 3) := by decide +kernel
theorem d_89_18 : decode prog_10_method_21_code 18 = .ok (.iaload, 1) := by decide +kernel
theorem d_89_19 : decode prog_10_method_21_code 19 = .ok (.if_icmp .ge 92, 3) := by decide +kernel
theorem d_89_22 : decode prog_10_method_21_code 22 = .ok (.aload_n 0, 1) := by decide +kernel
theorem d_89_23 : decode prog_10_method_21_code 23 = .ok (.getfield 23, 3) := by decide +kernel
theorem d_89_26 : decode prog_10_method_21_code 26 = .ok (.bipush 16, 2) := by decide +kernel
theorem d_89_28 : decode prog_10_method_21_code 28 = .ok (.aload_n 0, 1) := by decide +kernel
theorem d_89_29 : decode prog_10_method_21_code 29 = .ok (.getfield 120, 3) := by decide +kernel
theorem d_89_32 : decode prog_10_method_21_code 32 = .ok (.imul, 1) := by decide +kernel
theorem d_89_33 : decode prog_10_method_21_code 33 = .ok (.iload_n 3, 1) := by decide +kernel
theorem d_89_34 : decode prog_10_method_21_code 34 = .ok (.iadd, 1) := by decide +kernel
theorem d_89_35 : decode prog_10_method_21_code 35 = .ok (.iaload, 1) := by decide +kernel
theorem d_89_36 : decode prog_10_method_21_code 36 = .ok (.istore 4, 2) := by decide +kernel
theorem d_89_38 : decode prog_10_method_21_code 38 = .ok (.aload_n 0, 1) := by decide +kernel
theorem d_89_39 : decode prog_10_method_21_code 39 = .ok (.getfield 87, 3) := by decide +kernel
theorem d_89_42 : decode prog_10_method_21_code 42 = .ok (.iload_n 3, 1) := by decide +kernel
theorem d_89_43 : decode prog_10_method_21_code 43 = .ok (.iaload, 1) := by decide +kernel
theorem d_89_44 : decode prog_10_method_21_code 44 = .ok (.ifCond .ge 8, 3) := by decide +kernel
theorem d_89_47 : decode prog_10_method_21_code 47 = .ok (.iload 4, 2) := by decide +kernel
theorem d_89_49 : decode prog_10_method_21_code 49 = .ok (.goto 9, 3) := by decide +kernel
theorem d_89_52 : decode prog_10_method_21_code 52 = .ok (.aload_n 0, 1) := by decide +kernel
theorem d_89_53 : decode prog_10_method_21_code 53 = .ok (.getfield 87, 3) := by decide +kernel
theorem d_89_56 : decode prog_10_method_21_code 56 = .ok (.iload_n 3, 1) := by decide +kernel
theorem d_89_57 : decode prog_10_method_21_code 57 = .ok (.iaload, 1) := by decide +kernel
theorem d_89_58 : decode prog_10_method_21_code 58 = .ok (.istore 5, 2) := by decide +kernel
theorem d_89_60 : decode prog_10_method_21_code 60 = .ok (.aload_n 0, 1) := by decide +kernel
theorem d_89_61 : decode prog_10_method_21_code 61 = .ok (.getfield 80, 3) := by decide +kernel
theorem d_89_64 : decode prog_10_method_21_code 64 = .ok (.iload_n 3, 1) := by decide +kernel
theorem d_89_65 : decode prog_10_method_21_code 65 = .ok (.iaload, 1) := by decide +kernel
theorem d_89_66 : decode prog_10_method_21_code 66 = .ok (.ifCond .lt 39, 3) := by decide +kernel
theorem d_89_69 : decode prog_10_method_21_code 69 = .ok (.iload_n 2, 1) := by decide +kernel
theorem d_89_70 : decode prog_10_method_21_code 70 = .ok (.ifCond .eq 20, 3) := by decide +kernel
theorem d_89_73 : decode prog_10_method_21_code 73 = .ok (.iload_n 1, 1) := by decide +kernel
theorem d_89_74 : decode prog_10_method_21_code 74 = .ok (.iload 4, 2) := by decide +kernel
theorem d_89_76 : decode prog_10_method_21_code 76 = .ok (.ifCond .ne 7, 3) := by decide +kernel
theorem d_89_79 : decode prog_10_method_21_code 79 = .ok (.iconst 1, 1) := by decide +kernel
theorem d_89_80 : decode prog_10_method_21_code 80 = .ok (.goto 4, 3) := by decide +kernel
theorem d_89_83 : decode prog_10_method_21_code 83 = .ok (.iconst 0, 1) := by decide +kernel
theorem d_89_84 : decode prog_10_method_21_code 84 = .ok (.iadd, 1) := by decide +kernel
theorem d_89_85 : decode prog_10_method_21_code 85 = .ok (.iconst 1, 1) := by decide +kernel
theorem d_89_86 : decode prog_10_method_21_code 86 = .ok (.iadd, 1) := by decide +kernel
theorem d_89_87 : decode prog_10_method_21_code 87 = .ok (.goto 17, 3) := by decide +kernel
theorem d_89_90 : decode prog_10_method_21_code 90 = .ok (.iload 4, 2) := by decide +kernel
theorem d_89_92 : decode prog_10_method_21_code 92 = .ok (.iload 5, 2) := by decide +kernel
theorem d_89_94 : decode prog_10_method_21_code 94 = .ok (.if_icmp .eq 9, 3) := by decide +kernel
theorem d_89_97 : decode prog_10_method_21_code 97 = .ok (.iload_n 1, 1) := by decide +kernel
theorem d_89_98 : decode prog_10_method_21_code 98 = .ok (.iconst 1, 1) := by decide +kernel
theorem d_89_99 : decode prog_10_method_21_code 99 = .ok (.iadd, 1) := by decide +kernel
theorem d_89_100 : decode prog_10_method_21_code 100 = .ok (.goto 4, 3) := by decide +kernel
theorem d_89_103 : decode prog_10_method_21_code 103 = .ok (.iload_n 1, 1) := by decide +kernel
theorem d_89_104 : decode prog_10_method_21_code 104 = .ok (.istore_n 1, 1) := by decide +kernel
theorem d_89_105 : decode prog_10_method_21_code 105 = .ok (.iinc 3 1, 3) := by decide +kernel
theorem d_89_108 : decode prog_10_method_21_code 108 = .ok (.goto (-99), 3) := by decide +kernel
theorem d_89_111 : decode prog_10_method_21_code 111 = .ok (.iconst 0, 1) := by decide +kernel
theorem d_89_112 : decode prog_10_method_21_code 112 = .ok (.istore_n 3, 1) := by decide +kernel
theorem d_89_113 : decode prog_10_method_21_code 113 = .ok (.iload_n 3, 1) := by decide +kernel
theorem d_89_114 : decode prog_10_method_21_code 114 = .ok (.aload_n 0, 1) := by decide +kernel
theorem d_89_115 : decode prog_10_method_21_code 115 = .ok (.getfield 26, 3) := by decide +kernel
theorem d_89_118 : decode prog_10_method_21_code 118 = .ok (.aload_n 0, 1) := by decide +kernel
theorem d_89_119 : decode prog_10_method_21_code 119 = .ok (.getfield 120, 3) := by decide +kernel
theorem d_89_122 : decode prog_10_method_21_code 122 = .ok (.iaload, 1) := by decide +kernel
theorem d_89_123 : decode prog_10_method_21_code 123 = .ok (.if_icmp .ge 66, 3) := by decide +kernel
theorem d_89_126 : decode prog_10_method_21_code 126 = .ok (.iload_n 2, 1) := by decide +kernel
theorem d_89_127 : decode prog_10_method_21_code 127 = .ok (.ifCond .eq 62, 3) := by decide +kernel
theorem d_89_130 : decode prog_10_method_21_code 130 = .ok (.aload_n 0, 1) := by decide +kernel
theorem d_89_131 : decode prog_10_method_21_code 131 = .ok (.getfield 80, 3) := by decide +kernel
theorem d_89_134 : decode prog_10_method_21_code 134 = .ok (.iload_n 3, 1) := by decide +kernel
theorem d_89_135 : decode prog_10_method_21_code 135 = .ok (.iaload, 1) := by decide +kernel
theorem d_89_136 : decode prog_10_method_21_code 136 = .ok (.ifCond .lt 45, 3) := by decide +kernel
theorem d_89_139 : decode prog_10_method_21_code 139 = .ok (.aload_n 0, 1) := by decide +kernel
theorem d_89_140 : decode prog_10_method_21_code 140 = .ok (.getfield 87, 3) := by decide +kernel
theorem d_89_143 : decode prog_10_method_21_code 143 = .ok (.iload_n 3, 1) := by decide +kernel
theorem d_89_144 : decode prog_10_method_21_code 144 = .ok (.iaload, 1) := by decide +kernel
theorem d_89_145 : decode prog_10_method_21_code 145 = .ok (.ifCond .ge 20, 3) := by decide +kernel
theorem d_89_148 : decode prog_10_method_21_code 148 = .ok (.aload_n 0, 1) := by decide +kernel
theorem d_89_149 : decode prog_10_method_21_code 149 = .ok (.getfield 23, 3) := by decide +kernel
theorem d_89_152 : decode prog_10_method_21_code 152 = .ok (.bipush 16, 2) := by decide +kernel
theorem d_89_154 : decode prog_10_method_21_code 154 = .ok (.aload_n 0, 1) := by decide +kernel
theorem d_89_155 : decode prog_10_method_21_code 155 = .ok (.getfield 120, 3) := by decide +kernel
theorem d_89_158 : decode prog_10_method_21_code 158 = .ok (.imul, 1) := by decide +kernel
theorem d_89_159 : decode prog_10_method_21_code 159 = .ok (.iload_n 3, 1) := by decide +kernel
theorem d_89_160 : decode prog_10_method_21_code 160 = .ok (.iadd, 1) := by decide +kernel
theorem d_89_161 : decode prog_10_method_21_code 161 = .ok (.iaload, 1) := by decide +kernel
theorem d_89_162 : decode prog_10_method_21_code 162 = .ok (.goto 9, 3) := by decide +kernel
theorem d_89_165 : decode prog_10_method_21_code 165 = .ok (.aload_n 0, 1) := by decide +kernel
theorem d_89_166 : decode prog_10_method_21_code 166 = .ok (.getfield 87, 3) := by decide +kernel
theorem d_89_169 : decode prog_10_method_21_code 169 = .ok (.iload_n 3, 1) := by decide +kernel
theorem d_89_170 : decode prog_10_method_21_code 170 = .ok (.iaload, 1) := by decide +kernel
theorem d_89_171 : decode prog_10_method_21_code 171 = .ok (.iconst 1, 1) := by decide +kernel
theorem d_89_172 : decode prog_10_method_21_code 172 = .ok (.if_icmp .ne 9, 3) := by decide +kernel
theorem d_89_175 : decode prog_10_method_21_code 175 = .ok (.iload_n 1, 1) := by decide +kernel
theorem d_89_176 : decode prog_10_method_21_code 176 = .ok (.iconst 1, 1) := by decide +kernel
theorem d_89_177 : decode prog_10_method_21_code 177 = .ok (.iadd, 1) := by decide +kernel
theorem d_89_178 : decode prog_10_method_21_code 178 = .ok (.goto 4, 3) := by decide +kernel
theorem d_89_181 : decode prog_10_method_21_code 181 = .ok (.iload_n 1, 1) := by decide +kernel
theorem d_89_182 : decode prog_10_method_21_code 182 = .ok (.istore_n 1, 1) := by decide +kernel
theorem d_89_183 : decode prog_10_method_21_code 183 = .ok (.iinc 3 1, 3) := by decide +kernel
theorem d_89_186 : decode prog_10_method_21_code 186 = .ok (.goto (-73), 3) := by decide +kernel
theorem d_89_189 : decode prog_10_method_21_code 189 = .ok (.iload_n 1, 1) := by decide +kernel
theorem d_89_190 : decode prog_10_method_21_code 190 = .ok (.ireturn, 1) := by decide +kernel
