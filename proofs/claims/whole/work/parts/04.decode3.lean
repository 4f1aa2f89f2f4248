theorem d_90_0 : decode prog_10_method_22_code 0 = .ok (.iconst 0, 1) := by decide +kernel
theorem d_90_1 : decode prog_10_method_22_code 1 = .ok (.istore_n 1, 1) := by decide +kernel
theorem d_90_2 : decode prog_10_method_22_code 2 = .ok (.iconst 0, 1) := by decide +kernel
theorem d_90_3 : decode prog_10_method_22_code 3 = .ok (.istore_n 2, 1) := by decide +kernel
theorem d_90_4 : decode prog_10_method_22_code 4 = .ok (.aload_n 0, 1) := by decide +kernel
theorem d_90_5 : decode prog_10_method_22_code 5 = .ok (.invokevirtual 147, 3) := by decide +kernel
theorem d_90_8 : decode prog_10_method_22_code 8 = .ok (.istore_n 3, 1) := by decide +kernel
theorem d_90_9 : decode prog_10_method_22_code 9 = .ok (.iconst 0, 1) := by decide +kernel
theorem d_90_10 : decode prog_10_method_22_code 10 = .ok (.istore 4, 2) := by decide +kernel
theorem d_90_12 : decode prog_10_method_22_code 12 = .ok (.iload 4, 2) := by decide +kernel
theorem d_90_14 : decode prog_10_method_22_code 14 = .ok (.bipush 32, 2) := by decide +kernel
theorem d_90_16 : decode prog_10_method_22_code 16 = .ok (.if_icmp .ge 99, 3) := by decide +kernel
theorem d_90_19 : decode prog_10_method_22_code 19 = .ok (.iload_n 3, 1) := by decide +kernel
theorem d_90_20 : decode prog_10_method_22_code 20 = .ok (.ifCond .eq 95, 3) := by decide +kernel
theorem d_90_23 : decode prog_10_method_22_code 23 = .ok (.iload 4, 2) := by decide +kernel
theorem d_90_25 : decode prog_10_method_22_code 25 = .ok (.bipush 16, 2) := by decide +kernel
theorem d_90_27 : decode prog_10_method_22_code 27 = .ok (.irem, 1) := by decide +kernel
theorem d_90_28 : decode prog_10_method_22_code 28 = .ok (.istore 5, 2) := by decide +kernel
theorem d_90_30 : decode prog_10_method_22_code 30 = .ok (.iload 5, 2) := by decide +kernel
theorem d_90_32 : decode prog_10_method_22_code 32 = .ok (.aload_n 0, 1) := by decide +kernel
theorem d_90_33 : decode prog_10_method_22_code 33 = .ok (.getfield 26, 3) := by decide +kernel
theorem d_90_36 : decode prog_10_method_22_code 36 = .ok (.aload_n 0, 1) := by decide +kernel
theorem d_90_37 : decode prog_10_method_22_code 37 = .ok (.getfield 120, 3) := by decide +kernel
theorem d_90_40 : decode prog_10_method_22_code 40 = .ok (.iaload, 1) := by decide +kernel
theorem d_90_41 : decode prog_10_method_22_code 41 = .ok (.if_icmp .ge 68, 3) := by decide +kernel
theorem d_90_44 : decode prog_10_method_22_code 44 = .ok (.aload_n 0, 1) := by decide +kernel
theorem d_90_45 : decode prog_10_method_22_code 45 = .ok (.getfield 80, 3) := by decide +kernel
theorem d_90_48 : decode prog_10_method_22_code 48 = .ok (.iload 5, 2) := by decide +kernel
theorem d_90_50 : decode prog_10_method_22_code 50 = .ok (.iaload, 1) := by decide +kernel
theorem d_90_51 : decode prog_10_method_22_code 51 = .ok (.ifCond .lt 58, 3) := by decide +kernel
theorem d_90_54 : decode prog_10_method_22_code 54 = .ok (.aload_n 0, 1) := by decide +kernel
theorem d_90_55 : decode prog_10_method_22_code 55 = .ok (.getfield 83, 3) := by decide +kernel
theorem d_90_58 : decode prog_10_method_22_code 58 = .ok (.iload 5, 2) := by decide +kernel
theorem d_90_60 : decode prog_10_method_22_code 60 = .ok (.baload, 1) := by decide +kernel
theorem d_90_61 : decode prog_10_method_22_code 61 = .ok (.iload 4, 2) := by decide +kernel
theorem d_90_63 : decode prog_10_method_22_code 63 = .ok (.bipush 16, 2) := by decide +kernel
theorem d_90_65 : decode prog_10_method_22_code 65 = .ok (.if_icmp .lt 7, 3) := by decide +kernel
theorem d_90_68 : decode prog_10_method_22_code 68 = .ok (.iconst 1, 1) := by decide +kernel
theorem d_90_69 : decode prog_10_method_22_code 69 = .ok (.goto 4, 3) := by decide +kernel
theorem d_90_72 : decode prog_10_method_22_code 72 = .ok (.iconst 0, 1) := by decide +kernel
theorem d_90_73 : decode prog_10_method_22_code 73 = .ok (.if_icmp .ne 36, 3) := by decide +kernel
theorem d_90_76 : decode prog_10_method_22_code 76 = .ok (.aload_n 0, 1) := by decide +kernel
theorem d_90_77 : decode prog_10_method_22_code 77 = .ok (.getfield 80, 3) := by decide +kernel
theorem d_90_80 : decode prog_10_method_22_code 80 = .ok (.iload 5, 2) := by decide +kernel
theorem d_90_82 : decode prog_10_method_22_code 82 = .ok (.iaload, 1) := by decide +kernel
theorem d_90_83 : decode prog_10_method_22_code 83 = .ok (.iload 5, 2) := by decide +kernel
theorem d_90_85 : decode prog_10_method_22_code 85 = .ok (.isub, 1) := by decide +kernel
theorem d_90_86 : decode prog_10_method_22_code 86 = .ok (.iload_n 2, 1) := by decide +kernel
theorem d_90_87 : decode prog_10_method_22_code 87 = .ok (.if_icmp .eq 9, 3) := by decide +kernel
theorem d_90_90 : decode prog_10_method_22_code 90 = .ok (.iload_n 1, 1) := by decide +kernel
theorem d_90_91 : decode prog_10_method_22_code 91 = .ok (.iconst 1, 1) := by decide +kernel
theorem d_90_92 : decode prog_10_method_22_code 92 = .ok (.iadd, 1) := by decide +kernel
theorem d_90_93 : decode prog_10_method_22_code 93 = .ok (.goto 4, 3) := by decide +kernel
theorem d_90_96 : decode prog_10_method_22_code 96 = .ok (.iload_n 1, 1) := by decide +kernel
theorem d_90_97 : decode prog_10_method_22_code 97 = .ok (.istore_n 1, 1) := by decide +kernel
theorem d_90_98 : decode prog_10_method_22_code 98 = .ok (.aload_n 0, 1) := by decide +kernel
theorem d_90_99 : decode prog_10_method_22_code 99 = .ok (.getfield 80, 3) := by decide +kernel
theorem d_90_102 : decode prog_10_method_22_code 102 = .ok (.iload 5, 2) := by decide +kernel
theorem d_90_104 : decode prog_10_method_22_code 104 = .ok (.iaload, 1) := by decide +kernel
theorem d_90_105 : decode prog_10_method_22_code 105 = .ok (.iload 5, 2) := by decide +kernel
theorem d_90_107 : decode prog_10_method_22_code 107 = .ok (.isub, 1) := by decide +kernel
theorem d_90_108 : decode prog_10_method_22_code 108 = .ok (.istore_n 2, 1) := by decide +kernel
theorem d_90_109 : decode prog_10_method_22_code 109 = .ok (.iinc 4 1, 3) := by decide +kernel
theorem d_90_112 : decode prog_10_method_22_code 112 = .ok (.goto (-100), 3) := by decide +kernel
theorem d_90_115 : decode prog_10_method_22_code 115 = .ok (.iload_n 2, 1) := by decide +kernel
theorem d_90_116 : decode prog_10_method_22_code 116 = .ok (.ifCond .eq 9, 3) := by decide +kernel
theorem d_90_119 : decode prog_10_method_22_code 119 = .ok (.iload_n 1, 1) := by decide +kernel
theorem d_90_120 : decode prog_10_method_22_code 120 = .ok (.iconst 1, 1) := by decide +kernel
theorem d_90_121 : decode prog_10_method_22_code 121 = .ok (.iadd, 1) := by decide +kernel
theorem d_90_122 : decode prog_10_method_22_code 122 = .ok (.goto 4, 3) := by decide +kernel
theorem d_90_125 : decode prog_10_method_22_code 125 = .ok (.iload_n 1, 1) := by decide +kernel
theorem d_90_126 : decode prog_10_method_22_code 126 = .ok (.ireturn, 1) := by decide +kernel
theorem d_91_0 : decode prog_10_method_23_code 0 = .ok (.iconst 0, 1) := by decide +kernel
theorem d_91_1 : decode prog_10_method_23_code 1 = .ok (.istore_n 1, 1) := by decide +kernel
theorem d_91_2 : decode prog_10_method_23_code 2 = .ok (.iconst 0, 1) := by decide +kernel
theorem d_91_3 : decode prog_10_method_23_code 3 = .ok (.istore_n 2, 1) := by decide +kernel
theorem d_91_4 : decode prog_10_method_23_code 4 = .ok (.iload_n 2, 1) := by decide +kernel
theorem d_91_5 : decode prog_10_method_23_code 5 = .ok (.aload_n 0, 1) := by decide +kernel
theorem d_91_6 : decode prog_10_method_23_code 6 = .ok (.getfield 26, 3) := by decide +kernel
theorem d_91_9 : decode prog_10_method_23_code 9 = .ok (.aload_n 0, 1) := by decide +kernel
theorem d_91_10 : decode prog_10_method_23_code 10 = .ok (.getfield 120, 3) := by decide +kernel
theorem d_91_13 : decode prog_10_method_23_code 13 = .ok (.iaload, 1) := by decide +kernel
theorem d_91_14 : decode prog_10_method_23_code 14 = .ok (.if_icmp .ge 26, 3) := by decide +kernel
theorem d_91_17 : decode prog_10_method_23_code 17 = .ok (.aload_n 0, 1) := by decide +kernel
theorem d_91_18 : decode prog_10_method_23_code 18 = .ok (.getfield 80, 3) := by decide +kernel
theorem d_91_21 : decode prog_10_method_23_code 21 = .ok (.iload_n 2, 1) := by decide +kernel
theorem d_91_22 : decode prog_10_method_23_code 22 = .ok (.iaload, 1) := by decide +kernel
theorem d_91_23 : decode prog_10_method_23_code 23 = .ok (.ifCond .ge 9, 3) := by decide +kernel
theorem d_91_26 : decode prog_10_method_23_code 26 = .ok (.iload_n 1, 1) := by decide +kernel
theorem d_91_27 : decode prog_10_method_23_code 27 = .ok (.iconst 1, 1) := by decide +kernel
theorem d_91_28 : decode prog_10_method_23_code 28 = .ok (.iadd, 1) := by decide +kernel
theorem d_91_29 : decode prog_10_method_23_code 29 = .ok (.goto 4, 3) := by decide +kernel
theorem d_91_32 : decode prog_10_method_23_code 32 = .ok (.iload_n 1, 1) := by decide +kernel
theorem d_91_33 : decode prog_10_method_23_code 33 = .ok (.istore_n 1, 1) := by decide +kernel
theorem d_91_34 : decode prog_10_method_23_code 34 = .ok (.iinc 2 1, 3) := by decide +kernel
theorem d_91_37 : decode prog_10_method_23_code 37 = .ok (.goto (-33), 3) := by decide +kernel
theorem d_91_40 : decode prog_10_method_23_code 40 = .ok (.iload_n 1, 1) := by decide +kernel
theorem d_91_41 : decode prog_10_method_23_code 41 = .ok (.ireturn, 1) := by decide +kernel
theorem d_92_0 : decode prog_10_method_24_code 0 = .ok (.aload_n 0, 1) := by decide +kernel
theorem d_92_1 : decode prog_10_method_24_code 1 = .ok (.getfield 120, 3) := by decide +kernel
theorem d_92_4 : decode prog_10_method_24_code 4 = .ok (.iconst 1, 1) := by decide +kernel
theorem d_92_5 : decode prog_10_method_24_code 5 = .ok (.iadd, 1) := by decide +kernel
theorem d_92_6 : decode prog_10_method_24_code 6 = .ok (.istore_n 3, 1) := by decide +kernel
theorem d_92_7 : decode prog_10_method_24_code 7 = .ok (.aload_n 0, 1) := by decide +kernel
theorem d_92_8 : decode prog_10_method_24_code 8 = .ok (.getfield 93, 3) := by decide +kernel
theorem d_92_11 : decode prog_10_method_24_code 11 = .ok (.iload_n 1, 1) := by decide +kernel
theorem d_92_12 : decode prog_10_method_24_code 12 = .ok (.iaload, 1) := by decide +kernel
theorem d_92_13 : decode prog_10_method_24_code 13 = .ok (.istore 4, 2) := by decide +kernel
theorem d_92_15 : decode prog_10_method_24_code 15 = .ok (.iload 4, 2) := by decide +kernel
theorem d_92_17 : decode prog_10_method_24_code 17 = .ok (.bipush 112, 2) := by decide +kernel
theorem d_92_19 : decode prog_10_method_24_code 19 = .ok (.if_icmp .ne 7, 3) := by decide +kernel
theorem d_92_22 : decode prog_10_method_24_code 22 = .ok (.iconst 1, 1) := by decide +kernel
theorem d_92_23 : decode prog_10_method_24_code 23 = .ok (.goto 42, 3) := by decide +kernel
theorem d_92_26 : decode prog_10_method_24_code 26 = .ok (.iload 4, 2) := by decide +kernel
theorem d_92_28 : decode prog_10_method_24_code 28 = .ok (.bipush 116, 2) := by decide +kernel
theorem d_92_30 : decode prog_10_method_24_code 30 = .ok (.if_icmp .eq 10, 3) := by decide +kernel
theorem d_92_33 : decode prog_10_method_24_code 33 = .ok (.iload 4, 2) := by decide +kernel
theorem d_92_35 : decode prog_10_method_24_code 35 = .ok (.bipush 109, 2) := by decide +kernel
theorem d_92_37 : decode prog_10_method_24_code 37 = .ok (.if_icmp .ne 27, 3) := by decide +kernel
theorem d_92_40 : decode prog_10_method_24_code 40 = .ok (.aload_n 0, 1) := by decide +kernel
theorem d_92_41 : decode prog_10_method_24_code 41 = .ok (.getfield 23, 3) := by decide +kernel
theorem d_92_44 : decode prog_10_method_24_code 44 = .ok (.bipush 16, 2) := by decide +kernel
theorem d_92_46 : decode prog_10_method_24_code 46 = .ok (.aload_n 0, 1) := by decide +kernel
theorem d_92_47 : decode prog_10_method_24_code 47 = .ok (.getfield 120, 3) := by decide +kernel
theorem d_92_50 : decode prog_10_method_24_code 50 = .ok (.imul, 1) := by decide +kernel
theorem d_92_51 : decode prog_10_method_24_code 51 = .ok (.aload_n 0, 1) := by decide +kernel
theorem d_92_52 : decode prog_10_method_24_code 52 = .ok (.getfield 99, 3) := by decide +kernel
theorem d_92_55 : decode prog_10_method_24_code 55 = .ok (.iconst 3, 1) := by decide +kernel
theorem d_92_56 : decode prog_10_method_24_code 56 = .ok (.iload_n 1, 1) := by decide +kernel
theorem d_92_57 : decode prog_10_method_24_code 57 = .ok (.imul, 1) := by decide +kernel
theorem d_92_58 : decode prog_10_method_24_code 58 = .ok (.iaload, 1) := by decide +kernel
theorem d_92_59 : decode prog_10_method_24_code 59 = .ok (.iadd, 1) := by decide +kernel
theorem d_92_60 : decode prog_10_method_24_code 60 = .ok (.iaload, 1) := by decide +kernel
theorem d_92_61 : decode prog_10_method_24_code 61 = .ok (.goto 4, 3) := by decide +kernel
theorem d_92_64 : decode prog_10_method_24_code 64 = .ok (.iconst 0, 1) := by decide +kernel
theorem d_92_65 : decode prog_10_method_24_code 65 = .ok (.istore 5, 2) := by decide +kernel
theorem d_92_67 : decode prog_10_method_24_code 67 = .ok (.iconst 0, 1) := by decide +kernel
theorem d_92_68 : decode prog_10_method_24_code 68 = .ok (.istore 6, 2) := by decide +kernel
theorem d_92_70 : decode prog_10_method_24_code 70 = .ok (.bipush 64, 2) := by decide +kernel
theorem d_92_72 : decode prog_10_method_24_code 72 = .ok (.iload_n 3, 1) := by decide +kernel
theorem d_92_73 : decode prog_10_method_24_code 73 = .ok (.imul, 1) := by decide +kernel
theorem d_92_74 : decode prog_10_method_24_code 74 = .ok (.iconst 4, 1) := by decide +kernel
theorem d_92_75 : decode prog_10_method_24_code 75 = .ok (.iload_n 1, 1) := by decide +kernel
theorem d_92_76 : decode prog_10_method_24_code 76 = .ok (.imul, 1) := by decide +kernel
theorem d_92_77 : decode prog_10_method_24_code 77 = .ok (.iadd, 1) := by decide +kernel
theorem d_92_78 : decode prog_10_method_24_code 78 = .ok (.istore 7, 2) := by decide +kernel
theorem d_92_80 : decode prog_10_method_24_code 80 = .ok (.aload_n 0, 1) := by decide +kernel
theorem d_92_81 : decode prog_10_method_24_code 81 = .ok (.getfield 29, 3) := by decide +kernel
theorem d_92_84 : decode prog_10_method_24_code 84 = .ok (.iload_n 3, 1) := by decide +kernel
theorem d_92_85 : decode prog_10_method_24_code 85 = .ok (.iaload, 1) := by decide +kernel
theorem d_92_86 : decode prog_10_method_24_code 86 = .ok (.istore 8, 2) := by decide +kernel
theorem d_92_88 : decode prog_10_method_24_code 88 = .ok (.iconst 0, 1) := by decide +kernel
theorem d_92_89 : decode prog_10_method_24_code 89 = .ok (.istore 9, 2) := by decide +kernel
theorem d_92_91 : decode prog_10_method_24_code 91 = .ok (.iload 9, 2) := by decide +kernel
theorem d_92_93 : decode prog_10_method_24_code 93 = .ok (.aload_n 0, 1) := by decide +kernel
theorem d_92_94 : decode prog_10_method_24_code 94 = .ok (.getfield 96, 3) := by decide +kernel
theorem d_92_97 : decode prog_10_method_24_code 97 = .ok (.iload_n 1, 1) := by decide +kernel
theorem d_92_98 : decode prog_10_method_24_code 98 = .ok (.iaload, 1) := by decide +kernel
theorem d_92_99 : decode prog_10_method_24_code 99 = .ok (.if_icmp .ge 110, 3) := by decide +kernel
theorem d_92_102 : decode prog_10_method_24_code 102 = .ok (.aload_n 0, 1) := by decide +kernel
theorem d_92_103 : decode prog_10_method_24_code 103 = .ok (.getfield 99, 3) := by decide +kernel
theorem d_92_106 : decode prog_10_method_24_code 106 = .ok (.iconst 3, 1) := by decide +kernel
theorem d_92_107 : decode prog_10_method_24_code 107 = .ok (.iload_n 1, 1) := by decide +kernel
theorem d_92_108 : decode prog_10_method_24_code 108 = .ok (.imul, 1) := by decide +kernel
theorem d_92_109 : decode prog_10_method_24_code 109 = .ok (.iload 9, 2) := by decide +kernel
theorem d_92_111 : decode prog_10_method_24_code 111 = .ok (.iadd, 1) := by decide +kernel
theorem d_92_112 : decode prog_10_method_24_code 112 = .ok (.iaload, 1) := by decide +kernel
theorem d_92_113 : decode prog_10_method_24_code 113 = .ok (.istore 10, 2) := by decide +kernel
theorem d_92_115 : decode prog_10_method_24_code 115 = .ok (.iconst 0, 1) := by decide +kernel
theorem d_92_116 : decode prog_10_method_24_code 116 = .ok (.istore 11, 2) := by decide +kernel
theorem d_92_118 : decode prog_10_method_24_code 118 = .ok (.iload 11, 2) := by decide +kernel
theorem d_92_120 : decode prog_10_method_24_code 120 = .ok (.aload_n 0, 1) := by decide +kernel
theorem d_92_121 : decode prog_10_method_24_code 121 = .ok (.iload 10, 2) := by decide +kernel
theorem d_92_123 : decode prog_10_method_24_code 123 = .ok (.invokevirtual 127, 3) := by decide +kernel
theorem d_92_126 : decode prog_10_method_24_code 126 = .ok (.if_icmp .ge 77, 3) := by decide +kernel
theorem d_92_129 : decode prog_10_method_24_code 129 = .ok (.aload_n 0, 1) := by decide +kernel
theorem d_92_130 : decode prog_10_method_24_code 130 = .ok (.getfield 17, 3) := by decide +kernel
theorem d_92_133 : decode prog_10_method_24_code 133 = .ok (.bipush 64, 2) := by decide +kernel
theorem d_92_135 : decode prog_10_method_24_code 135 = .ok (.aload_n 0, 1) := by decide +kernel
theorem d_92_136 : decode prog_10_method_24_code 136 = .ok (.getfield 120, 3) := by decide +kernel
theorem d_92_139 : decode prog_10_method_24_code 139 = .ok (.imul, 1) := by decide +kernel
theorem d_92_140 : decode prog_10_method_24_code 140 = .ok (.iconst 4, 1) := by decide +kernel
theorem d_92_141 : decode prog_10_method_24_code 141 = .ok (.iload 10, 2) := by decide +kernel
theorem d_92_143 : decode prog_10_method_24_code 143 = .ok (.imul, 1) := by decide +kernel
theorem d_92_144 : decode prog_10_method_24_code 144 = .ok (.iadd, 1) := by decide +kernel
theorem d_92_145 : decode prog_10_method_24_code 145 = .ok (.iload 11, 2) := by decide +kernel
theorem d_92_147 : decode prog_10_method_24_code 147 = .ok (.iadd, 1) := by decide +kernel
theorem d_92_148 : decode prog_10_method_24_code 148 = .ok (.iaload, 1) := by decide +kernel
theorem d_92_149 : decode prog_10_method_24_code 149 = .ok (.istore 12, 2) := by decide +kernel
theorem d_92_151 : decode prog_10_method_24_code 151 = .ok (.iload 4, 2) := by decide +kernel
theorem d_92_153 : decode prog_10_method_24_code 153 = .ok (.bipush 116, 2) := by decide +kernel
theorem d_92_155 : decode prog_10_method_24_code 155 = .ok (.if_icmp .eq 10, 3) := by decide +kernel
theorem d_92_158 : decode prog_10_method_24_code 158 = .ok (.iload 4, 2) := by decide +kernel
theorem d_92_160 : decode prog_10_method_24_code 160 = .ok (.bipush 109, 2) := by decide +kernel
theorem d_92_162 : decode prog_10_method_24_code 162 = .ok (.if_icmp .ne 18, 3) := by decide +kernel
theorem d_92_165 : decode prog_10_method_24_code 165 = .ok (.aload_n 0, 1) := by decide +kernel
theorem d_92_166 : decode prog_10_method_24_code 166 = .ok (.getfield 17, 3) := by decide +kernel
theorem d_92_169 : decode prog_10_method_24_code 169 = .ok (.iload 7, 2) := by decide +kernel
theorem d_92_171 : decode prog_10_method_24_code 171 = .ok (.iload 6, 2) := by decide +kernel
theorem d_92_173 : decode prog_10_method_24_code 173 = .ok (.iadd, 1) := by decide +kernel
theorem d_92_174 : decode prog_10_method_24_code 174 = .ok (.iload 12, 2) := by decide +kernel
theorem d_92_176 : decode prog_10_method_24_code 176 = .ok (.iastore, 1) := by decide +kernel
theorem d_92_177 : decode prog_10_method_24_code 177 = .ok (.goto 17, 3) := by decide +kernel
theorem d_92_180 : decode prog_10_method_24_code 180 = .ok (.aload_n 0, 1) := by decide +kernel
theorem d_92_181 : decode prog_10_method_24_code 181 = .ok (.getfield 47, 3) := by decide +kernel
theorem d_92_184 : decode prog_10_method_24_code 184 = .ok (.iconst 4, 1) := by decide +kernel
theorem d_92_185 : decode prog_10_method_24_code 185 = .ok (.iload 8, 2) := by decide +kernel
theorem d_92_187 : decode prog_10_method_24_code 187 = .ok (.imul, 1) := by decide +kernel
theorem d_92_188 : decode prog_10_method_24_code 188 = .ok (.iload 6, 2) := by decide +kernel
theorem d_92_190 : decode prog_10_method_24_code 190 = .ok (.iadd, 1) := by decide +kernel
theorem d_92_191 : decode prog_10_method_24_code 191 = .ok (.iload 12, 2) := by decide +kernel
theorem d_92_193 : decode prog_10_method_24_code 193 = .ok (.iastore, 1) := by decide +kernel
theorem d_92_194 : decode prog_10_method_24_code 194 = .ok (.iinc 6 1, 3) := by decide +kernel
theorem d_92_197 : decode prog_10_method_24_code 197 = .ok (.iinc 11 1, 3) := by decide +kernel
theorem d_92_200 : decode prog_10_method_24_code 200 = .ok (.goto (-82), 3) := by decide +kernel
theorem d_92_203 : decode prog_10_method_24_code 203 = .ok (.iinc 9 1, 3) := by decide +kernel
theorem d_92_206 : decode prog_10_method_24_code 206 = .ok (.goto (-115), 3) := by decide +kernel
theorem d_92_209 : decode prog_10_method_24_code 209 = .ok (.aload_n 0, 1) := by decide +kernel
theorem d_92_210 : decode prog_10_method_24_code 210 = .ok (.getfield 23, 3) := by decide +kernel
theorem d_92_213 : decode prog_10_method_24_code 213 = .ok (.bipush 16, 2) := by decide +kernel
theorem d_92_215 : decode prog_10_method_24_code 215 = .ok (.iload_n 3, 1) := by decide +kernel
theorem d_92_216 : decode prog_10_method_24_code 216 = .ok (.imul, 1) := by decide +kernel
theorem d_92_217 : decode prog_10_method_24_code 217 = .ok (.iload_n 1, 1) := by decide +kernel
theorem d_92_218 : decode prog_10_method_24_code 218 = .ok (.iadd, 1) := by decide +kernel
theorem d_92_219 : decode prog_10_method_24_code 219 = .ok (.iload 5, 2) := by decide +kernel
theorem d_92_221 : decode prog_10_method_24_code 221 = .ok (.iastore, 1) := by decide +kernel
theorem d_92_222 : decode prog_10_method_24_code 222 = .ok (.iload 4, 2) := by decide +kernel
theorem d_92_224 : decode prog_10_method_24_code 224 = .ok (.bipush 109, 2) := by decide +kernel
theorem d_92_226 : decode prog_10_method_24_code 226 = .ok (.if_icmp .ne 17, 3) := by decide +kernel
theorem d_92_229 : decode prog_10_method_24_code 229 = .ok (.aload_n 0, 1) := by decide +kernel
theorem d_92_230 : decode prog_10_method_24_code 230 = .ok (.getfield 20, 3) := by decide +kernel
theorem d_92_233 : decode prog_10_method_24_code 233 = .ok (.bipush 16, 2) := by decide +kernel
theorem d_92_235 : decode prog_10_method_24_code 235 = .ok (.iload_n 3, 1) := by decide +kernel
theorem d_92_236 : decode prog_10_method_24_code 236 = .ok (.imul, 1) := by decide +kernel
theorem d_92_237 : decode prog_10_method_24_code 237 = .ok (.iload_n 1, 1) := by decide +kernel
theorem d_92_238 : decode prog_10_method_24_code 238 = .ok (.iadd, 1) := by decide +kernel
theorem d_92_239 : decode prog_10_method_24_code 239 = .ok (.iload 6, 2) := by decide +kernel
theorem d_92_241 : decode prog_10_method_24_code 241 = .ok (.iastore, 1) := by decide +kernel
theorem d_92_242 : decode prog_10_method_24_code 242 = .ok (.return_, 1) := by decide +kernel
theorem d_92_243 : decode prog_10_method_24_code 243 = .ok (.aload_n 0, 1) := by decide +kernel
theorem d_92_244 : decode prog_10_method_24_code 244 = .ok (.getfield 50, 3) := by decide +kernel
theorem d_92_247 : decode prog_10_method_24_code 247 = .ok (.iload 8, 2) := by decide +kernel
theorem d_92_249 : decode prog_10_method_24_code 249 = .ok (.iload 4, 2) := by decide +kernel
theorem d_92_251 : decode prog_10_method_24_code 251 = .ok (.bipush 116, 2) := by decide +kernel
theorem d_92_253 : decode prog_10_method_24_code 253 = .ok (.if_icmp .ne 7, 3) := by decide +kernel
theorem d_92_256 : decode prog_10_method_24_code 256 = .ok (.iconst 0, 1) := by decide +kernel
theorem d_92_257 : decode prog_10_method_24_code 257 = .ok (.goto 5, 3) := by decide +kernel
theorem d_92_260 : decode prog_10_method_24_code 260 = .ok (.iload 6, 2) := by decide +kernel
theorem d_92_262 : decode prog_10_method_24_code 262 = .ok (.iastore, 1) := by decide +kernel
theorem d_92_263 : decode prog_10_method_24_code 263 = .ok (.aload_n 0, 1) := by decide +kernel
theorem d_92_264 : decode prog_10_method_24_code 264 = .ok (.getfield 53, 3) := by decide +kernel
theorem d_92_267 : decode prog_10_method_24_code 267 = .ok (.iload 8, 2) := by decide +kernel
theorem d_92_269 : decode prog_10_method_24_code 269 = .ok (.iload_n 3, 1) := by decide +kernel
theorem d_92_270 : decode prog_10_method_24_code 270 = .ok (.iastore, 1) := by decide +kernel
theorem d_92_271 : decode prog_10_method_24_code 271 = .ok (.aload_n 0, 1) := by decide +kernel
theorem d_92_272 : decode prog_10_method_24_code 272 = .ok (.getfield 56, 3) := by decide +kernel
theorem d_92_275 : decode prog_10_method_24_code 275 = .ok (.iload 8, 2) := by decide +kernel
theorem d_92_277 : decode prog_10_method_24_code 277 = .ok (.iload_n 1, 1) := by decide +kernel
theorem d_92_278 : decode prog_10_method_24_code 278 = .ok (.iastore, 1) := by decide +kernel
theorem d_92_279 : decode prog_10_method_24_code 279 = .ok (.aload_n 0, 1) := by decide +kernel
theorem d_92_280 : decode prog_10_method_24_code 280 = .ok (.getfield 59, 3) := by decide +kernel
theorem d_92_283 : decode prog_10_method_24_code 283 = .ok (.iload 8, 2) := by decide +kernel
theorem d_92_285 : decode prog_10_method_24_code 285 = .ok (.iload 5, 2) := by decide +kernel
theorem d_92_287 : decode prog_10_method_24_code 287 = .ok (.iastore, 1) := by decide +kernel
theorem d_92_288 : decode prog_10_method_24_code 288 = .ok (.aload_n 0, 1) := by decide +kernel
theorem d_92_289 : decode prog_10_method_24_code 289 = .ok (.getfield 62, 3) := by decide +kernel
theorem d_92_292 : decode prog_10_method_24_code 292 = .ok (.iload 8, 2) := by decide +kernel
theorem d_92_294 : decode prog_10_method_24_code 294 = .ok (.iload_n 2, 1) := by decide +kernel
theorem d_92_295 : decode prog_10_method_24_code 295 = .ok (.iastore, 1) := by decide +kernel
theorem d_92_296 : decode prog_10_method_24_code 296 = .ok (.aload_n 0, 1) := by decide +kernel
theorem d_92_297 : decode prog_10_method_24_code 297 = .ok (.getfield 65, 3) := by decide +kernel
theorem d_92_300 : decode prog_10_method_24_code 300 = .ok (.iload 8, 2) := by decide +kernel
theorem d_92_302 : decode prog_10_method_24_code 302 = .ok (.iconst 0, 1) := by decide +kernel
theorem d_92_303 : decode prog_10_method_24_code 303 = .ok (.iastore, 1) := by decide +kernel
theorem d_92_304 : decode prog_10_method_24_code 304 = .ok (.aload_n 0, 1) := by decide +kernel
theorem d_92_305 : decode prog_10_method_24_code 305 = .ok (.getfield 20, 3) := by decide +kernel
theorem d_92_308 : decode prog_10_method_24_code 308 = .ok (.bipush 16, 2) := by decide +kernel
theorem d_92_310 : decode prog_10_method_24_code 310 = .ok (.iload_n 3, 1) := by decide +kernel
theorem d_92_311 : decode prog_10_method_24_code 311 = .ok (.imul, 1) := by decide +kernel
theorem d_92_312 : decode prog_10_method_24_code 312 = .ok (.iload_n 1, 1) := by decide +kernel
theorem d_92_313 : decode prog_10_method_24_code 313 = .ok (.iadd, 1) := by decide +kernel
theorem d_92_314 : decode prog_10_method_24_code 314 = .ok (.iload 4, 2) := by decide +kernel
theorem d_92_316 : decode prog_10_method_24_code 316 = .ok (.bipush 116, 2) := by decide +kernel
theorem d_92_318 : decode prog_10_method_24_code 318 = .ok (.if_icmp .ne 10, 3) := by decide +kernel
theorem d_92_321 : decode prog_10_method_24_code 321 = .ok (.iload 6, 2) := by decide +kernel
theorem d_92_323 : decode prog_10_method_24_code 323 = .ok (.iconst 1, 1) := by decide +kernel
theorem d_92_324 : decode prog_10_method_24_code 324 = .ok (.iadd, 1) := by decide +kernel
theorem d_92_325 : decode prog_10_method_24_code 325 = .ok (.goto 4, 3) := by decide +kernel
theorem d_92_328 : decode prog_10_method_24_code 328 = .ok (.iconst 1, 1) := by decide +kernel
theorem d_92_329 : decode prog_10_method_24_code 329 = .ok (.iastore, 1) := by decide +kernel
theorem d_92_330 : decode prog_10_method_24_code 330 = .ok (.aload_n 0, 1) := by decide +kernel
theorem d_92_331 : decode prog_10_method_24_code 331 = .ok (.getfield 17, 3) := by decide +kernel
theorem d_92_334 : decode prog_10_method_24_code 334 = .ok (.iload 7, 2) := by decide +kernel
theorem d_92_336 : decode prog_10_method_24_code 336 = .ok (.iload 4, 2) := by decide +kernel
theorem d_92_338 : decode prog_10_method_24_code 338 = .ok (.bipush 116, 2) := by decide +kernel
theorem d_92_340 : decode prog_10_method_24_code 340 = .ok (.if_icmp .ne 8, 3) := by decide +kernel
theorem d_92_343 : decode prog_10_method_24_code 343 = .ok (.iload 6, 2) := by decide +kernel
theorem d_92_345 : decode prog_10_method_24_code 345 = .ok (.goto 4, 3) := by decide +kernel
theorem d_92_348 : decode prog_10_method_24_code 348 = .ok (.iconst 0, 1) := by decide +kernel
theorem d_92_349 : decode prog_10_method_24_code 349 = .ok (.iadd, 1) := by decide +kernel
theorem d_92_350 : decode prog_10_method_24_code 350 = .ok (.iload 8, 2) := by decide +kernel
theorem d_92_352 : decode prog_10_method_24_code 352 = .ok (.iastore, 1) := by decide +kernel
theorem d_92_353 : decode prog_10_method_24_code 353 = .ok (.aload_n 0, 1) := by decide +kernel
theorem d_92_354 : decode prog_10_method_24_code 354 = .ok (.getfield 29, 3) := by decide +kernel
theorem d_92_357 : decode prog_10_method_24_code 357 = .ok (.iload_n 3, 1) := by decide +kernel
theorem d_92_358 : decode prog_10_method_24_code 358 = .ok (.iload 8, 2) := by decide +kernel
theorem d_92_360 : decode prog_10_method_24_code 360 = .ok (.iconst 1, 1) := by decide +kernel
theorem d_92_361 : decode prog_10_method_24_code 361 = .ok (.iadd, 1) := by decide +kernel
theorem d_92_362 : decode prog_10_method_24_code 362 = .ok (.iastore, 1) := by decide +kernel
theorem d_92_363 : decode prog_10_method_24_code 363 = .ok (.return_, 1) := by decide +kernel
theorem d_93_0 : decode prog_10_method_25_code 0 = .ok (.aload_n 0, 1) := by decide +kernel
theorem d_93_1 : decode prog_10_method_25_code 1 = .ok (.getfield 120, 3) := by decide +kernel
theorem d_93_4 : decode prog_10_method_25_code 4 = .ok (.iconst 1, 1) := by decide +kernel
theorem d_93_5 : decode prog_10_method_25_code 5 = .ok (.iadd, 1) := by decide +kernel
theorem d_93_6 : decode prog_10_method_25_code 6 = .ok (.istore_n 1, 1) := by decide +kernel
theorem d_93_7 : decode prog_10_method_25_code 7 = .ok (.iconst 0, 1) := by decide +kernel
theorem d_93_8 : decode prog_10_method_25_code 8 = .ok (.istore_n 2, 1) := by decide +kernel
theorem d_93_9 : decode prog_10_method_25_code 9 = .ok (.iload_n 2, 1) := by decide +kernel
theorem d_93_10 : decode prog_10_method_25_code 10 = .ok (.aload_n 0, 1) := by decide +kernel
theorem d_93_11 : decode prog_10_method_25_code 11 = .ok (.getfield 26, 3) := by decide +kernel
theorem d_93_14 : decode prog_10_method_25_code 14 = .ok (.aload_n 0, 1) := by decide +kernel
theorem d_93_15 : decode prog_10_method_25_code 15 = .ok (.getfield 120, 3) := by decide +kernel
theorem d_93_18 : decode prog_10_method_25_code 18 = .ok (.iaload, 1) := by decide +kernel
theorem d_93_19 : decode prog_10_method_25_code 19 = .ok (.if_icmp .ge 69, 3) := by decide +kernel
theorem d_93_22 : decode prog_10_method_25_code 22 = .ok (.iconst 0, 1) := by decide +kernel
theorem d_93_23 : decode prog_10_method_25_code 23 = .ok (.istore_n 3, 1) := by decide +kernel
theorem d_93_24 : decode prog_10_method_25_code 24 = .ok (.iload_n 3, 1) := by decide +kernel
theorem d_93_25 : decode prog_10_method_25_code 25 = .ok (.aload_n 0, 1) := by decide +kernel
theorem d_93_26 : decode prog_10_method_25_code 26 = .ok (.iload_n 2, 1) := by decide +kernel
theorem d_93_27 : decode prog_10_method_25_code 27 = .ok (.invokevirtual 127, 3) := by decide +kernel
theorem d_93_30 : decode prog_10_method_25_code 30 = .ok (.if_icmp .ge 52, 3) := by decide +kernel
theorem d_93_33 : decode prog_10_method_25_code 33 = .ok (.aload_n 0, 1) := by decide +kernel
theorem d_93_34 : decode prog_10_method_25_code 34 = .ok (.getfield 80, 3) := by decide +kernel
theorem d_93_37 : decode prog_10_method_25_code 37 = .ok (.iload_n 2, 1) := by decide +kernel
theorem d_93_38 : decode prog_10_method_25_code 38 = .ok (.iaload, 1) := by decide +kernel
theorem d_93_39 : decode prog_10_method_25_code 39 = .ok (.ifCond .ge 43, 3) := by decide +kernel
theorem d_93_42 : decode prog_10_method_25_code 42 = .ok (.aload_n 0, 1) := by decide +kernel
theorem d_93_43 : decode prog_10_method_25_code 43 = .ok (.getfield 65, 3) := by decide +kernel
theorem d_93_46 : decode prog_10_method_25_code 46 = .ok (.aload_n 0, 1) := by decide +kernel
theorem d_93_47 : decode prog_10_method_25_code 47 = .ok (.getfield 17, 3) := by decide +kernel
theorem d_93_50 : decode prog_10_method_25_code 50 = .ok (.bipush 64, 2) := by decide +kernel
theorem d_93_52 : decode prog_10_method_25_code 52 = .ok (.aload_n 0, 1) := by decide +kernel
theorem d_93_53 : decode prog_10_method_25_code 53 = .ok (.getfield 120, 3) := by decide +kernel
theorem d_93_56 : decode prog_10_method_25_code 56 = .ok (.imul, 1) := by decide +kernel
theorem d_93_57 : decode prog_10_method_25_code 57 = .ok (.iconst 4, 1) := by decide +kernel
theorem d_93_58 : decode prog_10_method_25_code 58 = .ok (.iload_n 2, 1) := by decide +kernel
theorem d_93_59 : decode prog_10_method_25_code 59 = .ok (.imul, 1) := by decide +kernel
theorem d_93_60 : decode prog_10_method_25_code 60 = .ok (.iadd, 1) := by decide +kernel
theorem d_93_61 : decode prog_10_method_25_code 61 = .ok (.iload_n 3, 1) := by decide +kernel
theorem d_93_62 : decode prog_10_method_25_code 62 = .ok (.iadd, 1) := by decide +kernel
theorem d_93_63 : decode prog_10_method_25_code 63 = .ok (.iaload, 1) := by decide +kernel
theorem d_93_64 : decode prog_10_method_25_code 64 = .ok (.iload_n 1, 1) := by decide +kernel
theorem d_93_65 : decode prog_10_method_25_code 65 = .ok (.iastore, 1) := by decide +kernel
theorem d_93_66 : decode prog_10_method_25_code 66 = .ok (.aload_n 0, 1) := by decide +kernel
theorem d_93_67 : decode prog_10_method_25_code 67 = .ok (.getfield 32, 3) := by decide +kernel
theorem d_93_70 : decode prog_10_method_25_code 70 = .ok (.iload_n 1, 1) := by decide +kernel
theorem d_93_71 : decode prog_10_method_25_code 71 = .ok (.dup2, 1) := by decide +kernel
theorem d_93_72 : decode prog_10_method_25_code 72 = .ok (.iaload, 1) := by decide +kernel
theorem d_93_73 : decode prog_10_method_25_code 73 = .ok (.iconst 1, 1) := by decide +kernel
theorem d_93_74 : decode prog_10_method_25_code 74 = .ok (.iadd, 1) := by decide +kernel
theorem d_93_75 : decode prog_10_method_25_code 75 = .ok (.iastore, 1) := by decide +kernel
theorem d_93_76 : decode prog_10_method_25_code 76 = .ok (.iinc 3 1, 3) := by decide +kernel
theorem d_93_79 : decode prog_10_method_25_code 79 = .ok (.goto (-55), 3) := by decide +kernel
theorem d_93_82 : decode prog_10_method_25_code 82 = .ok (.iinc 2 1, 3) := by decide +kernel
theorem d_93_85 : decode prog_10_method_25_code 85 = .ok (.goto (-76), 3) := by decide +kernel
theorem d_93_88 : decode prog_10_method_25_code 88 = .ok (.return_, 1) := by decide +kernel
theorem d_94_0 : decode prog_10_method_26_code 0 = .ok (.aload_n 0, 1) := by decide +kernel
theorem d_94_1 : decode prog_10_method_26_code 1 = .ok (.getfield 120, 3) := by decide +kernel
theorem d_94_4 : decode prog_10_method_26_code 4 = .ok (.iconst 1, 1) := by decide +kernel
theorem d_94_5 : decode prog_10_method_26_code 5 = .ok (.iadd, 1) := by decide +kernel
theorem d_94_6 : decode prog_10_method_26_code 6 = .ok (.istore_n 3, 1) := by decide +kernel
theorem d_94_7 : decode prog_10_method_26_code 7 = .ok (.aload_n 0, 1) := by decide +kernel
theorem d_94_8 : decode prog_10_method_26_code 8 = .ok (.getfield 44, 3) := by decide +kernel
theorem d_94_11 : decode prog_10_method_26_code 11 = .ok (.iconst 4, 1) := by decide +kernel
theorem d_94_12 : decode prog_10_method_26_code 12 = .ok (.iload_n 3, 1) := by decide +kernel
theorem d_94_13 : decode prog_10_method_26_code 13 = .ok (.imul, 1) := by decide +kernel
theorem d_94_14 : decode prog_10_method_26_code 14 = .ok (.aload_n 0, 1) := by decide +kernel
theorem d_94_15 : decode prog_10_method_26_code 15 = .ok (.invokevirtual 151, 3) := by decide +kernel
theorem d_94_18 : decode prog_10_method_26_code 18 = .ok (.iastore, 1) := by decide +kernel
theorem d_94_19 : decode prog_10_method_26_code 19 = .ok (.aload_n 0, 1) := by decide +kernel
theorem d_94_20 : decode prog_10_method_26_code 20 = .ok (.getfield 44, 3) := by decide +kernel
theorem d_94_23 : decode prog_10_method_26_code 23 = .ok (.iconst 4, 1) := by decide +kernel
theorem d_94_24 : decode prog_10_method_26_code 24 = .ok (.iload_n 3, 1) := by decide +kernel
theorem d_94_25 : decode prog_10_method_26_code 25 = .ok (.imul, 1) := by decide +kernel
theorem d_94_26 : decode prog_10_method_26_code 26 = .ok (.iconst 1, 1) := by decide +kernel
theorem d_94_27 : decode prog_10_method_26_code 27 = .ok (.iadd, 1) := by decide +kernel
theorem d_94_28 : decode prog_10_method_26_code 28 = .ok (.aload_n 0, 1) := by decide +kernel
theorem d_94_29 : decode prog_10_method_26_code 29 = .ok (.invokevirtual 155, 3) := by decide +kernel
theorem d_94_32 : decode prog_10_method_26_code 32 = .ok (.iastore, 1) := by decide +kernel
theorem d_94_33 : decode prog_10_method_26_code 33 = .ok (.aload_n 0, 1) := by decide +kernel
theorem d_94_34 : decode prog_10_method_26_code 34 = .ok (.getfield 44, 3) := by decide +kernel
theorem d_94_37 : decode prog_10_method_26_code 37 = .ok (.iconst 4, 1) := by decide +kernel
theorem d_94_38 : decode prog_10_method_26_code 38 = .ok (.iload_n 3, 1) := by decide +kernel
theorem d_94_39 : decode prog_10_method_26_code 39 = .ok (.imul, 1) := by decide +kernel
theorem d_94_40 : decode prog_10_method_26_code 40 = .ok (.iconst 2, 1) := by decide +kernel
theorem d_94_41 : decode prog_10_method_26_code 41 = .ok (.iadd, 1) := by decide +kernel
theorem d_94_42 : decode prog_10_method_26_code 42 = .ok (.aload_n 0, 1) := by decide +kernel
theorem d_94_43 : decode prog_10_method_26_code 43 = .ok (.invokevirtual 158, 3) := by decide +kernel
theorem d_94_46 : decode prog_10_method_26_code 46 = .ok (.iastore, 1) := by decide +kernel
theorem d_94_47 : decode prog_10_method_26_code 47 = .ok (.aload_n 0, 1) := by decide +kernel
theorem d_94_48 : decode prog_10_method_26_code 48 = .ok (.getfield 44, 3) := by decide +kernel
theorem d_94_51 : decode prog_10_method_26_code 51 = .ok (.iconst 4, 1) := by decide +kernel
theorem d_94_52 : decode prog_10_method_26_code 52 = .ok (.iload_n 3, 1) := by decide +kernel
theorem d_94_53 : decode prog_10_method_26_code 53 = .ok (.imul, 1) := by decide +kernel
theorem d_94_54 : decode prog_10_method_26_code 54 = .ok (.iconst 3, 1) := by decide +kernel
theorem d_94_55 : decode prog_10_method_26_code 55 = .ok (.iadd, 1) := by decide +kernel
theorem d_94_56 : decode prog_10_method_26_code 56 = .ok (.aload_n 0, 1) := by decide +kernel
theorem d_94_57 : decode prog_10_method_26_code 57 = .ok (.iload_n 1, 1) := by decide +kernel
theorem d_94_58 : decode prog_10_method_26_code 58 = .ok (.invokevirtual 161, 3) := by decide +kernel
theorem d_94_61 : decode prog_10_method_26_code 61 = .ok (.iastore, 1) := by decide +kernel
theorem d_94_62 : decode prog_10_method_26_code 62 = .ok (.aload_n 0, 1) := by decide +kernel
theorem d_94_63 : decode prog_10_method_26_code 63 = .ok (.getfield 26, 3) := by decide +kernel
theorem d_94_66 : decode prog_10_method_26_code 66 = .ok (.iload_n 3, 1) := by decide +kernel
theorem d_94_67 : decode prog_10_method_26_code 67 = .ok (.iload_n 1, 1) := by decide +kernel
theorem d_94_68 : decode prog_10_method_26_code 68 = .ok (.iastore, 1) := by decide +kernel
theorem d_94_69 : decode prog_10_method_26_code 69 = .ok (.aload_n 0, 1) := by decide +kernel
theorem d_94_70 : decode prog_10_method_26_code 70 = .ok (.getfield 29, 3) := by decide +kernel
theorem d_94_73 : decode prog_10_method_26_code 73 = .ok (.iload_n 3, 1) := by decide +kernel
theorem d_94_74 : decode prog_10_method_26_code 74 = .ok (.aload_n 0, 1) := by decide +kernel
theorem d_94_75 : decode prog_10_method_26_code 75 = .ok (.getfield 29, 3) := by decide +kernel
theorem d_94_78 : decode prog_10_method_26_code 78 = .ok (.aload_n 0, 1) := by decide +kernel
theorem d_94_79 : decode prog_10_method_26_code 79 = .ok (.getfield 120, 3) := by decide +kernel
theorem d_94_82 : decode prog_10_method_26_code 82 = .ok (.iaload, 1) := by decide +kernel
theorem d_94_83 : decode prog_10_method_26_code 83 = .ok (.iastore, 1) := by decide +kernel
theorem d_94_84 : decode prog_10_method_26_code 84 = .ok (.aload_n 0, 1) := by decide +kernel
theorem d_94_85 : decode prog_10_method_26_code 85 = .ok (.getfield 32, 3) := by decide +kernel
theorem d_94_88 : decode prog_10_method_26_code 88 = .ok (.iload_n 3, 1) := by decide +kernel
theorem d_94_89 : decode prog_10_method_26_code 89 = .ok (.aload_n 0, 1) := by decide +kernel
theorem d_94_90 : decode prog_10_method_26_code 90 = .ok (.getfield 32, 3) := by decide +kernel
theorem d_94_93 : decode prog_10_method_26_code 93 = .ok (.aload_n 0, 1) := by decide +kernel
theorem d_94_94 : decode prog_10_method_26_code 94 = .ok (.getfield 120, 3) := by decide +kernel
theorem d_94_97 : decode prog_10_method_26_code 97 = .ok (.iaload, 1) := by decide +kernel
theorem d_94_98 : decode prog_10_method_26_code 98 = .ok (.iastore, 1) := by decide +kernel
theorem d_94_99 : decode prog_10_method_26_code 99 = .ok (.iconst 0, 1) := by decide +kernel
theorem d_94_100 : decode prog_10_method_26_code 100 = .ok (.istore 4, 2) := by decide +kernel
theorem d_94_102 : decode prog_10_method_26_code 102 = .ok (.iload 4, 2) := by decide +kernel
theorem d_94_104 : decode prog_10_method_26_code 104 = .ok (.iload_n 1, 1) := by decide +kernel
theorem d_94_105 : decode prog_10_method_26_code 105 = .ok (.if_icmp .ge 32, 3) := by decide +kernel
theorem d_94_108 : decode prog_10_method_26_code 108 = .ok (.aload_n 0, 1) := by decide +kernel
theorem d_94_109 : decode prog_10_method_26_code 109 = .ok (.iload_n 3, 1) := by decide +kernel
theorem d_94_110 : decode prog_10_method_26_code 110 = .ok (.iconst 2, 1) := by decide +kernel
theorem d_94_111 : decode prog_10_method_26_code 111 = .ok (.irem, 1) := by decide +kernel
theorem d_94_112 : decode prog_10_method_26_code 112 = .ok (.iconst 1, 1) := by decide +kernel
theorem d_94_113 : decode prog_10_method_26_code 113 = .ok (.if_icmp .ne 12, 3) := by decide +kernel
theorem d_94_116 : decode prog_10_method_26_code 116 = .ok (.iload_n 1, 1) := by decide +kernel
theorem d_94_117 : decode prog_10_method_26_code 117 = .ok (.iconst 1, 1) := by decide +kernel
theorem d_94_118 : decode prog_10_method_26_code 118 = .ok (.isub, 1) := by decide +kernel
theorem d_94_119 : decode prog_10_method_26_code 119 = .ok (.iload 4, 2) := by decide +kernel
theorem d_94_121 : decode prog_10_method_26_code 121 = .ok (.isub, 1) := by decide +kernel
theorem d_94_122 : decode prog_10_method_26_code 122 = .ok (.goto 5, 3) := by decide +kernel
theorem d_94_125 : decode prog_10_method_26_code 125 = .ok (.iload 4, 2) := by decide +kernel
theorem d_94_127 : decode prog_10_method_26_code 127 = .ok (.iload_n 2, 1) := by decide +kernel
theorem d_94_128 : decode prog_10_method_26_code 128 = .ok (.invokevirtual 164, 3) := by decide +kernel
theorem d_94_131 : decode prog_10_method_26_code 131 = .ok (.iinc 4 1, 3) := by decide +kernel
theorem d_94_134 : decode prog_10_method_26_code 134 = .ok (.goto (-32), 3) := by decide +kernel
theorem d_94_137 : decode prog_10_method_26_code 137 = .ok (.aload_n 0, 1) := by decide +kernel
theorem d_94_138 : decode prog_10_method_26_code 138 = .ok (.invokevirtual 168, 3) := by decide +kernel
theorem d_94_141 : decode prog_10_method_26_code 141 = .ok (.iconst 0, 1) := by decide +kernel
theorem d_94_142 : decode prog_10_method_26_code 142 = .ok (.istore 4, 2) := by decide +kernel
theorem d_94_144 : decode prog_10_method_26_code 144 = .ok (.iload 4, 2) := by decide +kernel
theorem d_94_146 : decode prog_10_method_26_code 146 = .ok (.iconst 3, 1) := by decide +kernel
theorem d_94_147 : decode prog_10_method_26_code 147 = .ok (.if_icmp .ge 48, 3) := by decide +kernel
theorem d_94_150 : decode prog_10_method_26_code 150 = .ok (.aload_n 0, 1) := by decide +kernel
theorem d_94_151 : decode prog_10_method_26_code 151 = .ok (.getfield 35, 3) := by decide +kernel
theorem d_94_154 : decode prog_10_method_26_code 154 = .ok (.iconst 3, 1) := by decide +kernel
theorem d_94_155 : decode prog_10_method_26_code 155 = .ok (.iload_n 3, 1) := by decide +kernel
theorem d_94_156 : decode prog_10_method_26_code 156 = .ok (.imul, 1) := by decide +kernel
theorem d_94_157 : decode prog_10_method_26_code 157 = .ok (.iload 4, 2) := by decide +kernel
theorem d_94_159 : decode prog_10_method_26_code 159 = .ok (.iadd, 1) := by decide +kernel
theorem d_94_160 : decode prog_10_method_26_code 160 = .ok (.iload 4, 2) := by decide +kernel
theorem d_94_162 : decode prog_10_method_26_code 162 = .ok (.iload_n 2, 1) := by decide +kernel
theorem d_94_163 : decode prog_10_method_26_code 163 = .ok (.if_icmp .ne 11, 3) := by decide +kernel
theorem d_94_166 : decode prog_10_method_26_code 166 = .ok (.iconst 1, 1) := by decide +kernel
theorem d_94_167 : decode prog_10_method_26_code 167 = .ok (.iload_n 3, 1) := by decide +kernel
theorem d_94_168 : decode prog_10_method_26_code 168 = .ok (.iconst 2, 1) := by decide +kernel
theorem d_94_169 : decode prog_10_method_26_code 169 = .ok (.irem, 1) := by decide +kernel
theorem d_94_170 : decode prog_10_method_26_code 170 = .ok (.isub, 1) := by decide +kernel
theorem d_94_171 : decode prog_10_method_26_code 171 = .ok (.goto 17, 3) := by decide +kernel
theorem d_94_174 : decode prog_10_method_26_code 174 = .ok (.aload_n 0, 1) := by decide +kernel
theorem d_94_175 : decode prog_10_method_26_code 175 = .ok (.getfield 35, 3) := by decide +kernel
theorem d_94_178 : decode prog_10_method_26_code 178 = .ok (.iconst 3, 1) := by decide +kernel
theorem d_94_179 : decode prog_10_method_26_code 179 = .ok (.aload_n 0, 1) := by decide +kernel
theorem d_94_180 : decode prog_10_method_26_code 180 = .ok (.getfield 120, 3) := by decide +kernel
theorem d_94_183 : decode prog_10_method_26_code 183 = .ok (.imul, 1) := by decide +kernel
theorem d_94_184 : decode prog_10_method_26_code 184 = .ok (.iload 4, 2) := by decide +kernel
theorem d_94_186 : decode prog_10_method_26_code 186 = .ok (.iadd, 1) := by decide +kernel
theorem d_94_187 : decode prog_10_method_26_code 187 = .ok (.iaload, 1) := by decide +kernel
theorem d_94_188 : decode prog_10_method_26_code 188 = .ok (.iastore, 1) := by decide +kernel
theorem d_94_189 : decode prog_10_method_26_code 189 = .ok (.iinc 4 1, 3) := by decide +kernel
theorem d_94_192 : decode prog_10_method_26_code 192 = .ok (.goto (-48), 3) := by decide +kernel
theorem d_94_195 : decode prog_10_method_26_code 195 = .ok (.aload_n 0, 1) := by decide +kernel
theorem d_94_196 : decode prog_10_method_26_code 196 = .ok (.getfield 41, 3) := by decide +kernel
theorem d_94_199 : decode prog_10_method_26_code 199 = .ok (.iload_n 3, 1) := by decide +kernel
theorem d_94_200 : decode prog_10_method_26_code 200 = .ok (.aload_n 0, 1) := by decide +kernel
theorem d_94_201 : decode prog_10_method_26_code 201 = .ok (.getfield 107, 3) := by decide +kernel
theorem d_94_204 : decode prog_10_method_26_code 204 = .ok (.iastore, 1) := by decide +kernel
theorem d_94_205 : decode prog_10_method_26_code 205 = .ok (.iconst 0, 1) := by decide +kernel
theorem d_94_206 : decode prog_10_method_26_code 206 = .ok (.istore 4, 2) := by decide +kernel
theorem d_94_208 : decode prog_10_method_26_code 208 = .ok (.iload 4, 2) := by decide +kernel
theorem d_94_210 : decode prog_10_method_26_code 210 = .ok (.aload_n 0, 1) := by decide +kernel
theorem d_94_211 : decode prog_10_method_26_code 211 = .ok (.getfield 107, 3) := by decide +kernel
theorem d_94_214 : decode prog_10_method_26_code 214 = .ok (.if_icmp .ge 28, 3) := by decide +kernel
theorem d_94_217 : decode prog_10_method_26_code 217 = .ok (.aload_n 0, 1) := by decide +kernel
theorem d_94_218 : decode prog_10_method_26_code 218 = .ok (.getfield 38, 3) := by decide +kernel
theorem d_94_221 : decode prog_10_method_26_code 221 = .ok (.bipush 40, 2) := by decide +kernel
theorem d_94_223 : decode prog_10_method_26_code 223 = .ok (.iload_n 3, 1) := by decide +kernel
theorem d_94_224 : decode prog_10_method_26_code 224 = .ok (.imul, 1) := by decide +kernel
theorem d_94_225 : decode prog_10_method_26_code 225 = .ok (.iload 4, 2) := by decide +kernel
theorem d_94_227 : decode prog_10_method_26_code 227 = .ok (.iadd, 1) := by decide +kernel
theorem d_94_228 : decode prog_10_method_26_code 228 = .ok (.aload_n 0, 1) := by decide +kernel
theorem d_94_229 : decode prog_10_method_26_code 229 = .ok (.getfield 7, 3) := by decide +kernel
theorem d_94_232 : decode prog_10_method_26_code 232 = .ok (.iload 4, 2) := by decide +kernel
theorem d_94_234 : decode prog_10_method_26_code 234 = .ok (.iaload, 1) := by decide +kernel
theorem d_94_235 : decode prog_10_method_26_code 235 = .ok (.iastore, 1) := by decide +kernel
theorem d_94_236 : decode prog_10_method_26_code 236 = .ok (.iinc 4 1, 3) := by decide +kernel
theorem d_94_239 : decode prog_10_method_26_code 239 = .ok (.goto (-31), 3) := by decide +kernel
theorem d_94_242 : decode prog_10_method_26_code 242 = .ok (.aload_n 0, 1) := by decide +kernel
theorem d_94_243 : decode prog_10_method_26_code 243 = .ok (.iload_n 3, 1) := by decide +kernel
theorem d_94_244 : decode prog_10_method_26_code 244 = .ok (.putfield 120, 3) := by decide +kernel
theorem d_94_247 : decode prog_10_method_26_code 247 = .ok (.aload_n 0, 1) := by decide +kernel
theorem d_94_248 : decode prog_10_method_26_code 248 = .ok (.iconst 0, 1) := by decide +kernel
theorem d_94_249 : decode prog_10_method_26_code 249 = .ok (.putfield 107, 3) := by decide +kernel
theorem d_94_252 : decode prog_10_method_26_code 252 = .ok (.return_, 1) := by decide +kernel
theorem d_95_0 : decode prog_10_method_27_code 0 = .ok (.aload_n 0, 1) := by decide +kernel
theorem d_95_1 : decode prog_10_method_27_code 1 = .ok (.aload_n 0, 1) := by decide +kernel
theorem d_95_2 : decode prog_10_method_27_code 2 = .ok (.getfield 171, 3) := by decide +kernel
theorem d_95_5 : decode prog_10_method_27_code 5 = .ok (.ifCond .ne 7, 3) := by decide +kernel
theorem d_95_8 : decode prog_10_method_27_code 8 = .ok (.iconst 1, 1) := by decide +kernel
theorem d_95_9 : decode prog_10_method_27_code 9 = .ok (.goto 17, 3) := by decide +kernel
theorem d_95_12 : decode prog_10_method_27_code 12 = .ok (.iload_n 1, 1) := by decide +kernel
theorem d_95_13 : decode prog_10_method_27_code 13 = .ok (.ifCond .lt 8, 3) := by decide +kernel
theorem d_95_16 : decode prog_10_method_27_code 16 = .ok (.iload_n 1, 1) := by decide +kernel
theorem d_95_17 : decode prog_10_method_27_code 17 = .ok (.iconst 2, 1) := by decide +kernel
theorem d_95_18 : decode prog_10_method_27_code 18 = .ok (.if_icmp .le 7, 3) := by decide +kernel
theorem d_95_21 : decode prog_10_method_27_code 21 = .ok (.iconst 2, 1) := by decide +kernel
theorem d_95_22 : decode prog_10_method_27_code 22 = .ok (.goto 4, 3) := by decide +kernel
theorem d_95_25 : decode prog_10_method_27_code 25 = .ok (.iconst 0, 1) := by decide +kernel
theorem d_95_26 : decode prog_10_method_27_code 26 = .ok (.putfield 102, 3) := by decide +kernel
theorem d_95_29 : decode prog_10_method_27_code 29 = .ok (.aload_n 0, 1) := by decide +kernel
theorem d_95_30 : decode prog_10_method_27_code 30 = .ok (.getfield 102, 3) := by decide +kernel
theorem d_95_33 : decode prog_10_method_27_code 33 = .ok (.ifCond .le 5, 3) := by decide +kernel
theorem d_95_36 : decode prog_10_method_27_code 36 = .ok (.iconst 0, 1) := by decide +kernel
theorem d_95_37 : decode prog_10_method_27_code 37 = .ok (.ireturn, 1) := by decide +kernel
theorem d_95_38 : decode prog_10_method_27_code 38 = .ok (.aload_n 0, 1) := by decide +kernel
theorem d_95_39 : decode prog_10_method_27_code 39 = .ok (.iconst (-1), 1) := by decide +kernel
theorem d_95_40 : decode prog_10_method_27_code 40 = .ok (.putfield 13, 3) := by decide +kernel
theorem d_95_43 : decode prog_10_method_27_code 43 = .ok (.aload_n 0, 1) := by decide +kernel
theorem d_95_44 : decode prog_10_method_27_code 44 = .ok (.aload_n 0, 1) := by decide +kernel
theorem d_95_45 : decode prog_10_method_27_code 45 = .ok (.getfield 7, 3) := by decide +kernel
theorem d_95_48 : decode prog_10_method_27_code 48 = .ok (.iconst 0, 1) := by decide +kernel
theorem d_95_49 : decode prog_10_method_27_code 49 = .ok (.aload_n 0, 1) := by decide +kernel
theorem d_95_50 : decode prog_10_method_27_code 50 = .ok (.getfield 107, 3) := by decide +kernel
theorem d_95_53 : decode prog_10_method_27_code 53 = .ok (.invokevirtual 175, 3) := by decide +kernel
theorem d_95_56 : decode prog_10_method_27_code 56 = .ok (.istore_n 2, 1) := by decide +kernel
theorem d_95_57 : decode prog_10_method_27_code 57 = .ok (.iload_n 2, 1) := by decide +kernel
theorem d_95_58 : decode prog_10_method_27_code 58 = .ok (.ifCond .lt 10, 3) := by decide +kernel
theorem d_95_61 : decode prog_10_method_27_code 61 = .ok (.aload_n 0, 1) := by decide +kernel
theorem d_95_62 : decode prog_10_method_27_code 62 = .ok (.iconst 1, 1) := by decide +kernel
theorem d_95_63 : decode prog_10_method_27_code 63 = .ok (.iload_n 2, 1) := by decide +kernel
theorem d_95_64 : decode prog_10_method_27_code 64 = .ok (.invokevirtual 179, 3) := by decide +kernel
theorem d_95_67 : decode prog_10_method_27_code 67 = .ok (.ireturn, 1) := by decide +kernel
theorem d_95_68 : decode prog_10_method_27_code 68 = .ok (.iconst 0, 1) := by decide +kernel
theorem d_95_69 : decode prog_10_method_27_code 69 = .ok (.istore_n 3, 1) := by decide +kernel
theorem d_95_70 : decode prog_10_method_27_code 70 = .ok (.iconst 0, 1) := by decide +kernel
theorem d_95_71 : decode prog_10_method_27_code 71 = .ok (.istore 4, 2) := by decide +kernel
theorem d_95_73 : decode prog_10_method_27_code 73 = .ok (.iconst 0, 1) := by decide +kernel
theorem d_95_74 : decode prog_10_method_27_code 74 = .ok (.istore 5, 2) := by decide +kernel
theorem d_95_76 : decode prog_10_method_27_code 76 = .ok (.iload 5, 2) := by decide +kernel
theorem d_95_78 : decode prog_10_method_27_code 78 = .ok (.aload_n 0, 1) := by decide +kernel
theorem d_95_79 : decode prog_10_method_27_code 79 = .ok (.getfield 110, 3) := by decide +kernel
theorem d_95_82 : decode prog_10_method_27_code 82 = .ok (.if_icmp .ge 29, 3) := by decide +kernel
theorem d_95_85 : decode prog_10_method_27_code 85 = .ok (.iload_n 3, 1) := by decide +kernel
theorem d_95_86 : decode prog_10_method_27_code 86 = .ok (.aload_n 0, 1) := by decide +kernel
theorem d_95_87 : decode prog_10_method_27_code 87 = .ok (.iload 5, 2) := by decide +kernel
theorem d_95_89 : decode prog_10_method_27_code 89 = .ok (.invokevirtual 123, 3) := by decide +kernel
theorem d_95_92 : decode prog_10_method_27_code 92 = .ok (.iadd, 1) := by decide +kernel
theorem d_95_93 : decode prog_10_method_27_code 93 = .ok (.istore_n 3, 1) := by decide +kernel
theorem d_95_94 : decode prog_10_method_27_code 94 = .ok (.iload 4, 2) := by decide +kernel
theorem d_95_96 : decode prog_10_method_27_code 96 = .ok (.aload_n 0, 1) := by decide +kernel
theorem d_95_97 : decode prog_10_method_27_code 97 = .ok (.iload 5, 2) := by decide +kernel
theorem d_95_99 : decode prog_10_method_27_code 99 = .ok (.invokevirtual 144, 3) := by decide +kernel
theorem d_95_102 : decode prog_10_method_27_code 102 = .ok (.iadd, 1) := by decide +kernel
theorem d_95_103 : decode prog_10_method_27_code 103 = .ok (.istore 4, 2) := by decide +kernel
theorem d_95_105 : decode prog_10_method_27_code 105 = .ok (.iinc 5 1, 3) := by decide +kernel
theorem d_95_108 : decode prog_10_method_27_code 108 = .ok (.goto (-32), 3) := by decide +kernel
theorem d_95_111 : decode prog_10_method_27_code 111 = .ok (.iload_n 3, 1) := by decide +kernel
theorem d_95_112 : decode prog_10_method_27_code 112 = .ok (.aload_n 0, 1) := by decide +kernel
theorem d_95_113 : decode prog_10_method_27_code 113 = .ok (.getfield 26, 3) := by decide +kernel
theorem d_95_116 : decode prog_10_method_27_code 116 = .ok (.aload_n 0, 1) := by decide +kernel
theorem d_95_117 : decode prog_10_method_27_code 117 = .ok (.getfield 120, 3) := by decide +kernel
theorem d_95_120 : decode prog_10_method_27_code 120 = .ok (.iaload, 1) := by decide +kernel
theorem d_95_121 : decode prog_10_method_27_code 121 = .ok (.if_icmp .ne 16, 3) := by decide +kernel
theorem d_95_124 : decode prog_10_method_27_code 124 = .ok (.iload 4, 2) := by decide +kernel
theorem d_95_126 : decode prog_10_method_27_code 126 = .ok (.iconst 1, 1) := by decide +kernel
theorem d_95_127 : decode prog_10_method_27_code 127 = .ok (.if_icmp .lt 10, 3) := by decide +kernel
theorem d_95_130 : decode prog_10_method_27_code 130 = .ok (.iload 4, 2) := by decide +kernel
theorem d_95_132 : decode prog_10_method_27_code 132 = .ok (.bipush 16, 2) := by decide +kernel
theorem d_95_134 : decode prog_10_method_27_code 134 = .ok (.if_icmp .le 27, 3) := by decide +kernel
theorem d_95_137 : decode prog_10_method_27_code 137 = .ok (.aload_n 0, 1) := by decide +kernel
theorem d_95_138 : decode prog_10_method_27_code 138 = .ok (.iload_n 3, 1) := by decide +kernel
theorem d_95_139 : decode prog_10_method_27_code 139 = .ok (.aload_n 0, 1) := by decide +kernel
theorem d_95_140 : decode prog_10_method_27_code 140 = .ok (.getfield 26, 3) := by decide +kernel
theorem d_95_143 : decode prog_10_method_27_code 143 = .ok (.aload_n 0, 1) := by decide +kernel
theorem d_95_144 : decode prog_10_method_27_code 144 = .ok (.getfield 120, 3) := by decide +kernel
theorem d_95_147 : decode prog_10_method_27_code 147 = .ok (.iaload, 1) := by decide +kernel
theorem d_95_148 : decode prog_10_method_27_code 148 = .ok (.if_icmp .eq 7, 3) := by decide +kernel
theorem d_95_151 : decode prog_10_method_27_code 151 = .ok (.iconst 2, 1) := by decide +kernel
theorem d_95_152 : decode prog_10_method_27_code 152 = .ok (.goto 4, 3) := by decide +kernel
theorem d_95_155 : decode prog_10_method_27_code 155 = .ok (.iconst 3, 1) := by decide +kernel
theorem d_95_156 : decode prog_10_method_27_code 156 = .ok (.iconst (-1), 1) := by decide +kernel
theorem d_95_157 : decode prog_10_method_27_code 157 = .ok (.invokevirtual 179, 3) := by decide +kernel
theorem d_95_160 : decode prog_10_method_27_code 160 = .ok (.ireturn, 1) := by decide +kernel
theorem d_95_161 : decode prog_10_method_27_code 161 = .ok (.aload_n 0, 1) := by decide +kernel
theorem d_95_162 : decode prog_10_method_27_code 162 = .ok (.invokevirtual 183, 3) := by decide +kernel
theorem d_95_165 : decode prog_10_method_27_code 165 = .ok (.istore_n 2, 1) := by decide +kernel
theorem d_95_166 : decode prog_10_method_27_code 166 = .ok (.iload_n 2, 1) := by decide +kernel
theorem d_95_167 : decode prog_10_method_27_code 167 = .ok (.ifCond .lt 10, 3) := by decide +kernel
theorem d_95_170 : decode prog_10_method_27_code 170 = .ok (.aload_n 0, 1) := by decide +kernel
theorem d_95_171 : decode prog_10_method_27_code 171 = .ok (.iconst 4, 1) := by decide +kernel
theorem d_95_172 : decode prog_10_method_27_code 172 = .ok (.iload_n 2, 1) := by decide +kernel
theorem d_95_173 : decode prog_10_method_27_code 173 = .ok (.invokevirtual 179, 3) := by decide +kernel
theorem d_95_176 : decode prog_10_method_27_code 176 = .ok (.ireturn, 1) := by decide +kernel
theorem d_95_177 : decode prog_10_method_27_code 177 = .ok (.aload_n 0, 1) := by decide +kernel
theorem d_95_178 : decode prog_10_method_27_code 178 = .ok (.invokevirtual 186, 3) := by decide +kernel
theorem d_95_181 : decode prog_10_method_27_code 181 = .ok (.aload_n 0, 1) := by decide +kernel
theorem d_95_182 : decode prog_10_method_27_code 182 = .ok (.invokevirtual 147, 3) := by decide +kernel
theorem d_95_185 : decode prog_10_method_27_code 185 = .ok (.ifCond .eq 10, 3) := by decide +kernel
theorem d_95_188 : decode prog_10_method_27_code 188 = .ok (.aload_n 0, 1) := by decide +kernel
theorem d_95_189 : decode prog_10_method_27_code 189 = .ok (.invokevirtual 189, 3) := by decide +kernel
theorem d_95_192 : decode prog_10_method_27_code 192 = .ok (.goto 4, 3) := by decide +kernel
theorem d_95_195 : decode prog_10_method_27_code 195 = .ok (.iconst (-1), 1) := by decide +kernel
theorem d_95_196 : decode prog_10_method_27_code 196 = .ok (.istore_n 2, 1) := by decide +kernel
theorem d_95_197 : decode prog_10_method_27_code 197 = .ok (.iload_n 2, 1) := by decide +kernel
theorem d_95_198 : decode prog_10_method_27_code 198 = .ok (.ifCond .lt 10, 3) := by decide +kernel
theorem d_95_201 : decode prog_10_method_27_code 201 = .ok (.aload_n 0, 1) := by decide +kernel
theorem d_95_202 : decode prog_10_method_27_code 202 = .ok (.iconst 5, 1) := by decide +kernel
theorem d_95_203 : decode prog_10_method_27_code 203 = .ok (.iload_n 2, 1) := by decide +kernel
theorem d_95_204 : decode prog_10_method_27_code 204 = .ok (.invokevirtual 179, 3) := by decide +kernel
theorem d_95_207 : decode prog_10_method_27_code 207 = .ok (.ireturn, 1) := by decide +kernel
theorem d_95_208 : decode prog_10_method_27_code 208 = .ok (.aload_n 0, 1) := by decide +kernel
theorem d_95_209 : decode prog_10_method_27_code 209 = .ok (.getfield 35, 3) := by decide +kernel
theorem d_95_212 : decode prog_10_method_27_code 212 = .ok (.iconst 3, 1) := by decide +kernel
theorem d_95_213 : decode prog_10_method_27_code 213 = .ok (.aload_n 0, 1) := by decide +kernel
theorem d_95_214 : decode prog_10_method_27_code 214 = .ok (.getfield 120, 3) := by decide +kernel
theorem d_95_217 : decode prog_10_method_27_code 217 = .ok (.imul, 1) := by decide +kernel
theorem d_95_218 : decode prog_10_method_27_code 218 = .ok (.iload_n 1, 1) := by decide +kernel
theorem d_95_219 : decode prog_10_method_27_code 219 = .ok (.iadd, 1) := by decide +kernel
theorem d_95_220 : decode prog_10_method_27_code 220 = .ok (.iaload, 1) := by decide +kernel
theorem d_95_221 : decode prog_10_method_27_code 221 = .ok (.aload_n 0, 1) := by decide +kernel
theorem d_95_222 : decode prog_10_method_27_code 222 = .ok (.getfield 120, 3) := by decide +kernel
theorem d_95_225 : decode prog_10_method_27_code 225 = .ok (.iconst 2, 1) := by decide +kernel
theorem d_95_226 : decode prog_10_method_27_code 226 = .ok (.irem, 1) := by decide +kernel
theorem d_95_227 : decode prog_10_method_27_code 227 = .ok (.if_icmp .ne 11, 3) := by decide +kernel
theorem d_95_230 : decode prog_10_method_27_code 230 = .ok (.aload_n 0, 1) := by decide +kernel
theorem d_95_231 : decode prog_10_method_27_code 231 = .ok (.bipush 6, 2) := by decide +kernel
theorem d_95_233 : decode prog_10_method_27_code 233 = .ok (.iconst (-1), 1) := by decide +kernel
theorem d_95_234 : decode prog_10_method_27_code 234 = .ok (.invokevirtual 179, 3) := by decide +kernel
theorem d_95_237 : decode prog_10_method_27_code 237 = .ok (.ireturn, 1) := by decide +kernel
theorem d_95_238 : decode prog_10_method_27_code 238 = .ok (.aload_n 0, 1) := by decide +kernel
theorem d_95_239 : decode prog_10_method_27_code 239 = .ok (.getfield 120, 3) := by decide +kernel
theorem d_95_242 : decode prog_10_method_27_code 242 = .ok (.bipush 20, 2) := by decide +kernel
theorem d_95_244 : decode prog_10_method_27_code 244 = .ok (.if_icmp .eq 25, 3) := by decide +kernel
theorem d_95_247 : decode prog_10_method_27_code 247 = .ok (.aload_n 0, 1) := by decide +kernel
theorem d_95_248 : decode prog_10_method_27_code 248 = .ok (.getfield 29, 3) := by decide +kernel
theorem d_95_251 : decode prog_10_method_27_code 251 = .ok (.aload_n 0, 1) := by decide +kernel
theorem d_95_252 : decode prog_10_method_27_code 252 = .ok (.getfield 120, 3) := by decide +kernel
theorem d_95_255 : decode prog_10_method_27_code 255 = .ok (.iaload, 1) := by decide +kernel
theorem d_95_256 : decode prog_10_method_27_code 256 = .ok (.aload_n 0, 1) := by decide +kernel
theorem d_95_257 : decode prog_10_method_27_code 257 = .ok (.iload 4, 2) := by decide +kernel
theorem d_95_259 : decode prog_10_method_27_code 259 = .ok (.invokevirtual 161, 3) := by decide +kernel
theorem d_95_262 : decode prog_10_method_27_code 262 = .ok (.iadd, 1) := by decide +kernel
theorem d_95_263 : decode prog_10_method_27_code 263 = .ok (.sipush 300, 3) := by decide +kernel
theorem d_95_266 : decode prog_10_method_27_code 266 = .ok (.if_icmp .le 25, 3) := by decide +kernel
theorem d_95_269 : decode prog_10_method_27_code 269 = .ok (.aload_n 0, 1) := by decide +kernel
theorem d_95_270 : decode prog_10_method_27_code 270 = .ok (.aload_n 0, 1) := by decide +kernel
theorem d_95_271 : decode prog_10_method_27_code 271 = .ok (.getfield 120, 3) := by decide +kernel
theorem d_95_274 : decode prog_10_method_27_code 274 = .ok (.bipush 20, 2) := by decide +kernel
theorem d_95_276 : decode prog_10_method_27_code 276 = .ok (.if_icmp .ne 8, 3) := by decide +kernel
theorem d_95_279 : decode prog_10_method_27_code 279 = .ok (.bipush 7, 2) := by decide +kernel
theorem d_95_281 : decode prog_10_method_27_code 281 = .ok (.goto 5, 3) := by decide +kernel
theorem d_95_284 : decode prog_10_method_27_code 284 = .ok (.bipush 8, 2) := by decide +kernel
theorem d_95_286 : decode prog_10_method_27_code 286 = .ok (.iconst (-1), 1) := by decide +kernel
theorem d_95_287 : decode prog_10_method_27_code 287 = .ok (.invokevirtual 179, 3) := by decide +kernel
theorem d_95_290 : decode prog_10_method_27_code 290 = .ok (.ireturn, 1) := by decide +kernel
theorem d_95_291 : decode prog_10_method_27_code 291 = .ok (.aload_n 0, 1) := by decide +kernel
theorem d_95_292 : decode prog_10_method_27_code 292 = .ok (.iload 4, 2) := by decide +kernel
theorem d_95_294 : decode prog_10_method_27_code 294 = .ok (.iload_n 1, 1) := by decide +kernel
theorem d_95_295 : decode prog_10_method_27_code 295 = .ok (.invokevirtual 192, 3) := by decide +kernel
theorem d_95_298 : decode prog_10_method_27_code 298 = .ok (.iconst 0, 1) := by decide +kernel
theorem d_95_299 : decode prog_10_method_27_code 299 = .ok (.ireturn, 1) := by decide +kernel
theorem d_96_0 : decode prog_10_method_28_code 0 = .ok (.aload_n 0, 1) := by decide +kernel
theorem d_96_1 : decode prog_10_method_28_code 1 = .ok (.iconst 0, 1) := by decide +kernel
theorem d_96_2 : decode prog_10_method_28_code 2 = .ok (.putfield 102, 3) := by decide +kernel
theorem d_96_5 : decode prog_10_method_28_code 5 = .ok (.aload_n 0, 1) := by decide +kernel
theorem d_96_6 : decode prog_10_method_28_code 6 = .ok (.getfield 13, 3) := by decide +kernel
theorem d_96_9 : decode prog_10_method_28_code 9 = .ok (.ireturn, 1) := by decide +kernel
theorem d_97_0 : decode prog_10_method_29_code 0 = .ok (.aload_n 0, 1) := by decide +kernel
theorem d_97_1 : decode prog_10_method_29_code 1 = .ok (.iload_n 1, 1) := by decide +kernel
theorem d_97_2 : decode prog_10_method_29_code 2 = .ok (.iconst 1, 1) := by decide +kernel
theorem d_97_3 : decode prog_10_method_29_code 3 = .ok (.if_icmp .lt 9, 3) := by decide +kernel
theorem d_97_6 : decode prog_10_method_29_code 6 = .ok (.iload_n 1, 1) := by decide +kernel
theorem d_97_7 : decode prog_10_method_29_code 7 = .ok (.bipush 16, 2) := by decide +kernel
theorem d_97_9 : decode prog_10_method_29_code 9 = .ok (.if_icmp .le 7, 3) := by decide +kernel
theorem d_97_12 : decode prog_10_method_29_code 12 = .ok (.iconst 1, 1) := by decide +kernel
theorem d_97_13 : decode prog_10_method_29_code 13 = .ok (.goto 4, 3) := by decide +kernel
theorem d_97_16 : decode prog_10_method_29_code 16 = .ok (.iconst 0, 1) := by decide +kernel
theorem d_97_17 : decode prog_10_method_29_code 17 = .ok (.putfield 102, 3) := by decide +kernel
theorem d_97_20 : decode prog_10_method_29_code 20 = .ok (.aload_n 0, 1) := by decide +kernel
theorem d_97_21 : decode prog_10_method_29_code 21 = .ok (.getfield 102, 3) := by decide +kernel
theorem d_97_24 : decode prog_10_method_29_code 24 = .ok (.ifCond .le 4, 3) := by decide +kernel
theorem d_97_27 : decode prog_10_method_29_code 27 = .ok (.return_, 1) := by decide +kernel
theorem d_97_28 : decode prog_10_method_29_code 28 = .ok (.aload_n 0, 1) := by decide +kernel
theorem d_97_29 : decode prog_10_method_29_code 29 = .ok (.iconst 1, 1) := by decide +kernel
theorem d_97_30 : decode prog_10_method_29_code 30 = .ok (.putfield 171, 3) := by decide +kernel
theorem d_97_33 : decode prog_10_method_29_code 33 = .ok (.aload_n 0, 1) := by decide +kernel
theorem d_97_34 : decode prog_10_method_29_code 34 = .ok (.iconst 0, 1) := by decide +kernel
theorem d_97_35 : decode prog_10_method_29_code 35 = .ok (.putfield 120, 3) := by decide +kernel
theorem d_97_38 : decode prog_10_method_29_code 38 = .ok (.aload_n 0, 1) := by decide +kernel
theorem d_97_39 : decode prog_10_method_29_code 39 = .ok (.getfield 26, 3) := by decide +kernel
theorem d_97_42 : decode prog_10_method_29_code 42 = .ok (.iconst 0, 1) := by decide +kernel
theorem d_97_43 : decode prog_10_method_29_code 43 = .ok (.iload_n 1, 1) := by decide +kernel
theorem d_97_44 : decode prog_10_method_29_code 44 = .ok (.iastore, 1) := by decide +kernel
theorem d_97_45 : decode prog_10_method_29_code 45 = .ok (.aload_n 0, 1) := by decide +kernel
theorem d_97_46 : decode prog_10_method_29_code 46 = .ok (.getfield 29, 3) := by decide +kernel
theorem d_97_49 : decode prog_10_method_29_code 49 = .ok (.iconst 0, 1) := by decide +kernel
theorem d_97_50 : decode prog_10_method_29_code 50 = .ok (.iload_n 1, 1) := by decide +kernel
theorem d_97_51 : decode prog_10_method_29_code 51 = .ok (.iastore, 1) := by decide +kernel
theorem d_97_52 : decode prog_10_method_29_code 52 = .ok (.aload_n 0, 1) := by decide +kernel
theorem d_97_53 : decode prog_10_method_29_code 53 = .ok (.getfield 32, 3) := by decide +kernel
theorem d_97_56 : decode prog_10_method_29_code 56 = .ok (.iconst 0, 1) := by decide +kernel
theorem d_97_57 : decode prog_10_method_29_code 57 = .ok (.iconst 0, 1) := by decide +kernel
theorem d_97_58 : decode prog_10_method_29_code 58 = .ok (.iastore, 1) := by decide +kernel
theorem d_97_59 : decode prog_10_method_29_code 59 = .ok (.iconst 0, 1) := by decide +kernel
theorem d_97_60 : decode prog_10_method_29_code 60 = .ok (.istore_n 2, 1) := by decide +kernel
theorem d_97_61 : decode prog_10_method_29_code 61 = .ok (.iload_n 2, 1) := by decide +kernel
theorem d_97_62 : decode prog_10_method_29_code 62 = .ok (.iload_n 1, 1) := by decide +kernel
theorem d_97_63 : decode prog_10_method_29_code 63 = .ok (.if_icmp .ge 74, 3) := by decide +kernel
theorem d_97_66 : decode prog_10_method_29_code 66 = .ok (.aload_n 0, 1) := by decide +kernel
theorem d_97_67 : decode prog_10_method_29_code 67 = .ok (.getfield 17, 3) := by decide +kernel
theorem d_97_70 : decode prog_10_method_29_code 70 = .ok (.iconst 4, 1) := by decide +kernel
theorem d_97_71 : decode prog_10_method_29_code 71 = .ok (.iload_n 2, 1) := by decide +kernel
theorem d_97_72 : decode prog_10_method_29_code 72 = .ok (.imul, 1) := by decide +kernel
theorem d_97_73 : decode prog_10_method_29_code 73 = .ok (.iload_n 2, 1) := by decide +kernel
theorem d_97_74 : decode prog_10_method_29_code 74 = .ok (.iastore, 1) := by decide +kernel
theorem d_97_75 : decode prog_10_method_29_code 75 = .ok (.aload_n 0, 1) := by decide +kernel
theorem d_97_76 : decode prog_10_method_29_code 76 = .ok (.getfield 20, 3) := by decide +kernel
theorem d_97_79 : decode prog_10_method_29_code 79 = .ok (.iload_n 2, 1) := by decide +kernel
theorem d_97_80 : decode prog_10_method_29_code 80 = .ok (.iconst 1, 1) := by decide +kernel
theorem d_97_81 : decode prog_10_method_29_code 81 = .ok (.iastore, 1) := by decide +kernel
theorem d_97_82 : decode prog_10_method_29_code 82 = .ok (.aload_n 0, 1) := by decide +kernel
theorem d_97_83 : decode prog_10_method_29_code 83 = .ok (.getfield 23, 3) := by decide +kernel
theorem d_97_86 : decode prog_10_method_29_code 86 = .ok (.iload_n 2, 1) := by decide +kernel
theorem d_97_87 : decode prog_10_method_29_code 87 = .ok (.iconst 0, 1) := by decide +kernel
theorem d_97_88 : decode prog_10_method_29_code 88 = .ok (.iastore, 1) := by decide +kernel
theorem d_97_89 : decode prog_10_method_29_code 89 = .ok (.aload_n 0, 1) := by decide +kernel
theorem d_97_90 : decode prog_10_method_29_code 90 = .ok (.getfield 50, 3) := by decide +kernel
theorem d_97_93 : decode prog_10_method_29_code 93 = .ok (.iload_n 2, 1) := by decide +kernel
theorem d_97_94 : decode prog_10_method_29_code 94 = .ok (.iconst 0, 1) := by decide +kernel
theorem d_97_95 : decode prog_10_method_29_code 95 = .ok (.iastore, 1) := by decide +kernel
theorem d_97_96 : decode prog_10_method_29_code 96 = .ok (.aload_n 0, 1) := by decide +kernel
theorem d_97_97 : decode prog_10_method_29_code 97 = .ok (.getfield 53, 3) := by decide +kernel
theorem d_97_100 : decode prog_10_method_29_code 100 = .ok (.iload_n 2, 1) := by decide +kernel
theorem d_97_101 : decode prog_10_method_29_code 101 = .ok (.iconst 0, 1) := by decide +kernel
theorem d_97_102 : decode prog_10_method_29_code 102 = .ok (.iastore, 1) := by decide +kernel
theorem d_97_103 : decode prog_10_method_29_code 103 = .ok (.aload_n 0, 1) := by decide +kernel
theorem d_97_104 : decode prog_10_method_29_code 104 = .ok (.getfield 56, 3) := by decide +kernel
theorem d_97_107 : decode prog_10_method_29_code 107 = .ok (.iload_n 2, 1) := by decide +kernel
theorem d_97_108 : decode prog_10_method_29_code 108 = .ok (.iload_n 2, 1) := by decide +kernel
theorem d_97_109 : decode prog_10_method_29_code 109 = .ok (.iastore, 1) := by decide +kernel
theorem d_97_110 : decode prog_10_method_29_code 110 = .ok (.aload_n 0, 1) := by decide +kernel
theorem d_97_111 : decode prog_10_method_29_code 111 = .ok (.getfield 59, 3) := by decide +kernel
theorem d_97_114 : decode prog_10_method_29_code 114 = .ok (.iload_n 2, 1) := by decide +kernel
theorem d_97_115 : decode prog_10_method_29_code 115 = .ok (.iconst 0, 1) := by decide +kernel
theorem d_97_116 : decode prog_10_method_29_code 116 = .ok (.iastore, 1) := by decide +kernel
theorem d_97_117 : decode prog_10_method_29_code 117 = .ok (.aload_n 0, 1) := by decide +kernel
theorem d_97_118 : decode prog_10_method_29_code 118 = .ok (.getfield 62, 3) := by decide +kernel
theorem d_97_121 : decode prog_10_method_29_code 121 = .ok (.iload_n 2, 1) := by decide +kernel
theorem d_97_122 : decode prog_10_method_29_code 122 = .ok (.iconst 0, 1) := by decide +kernel
theorem d_97_123 : decode prog_10_method_29_code 123 = .ok (.iastore, 1) := by decide +kernel
theorem d_97_124 : decode prog_10_method_29_code 124 = .ok (.aload_n 0, 1) := by decide +kernel
theorem d_97_125 : decode prog_10_method_29_code 125 = .ok (.getfield 65, 3) := by decide +kernel
theorem d_97_128 : decode prog_10_method_29_code 128 = .ok (.iload_n 2, 1) := by decide +kernel
theorem d_97_129 : decode prog_10_method_29_code 129 = .ok (.iconst 0, 1) := by decide +kernel
theorem d_97_130 : decode prog_10_method_29_code 130 = .ok (.iastore, 1) := by decide +kernel
theorem d_97_131 : decode prog_10_method_29_code 131 = .ok (.iinc 2 1, 3) := by decide +kernel
theorem d_97_134 : decode prog_10_method_29_code 134 = .ok (.goto (-73), 3) := by decide +kernel
theorem d_97_137 : decode prog_10_method_29_code 137 = .ok (.aload_n 0, 1) := by decide +kernel
theorem d_97_138 : decode prog_10_method_29_code 138 = .ok (.getfield 35, 3) := by decide +kernel
theorem d_97_141 : decode prog_10_method_29_code 141 = .ok (.iconst 0, 1) := by decide +kernel
theorem d_97_142 : decode prog_10_method_29_code 142 = .ok (.iconst 1, 1) := by decide +kernel
theorem d_97_143 : decode prog_10_method_29_code 143 = .ok (.iastore, 1) := by decide +kernel
theorem d_97_144 : decode prog_10_method_29_code 144 = .ok (.aload_n 0, 1) := by decide +kernel
theorem d_97_145 : decode prog_10_method_29_code 145 = .ok (.getfield 35, 3) := by decide +kernel
theorem d_97_148 : decode prog_10_method_29_code 148 = .ok (.iconst 1, 1) := by decide +kernel
theorem d_97_149 : decode prog_10_method_29_code 149 = .ok (.iconst (-1), 1) := by decide +kernel
theorem d_97_150 : decode prog_10_method_29_code 150 = .ok (.iastore, 1) := by decide +kernel
theorem d_97_151 : decode prog_10_method_29_code 151 = .ok (.aload_n 0, 1) := by decide +kernel
theorem d_97_152 : decode prog_10_method_29_code 152 = .ok (.getfield 35, 3) := by decide +kernel
theorem d_97_155 : decode prog_10_method_29_code 155 = .ok (.iconst 2, 1) := by decide +kernel
theorem d_97_156 : decode prog_10_method_29_code 156 = .ok (.iconst (-1), 1) := by decide +kernel
theorem d_97_157 : decode prog_10_method_29_code 157 = .ok (.iastore, 1) := by decide +kernel
theorem d_97_158 : decode prog_10_method_29_code 158 = .ok (.return_, 1) := by decide +kernel
theorem d_98_0 : decode prog_10_method_30_code 0 = .ok (.aload_n 0, 1) := by decide +kernel
theorem d_98_1 : decode prog_10_method_30_code 1 = .ok (.iconst 0, 1) := by decide +kernel
theorem d_98_2 : decode prog_10_method_30_code 2 = .ok (.putfield 102, 3) := by decide +kernel
theorem d_98_5 : decode prog_10_method_30_code 5 = .ok (.aload_n 0, 1) := by decide +kernel
theorem d_98_6 : decode prog_10_method_30_code 6 = .ok (.getfield 171, 3) := by decide +kernel
theorem d_98_9 : decode prog_10_method_30_code 9 = .ok (.ifCond .eq 10, 3) := by decide +kernel
theorem d_98_12 : decode prog_10_method_30_code 12 = .ok (.aload_n 0, 1) := by decide +kernel
theorem d_98_13 : decode prog_10_method_30_code 13 = .ok (.getfield 120, 3) := by decide +kernel
theorem d_98_16 : decode prog_10_method_30_code 16 = .ok (.ifCond .ne 5, 3) := by decide +kernel
theorem d_98_19 : decode prog_10_method_30_code 19 = .ok (.iconst (-1), 1) := by decide +kernel
theorem d_98_20 : decode prog_10_method_30_code 20 = .ok (.ireturn, 1) := by decide +kernel
theorem d_98_21 : decode prog_10_method_30_code 21 = .ok (.iconst 0, 1) := by decide +kernel
theorem d_98_22 : decode prog_10_method_30_code 22 = .ok (.istore_n 1, 1) := by decide +kernel
theorem d_98_23 : decode prog_10_method_30_code 23 = .ok (.iload_n 1, 1) := by decide +kernel
theorem d_98_24 : decode prog_10_method_30_code 24 = .ok (.aload_n 0, 1) := by decide +kernel
theorem d_98_25 : decode prog_10_method_30_code 25 = .ok (.getfield 29, 3) := by decide +kernel
theorem d_98_28 : decode prog_10_method_30_code 28 = .ok (.aload_n 0, 1) := by decide +kernel
theorem d_98_29 : decode prog_10_method_30_code 29 = .ok (.getfield 120, 3) := by decide +kernel
theorem d_98_32 : decode prog_10_method_30_code 32 = .ok (.iaload, 1) := by decide +kernel
theorem d_98_33 : decode prog_10_method_30_code 33 = .ok (.if_icmp .ge 38, 3) := by decide +kernel
theorem d_98_36 : decode prog_10_method_30_code 36 = .ok (.aload_n 0, 1) := by decide +kernel
theorem d_98_37 : decode prog_10_method_30_code 37 = .ok (.getfield 65, 3) := by decide +kernel
theorem d_98_40 : decode prog_10_method_30_code 40 = .ok (.iload_n 1, 1) := by decide +kernel
theorem d_98_41 : decode prog_10_method_30_code 41 = .ok (.aload_n 0, 1) := by decide +kernel
theorem d_98_42 : decode prog_10_method_30_code 42 = .ok (.getfield 65, 3) := by decide +kernel
theorem d_98_45 : decode prog_10_method_30_code 45 = .ok (.iload_n 1, 1) := by decide +kernel
theorem d_98_46 : decode prog_10_method_30_code 46 = .ok (.iaload, 1) := by decide +kernel
theorem d_98_47 : decode prog_10_method_30_code 47 = .ok (.aload_n 0, 1) := by decide +kernel
theorem d_98_48 : decode prog_10_method_30_code 48 = .ok (.getfield 120, 3) := by decide +kernel
theorem d_98_51 : decode prog_10_method_30_code 51 = .ok (.if_icmp .ne 7, 3) := by decide +kernel
theorem d_98_54 : decode prog_10_method_30_code 54 = .ok (.iconst 0, 1) := by decide +kernel
theorem d_98_55 : decode prog_10_method_30_code 55 = .ok (.goto 9, 3) := by decide +kernel
theorem d_98_58 : decode prog_10_method_30_code 58 = .ok (.aload_n 0, 1) := by decide +kernel
theorem d_98_59 : decode prog_10_method_30_code 59 = .ok (.getfield 65, 3) := by decide +kernel
theorem d_98_62 : decode prog_10_method_30_code 62 = .ok (.iload_n 1, 1) := by decide +kernel
theorem d_98_63 : decode prog_10_method_30_code 63 = .ok (.iaload, 1) := by decide +kernel
theorem d_98_64 : decode prog_10_method_30_code 64 = .ok (.iastore, 1) := by decide +kernel
theorem d_98_65 : decode prog_10_method_30_code 65 = .ok (.iinc 1 1, 3) := by decide +kernel
theorem d_98_68 : decode prog_10_method_30_code 68 = .ok (.goto (-45), 3) := by decide +kernel
theorem d_98_71 : decode prog_10_method_30_code 71 = .ok (.aload_n 0, 1) := by decide +kernel
theorem d_98_72 : decode prog_10_method_30_code 72 = .ok (.dup, 1) := by decide +kernel
theorem d_98_73 : decode prog_10_method_30_code 73 = .ok (.getfield 120, 3) := by decide +kernel
theorem d_98_76 : decode prog_10_method_30_code 76 = .ok (.iconst 1, 1) := by decide +kernel
theorem d_98_77 : decode prog_10_method_30_code 77 = .ok (.isub, 1) := by decide +kernel
theorem d_98_78 : decode prog_10_method_30_code 78 = .ok (.putfield 120, 3) := by decide +kernel
theorem d_98_81 : decode prog_10_method_30_code 81 = .ok (.aload_n 0, 1) := by decide +kernel
theorem d_98_82 : decode prog_10_method_30_code 82 = .ok (.getfield 120, 3) := by decide +kernel
theorem d_98_85 : decode prog_10_method_30_code 85 = .ok (.ireturn, 1) := by decide +kernel
theorem d_99_0 : decode prog_10_method_31_code 0 = .ok (.aload_n 0, 1) := by decide +kernel
theorem d_99_1 : decode prog_10_method_31_code 1 = .ok (.iconst 0, 1) := by decide +kernel
theorem d_99_2 : decode prog_10_method_31_code 2 = .ok (.putfield 102, 3) := by decide +kernel
theorem d_99_5 : decode prog_10_method_31_code 5 = .ok (.iload_n 1, 1) := by decide +kernel
theorem d_99_6 : decode prog_10_method_31_code 6 = .ok (.ifCond .lt 8, 3) := by decide +kernel
theorem d_99_9 : decode prog_10_method_31_code 9 = .ok (.iload_n 1, 1) := by decide +kernel
theorem d_99_10 : decode prog_10_method_31_code 10 = .ok (.iconst 3, 1) := by decide +kernel
theorem d_99_11 : decode prog_10_method_31_code 11 = .ok (.if_icmp .le 5, 3) := by decide +kernel
theorem d_99_14 : decode prog_10_method_31_code 14 = .ok (.iconst (-1), 1) := by decide +kernel
theorem d_99_15 : decode prog_10_method_31_code 15 = .ok (.ireturn, 1) := by decide +kernel
theorem d_99_16 : decode prog_10_method_31_code 16 = .ok (.aload_n 0, 1) := by decide +kernel
theorem d_99_17 : decode prog_10_method_31_code 17 = .ok (.getfield 171, 3) := by decide +kernel
theorem d_99_20 : decode prog_10_method_31_code 20 = .ok (.ifCond .ne 7, 3) := by decide +kernel
theorem d_99_23 : decode prog_10_method_31_code 23 = .ok (.iconst 0, 1) := by decide +kernel
theorem d_99_24 : decode prog_10_method_31_code 24 = .ok (.goto 57, 3) := by decide +kernel
theorem d_99_27 : decode prog_10_method_31_code 27 = .ok (.iload_n 1, 1) := by decide +kernel
theorem d_99_28 : decode prog_10_method_31_code 28 = .ok (.ifCond .ne 10, 3) := by decide +kernel
theorem d_99_31 : decode prog_10_method_31_code 31 = .ok (.aload_n 0, 1) := by decide +kernel
theorem d_99_32 : decode prog_10_method_31_code 32 = .ok (.getfield 120, 3) := by decide +kernel
theorem d_99_35 : decode prog_10_method_31_code 35 = .ok (.goto 46, 3) := by decide +kernel
theorem d_99_38 : decode prog_10_method_31_code 38 = .ok (.iload_n 1, 1) := by decide +kernel
theorem d_99_39 : decode prog_10_method_31_code 39 = .ok (.iconst 1, 1) := by decide +kernel
theorem d_99_40 : decode prog_10_method_31_code 40 = .ok (.if_icmp .ne 15, 3) := by decide +kernel
theorem d_99_43 : decode prog_10_method_31_code 43 = .ok (.aload_n 0, 1) := by decide +kernel
theorem d_99_44 : decode prog_10_method_31_code 44 = .ok (.getfield 26, 3) := by decide +kernel
theorem d_99_47 : decode prog_10_method_31_code 47 = .ok (.aload_n 0, 1) := by decide +kernel
theorem d_99_48 : decode prog_10_method_31_code 48 = .ok (.getfield 120, 3) := by decide +kernel
theorem d_99_51 : decode prog_10_method_31_code 51 = .ok (.iaload, 1) := by decide +kernel
theorem d_99_52 : decode prog_10_method_31_code 52 = .ok (.goto 29, 3) := by decide +kernel
theorem d_99_55 : decode prog_10_method_31_code 55 = .ok (.iload_n 1, 1) := by decide +kernel
theorem d_99_56 : decode prog_10_method_31_code 56 = .ok (.iconst 2, 1) := by decide +kernel
theorem d_99_57 : decode prog_10_method_31_code 57 = .ok (.if_icmp .ne 15, 3) := by decide +kernel
theorem d_99_60 : decode prog_10_method_31_code 60 = .ok (.aload_n 0, 1) := by decide +kernel
theorem d_99_61 : decode prog_10_method_31_code 61 = .ok (.getfield 29, 3) := by decide +kernel
theorem d_99_64 : decode prog_10_method_31_code 64 = .ok (.aload_n 0, 1) := by decide +kernel
theorem d_99_65 : decode prog_10_method_31_code 65 = .ok (.getfield 120, 3) := by decide +kernel
theorem d_99_68 : decode prog_10_method_31_code 68 = .ok (.iaload, 1) := by decide +kernel
theorem d_99_69 : decode prog_10_method_31_code 69 = .ok (.goto 12, 3) := by decide +kernel
theorem d_99_72 : decode prog_10_method_31_code 72 = .ok (.aload_n 0, 1) := by decide +kernel
theorem d_99_73 : decode prog_10_method_31_code 73 = .ok (.getfield 32, 3) := by decide +kernel
theorem d_99_76 : decode prog_10_method_31_code 76 = .ok (.aload_n 0, 1) := by decide +kernel
theorem d_99_77 : decode prog_10_method_31_code 77 = .ok (.getfield 120, 3) := by decide +kernel
theorem d_99_80 : decode prog_10_method_31_code 80 = .ok (.iaload, 1) := by decide +kernel
theorem d_99_81 : decode prog_10_method_31_code 81 = .ok (.ireturn, 1) := by decide +kernel
theorem d_100_0 : decode prog_10_method_32_code 0 = .ok (.aload_n 0, 1) := by decide +kernel
theorem d_100_1 : decode prog_10_method_32_code 1 = .ok (.getfield 171, 3) := by decide +kernel
theorem d_100_4 : decode prog_10_method_32_code 4 = .ok (.ifCond .eq 16, 3) := by decide +kernel
theorem d_100_7 : decode prog_10_method_32_code 7 = .ok (.iload_n 1, 1) := by decide +kernel
theorem d_100_8 : decode prog_10_method_32_code 8 = .ok (.iconst 1, 1) := by decide +kernel
theorem d_100_9 : decode prog_10_method_32_code 9 = .ok (.if_icmp .lt 11, 3) := by decide +kernel
theorem d_100_12 : decode prog_10_method_32_code 12 = .ok (.iload_n 1, 1) := by decide +kernel
theorem d_100_13 : decode prog_10_method_32_code 13 = .ok (.aload_n 0, 1) := by decide +kernel
theorem d_100_14 : decode prog_10_method_32_code 14 = .ok (.getfield 120, 3) := by decide +kernel
theorem d_100_17 : decode prog_10_method_32_code 17 = .ok (.if_icmp .le 7, 3) := by decide +kernel
theorem d_100_20 : decode prog_10_method_32_code 20 = .ok (.iconst 1, 1) := by decide +kernel
theorem d_100_21 : decode prog_10_method_32_code 21 = .ok (.goto 4, 3) := by decide +kernel
theorem d_100_24 : decode prog_10_method_32_code 24 = .ok (.iconst 0, 1) := by decide +kernel
theorem d_100_25 : decode prog_10_method_32_code 25 = .ok (.ireturn, 1) := by decide +kernel
theorem d_101_0 : decode prog_10_method_33_code 0 = .ok (.aload_n 0, 1) := by decide +kernel
theorem d_101_1 : decode prog_10_method_33_code 1 = .ok (.getfield 171, 3) := by decide +kernel
theorem d_101_4 : decode prog_10_method_33_code 4 = .ok (.ifCond .eq 20, 3) := by decide +kernel
theorem d_101_7 : decode prog_10_method_33_code 7 = .ok (.iload_n 1, 1) := by decide +kernel
theorem d_101_8 : decode prog_10_method_33_code 8 = .ok (.ifCond .lt 16, 3) := by decide +kernel
theorem d_101_11 : decode prog_10_method_33_code 11 = .ok (.iload_n 1, 1) := by decide +kernel
theorem d_101_12 : decode prog_10_method_33_code 12 = .ok (.aload_n 0, 1) := by decide +kernel
theorem d_101_13 : decode prog_10_method_33_code 13 = .ok (.getfield 29, 3) := by decide +kernel
theorem d_101_16 : decode prog_10_method_33_code 16 = .ok (.aload_n 0, 1) := by decide +kernel
theorem d_101_17 : decode prog_10_method_33_code 17 = .ok (.getfield 120, 3) := by decide +kernel
theorem d_101_20 : decode prog_10_method_33_code 20 = .ok (.iaload, 1) := by decide +kernel
theorem d_101_21 : decode prog_10_method_33_code 21 = .ok (.if_icmp .lt 7, 3) := by decide +kernel
theorem d_101_24 : decode prog_10_method_33_code 24 = .ok (.iconst 1, 1) := by decide +kernel
theorem d_101_25 : decode prog_10_method_33_code 25 = .ok (.goto 4, 3) := by decide +kernel
theorem d_101_28 : decode prog_10_method_33_code 28 = .ok (.iconst 0, 1) := by decide +kernel
theorem d_101_29 : decode prog_10_method_33_code 29 = .ok (.ireturn, 1) := by decide +kernel
theorem d_102_0 : decode prog_10_method_34_code 0 = .ok (.aload_n 0, 1) := by decide +kernel
theorem d_102_1 : decode prog_10_method_34_code 1 = .ok (.aload_n 0, 1) := by decide +kernel
theorem d_102_2 : decode prog_10_method_34_code 2 = .ok (.getfield 38, 3) := by decide +kernel
theorem d_102_5 : decode prog_10_method_34_code 5 = .ok (.bipush 40, 2) := by decide +kernel
theorem d_102_7 : decode prog_10_method_34_code 7 = .ok (.iload_n 1, 1) := by decide +kernel
theorem d_102_8 : decode prog_10_method_34_code 8 = .ok (.imul, 1) := by decide +kernel
theorem d_102_9 : decode prog_10_method_34_code 9 = .ok (.aload_n 0, 1) := by decide +kernel
theorem d_102_10 : decode prog_10_method_34_code 10 = .ok (.getfield 41, 3) := by decide +kernel
theorem d_102_13 : decode prog_10_method_34_code 13 = .ok (.iload_n 1, 1) := by decide +kernel
theorem d_102_14 : decode prog_10_method_34_code 14 = .ok (.iaload, 1) := by decide +kernel
theorem d_102_15 : decode prog_10_method_34_code 15 = .ok (.invokevirtual 175, 3) := by decide +kernel
theorem d_102_18 : decode prog_10_method_34_code 18 = .ok (.istore_n 3, 1) := by decide +kernel
theorem d_102_19 : decode prog_10_method_34_code 19 = .ok (.iload_n 1, 1) := by decide +kernel
theorem d_102_20 : decode prog_10_method_34_code 20 = .ok (.iconst 1, 1) := by decide +kernel
theorem d_102_21 : decode prog_10_method_34_code 21 = .ok (.isub, 1) := by decide +kernel
theorem d_102_22 : decode prog_10_method_34_code 22 = .ok (.istore 4, 2) := by decide +kernel
theorem d_102_24 : decode prog_10_method_34_code 24 = .ok (.iconst 0, 1) := by decide +kernel
theorem d_102_25 : decode prog_10_method_34_code 25 = .ok (.istore 5, 2) := by decide +kernel
theorem d_102_27 : decode prog_10_method_34_code 27 = .ok (.iconst 0, 1) := by decide +kernel
theorem d_102_28 : decode prog_10_method_34_code 28 = .ok (.istore 6, 2) := by decide +kernel
theorem d_102_30 : decode prog_10_method_34_code 30 = .ok (.iconst 0, 1) := by decide +kernel
theorem d_102_31 : decode prog_10_method_34_code 31 = .ok (.istore 7, 2) := by decide +kernel
theorem d_102_33 : decode prog_10_method_34_code 33 = .ok (.iload 7, 2) := by decide +kernel
theorem d_102_35 : decode prog_10_method_34_code 35 = .ok (.aload_n 0, 1) := by decide +kernel
theorem d_102_36 : decode prog_10_method_34_code 36 = .ok (.getfield 110, 3) := by decide +kernel
theorem d_102_39 : decode prog_10_method_34_code 39 = .ok (.if_icmp .ge 243, 3) := by decide +kernel
theorem d_102_42 : decode prog_10_method_34_code 42 = .ok (.aload_n 0, 1) := by decide +kernel
theorem d_102_43 : decode prog_10_method_34_code 43 = .ok (.getfield 68, 3) := by decide +kernel
theorem d_102_46 : decode prog_10_method_34_code 46 = .ok (.iload 7, 2) := by decide +kernel
theorem d_102_48 : decode prog_10_method_34_code 48 = .ok (.iaload, 1) := by decide +kernel
theorem d_102_49 : decode prog_10_method_34_code 49 = .ok (.bipush 60, 2) := by decide +kernel
theorem d_102_51 : decode prog_10_method_34_code 51 = .ok (.if_icmp .eq 15, 3) := by decide +kernel
theorem d_102_54 : decode prog_10_method_34_code 54 = .ok (.aload_n 0, 1) := by decide +kernel
theorem d_102_55 : decode prog_10_method_34_code 55 = .ok (.getfield 68, 3) := by decide +kernel
theorem d_102_58 : decode prog_10_method_34_code 58 = .ok (.iload 7, 2) := by decide +kernel
theorem d_102_60 : decode prog_10_method_34_code 60 = .ok (.iaload, 1) := by decide +kernel
theorem d_102_61 : decode prog_10_method_34_code 61 = .ok (.bipush 62, 2) := by decide +kernel
theorem d_102_63 : decode prog_10_method_34_code 63 = .ok (.if_icmp .ne 7, 3) := by decide +kernel
theorem d_102_66 : decode prog_10_method_34_code 66 = .ok (.iconst 1, 1) := by decide +kernel
theorem d_102_67 : decode prog_10_method_34_code 67 = .ok (.goto 4, 3) := by decide +kernel
theorem d_102_70 : decode prog_10_method_34_code 70 = .ok (.iconst 0, 1) := by decide +kernel
theorem d_102_71 : decode prog_10_method_34_code 71 = .ok (.istore 8, 2) := by decide +kernel
theorem d_102_73 : decode prog_10_method_34_code 73 = .ok (.iconst 0, 1) := by decide +kernel
theorem d_102_74 : decode prog_10_method_34_code 74 = .ok (.istore 9, 2) := by decide +kernel
theorem d_102_76 : decode prog_10_method_34_code 76 = .ok (.iload 9, 2) := by decide +kernel
theorem d_102_78 : decode prog_10_method_34_code 78 = .ok (.iconst 4, 1) := by decide +kernel
theorem d_102_79 : decode prog_10_method_34_code 79 = .ok (.aload_n 0, 1) := by decide +kernel
theorem d_102_80 : decode prog_10_method_34_code 80 = .ok (.getfield 74, 3) := by decide +kernel
theorem d_102_83 : decode prog_10_method_34_code 83 = .ok (.iload 7, 2) := by decide +kernel
theorem d_102_85 : decode prog_10_method_34_code 85 = .ok (.iaload, 1) := by decide +kernel
theorem d_102_86 : decode prog_10_method_34_code 86 = .ok (.imul, 1) := by decide +kernel
theorem d_102_87 : decode prog_10_method_34_code 87 = .ok (.if_icmp .ge 178, 3) := by decide +kernel
theorem d_102_90 : decode prog_10_method_34_code 90 = .ok (.iload 8, 2) := by decide +kernel
theorem d_102_92 : decode prog_10_method_34_code 92 = .ok (.ifCond .eq 173, 3) := by decide +kernel
theorem d_102_95 : decode prog_10_method_34_code 95 = .ok (.iconst 0, 1) := by decide +kernel
theorem d_102_96 : decode prog_10_method_34_code 96 = .ok (.istore 10, 2) := by decide +kernel
theorem d_102_98 : decode prog_10_method_34_code 98 = .ok (.iload 10, 2) := by decide +kernel
theorem d_102_100 : decode prog_10_method_34_code 100 = .ok (.iconst 4, 1) := by decide +kernel
theorem d_102_101 : decode prog_10_method_34_code 101 = .ok (.aload_n 0, 1) := by decide +kernel
theorem d_102_102 : decode prog_10_method_34_code 102 = .ok (.getfield 77, 3) := by decide +kernel
theorem d_102_105 : decode prog_10_method_34_code 105 = .ok (.iload 7, 2) := by decide +kernel
theorem d_102_107 : decode prog_10_method_34_code 107 = .ok (.iaload, 1) := by decide +kernel
theorem d_102_108 : decode prog_10_method_34_code 108 = .ok (.imul, 1) := by decide +kernel
theorem d_102_109 : decode prog_10_method_34_code 109 = .ok (.if_icmp .ge 150, 3) := by decide +kernel
theorem d_102_112 : decode prog_10_method_34_code 112 = .ok (.iload 5, 2) := by decide +kernel
theorem d_102_114 : decode prog_10_method_34_code 114 = .ok (.iload 9, 2) := by decide +kernel
theorem d_102_116 : decode prog_10_method_34_code 116 = .ok (.iconst 4, 1) := by decide +kernel
theorem d_102_117 : decode prog_10_method_34_code 117 = .ok (.idiv, 1) := by decide +kernel
theorem d_102_118 : decode prog_10_method_34_code 118 = .ok (.iadd, 1) := by decide +kernel
theorem d_102_119 : decode prog_10_method_34_code 119 = .ok (.istore 11, 2) := by decide +kernel
theorem d_102_121 : decode prog_10_method_34_code 121 = .ok (.iload 5, 2) := by decide +kernel
theorem d_102_123 : decode prog_10_method_34_code 123 = .ok (.aload_n 0, 1) := by decide +kernel
theorem d_102_124 : decode prog_10_method_34_code 124 = .ok (.getfield 74, 3) := by decide +kernel
theorem d_102_127 : decode prog_10_method_34_code 127 = .ok (.iload 7, 2) := by decide +kernel
theorem d_102_129 : decode prog_10_method_34_code 129 = .ok (.iaload, 1) := by decide +kernel
theorem d_102_130 : decode prog_10_method_34_code 130 = .ok (.iadd, 1) := by decide +kernel
theorem d_102_131 : decode prog_10_method_34_code 131 = .ok (.iload 10, 2) := by decide +kernel
theorem d_102_133 : decode prog_10_method_34_code 133 = .ok (.iconst 4, 1) := by decide +kernel
theorem d_102_134 : decode prog_10_method_34_code 134 = .ok (.idiv, 1) := by decide +kernel
theorem d_102_135 : decode prog_10_method_34_code 135 = .ok (.iadd, 1) := by decide +kernel
theorem d_102_136 : decode prog_10_method_34_code 136 = .ok (.istore 12, 2) := by decide +kernel
theorem d_102_138 : decode prog_10_method_34_code 138 = .ok (.iload 9, 2) := by decide +kernel
theorem d_102_140 : decode prog_10_method_34_code 140 = .ok (.iconst 4, 1) := by decide +kernel
theorem d_102_141 : decode prog_10_method_34_code 141 = .ok (.irem, 1) := by decide +kernel
theorem d_102_142 : decode prog_10_method_34_code 142 = .ok (.aload_n 0, 1) := by decide +kernel
theorem d_102_143 : decode prog_10_method_34_code 143 = .ok (.getfield 20, 3) := by decide +kernel
theorem d_102_146 : decode prog_10_method_34_code 146 = .ok (.bipush 16, 2) := by decide +kernel
theorem d_102_148 : decode prog_10_method_34_code 148 = .ok (.iload 4, 2) := by decide +kernel
theorem d_102_150 : decode prog_10_method_34_code 150 = .ok (.imul, 1) := by decide +kernel
theorem d_102_151 : decode prog_10_method_34_code 151 = .ok (.iload 11, 2) := by decide +kernel
theorem d_102_153 : decode prog_10_method_34_code 153 = .ok (.iadd, 1) := by decide +kernel
theorem d_102_154 : decode prog_10_method_34_code 154 = .ok (.iaload, 1) := by decide +kernel
theorem d_102_155 : decode prog_10_method_34_code 155 = .ok (.if_icmp .ge 98, 3) := by decide +kernel
theorem d_102_158 : decode prog_10_method_34_code 158 = .ok (.iload 10, 2) := by decide +kernel
theorem d_102_160 : decode prog_10_method_34_code 160 = .ok (.iconst 4, 1) := by decide +kernel
theorem d_102_161 : decode prog_10_method_34_code 161 = .ok (.irem, 1) := by decide +kernel
theorem d_102_162 : decode prog_10_method_34_code 162 = .ok (.aload_n 0, 1) := by decide +kernel
theorem d_102_163 : decode prog_10_method_34_code 163 = .ok (.getfield 20, 3) := by decide +kernel
theorem d_102_166 : decode prog_10_method_34_code 166 = .ok (.bipush 16, 2) := by decide +kernel
theorem d_102_168 : decode prog_10_method_34_code 168 = .ok (.iload 4, 2) := by decide +kernel
theorem d_102_170 : decode prog_10_method_34_code 170 = .ok (.imul, 1) := by decide +kernel
theorem d_102_171 : decode prog_10_method_34_code 171 = .ok (.iload 12, 2) := by decide +kernel
theorem d_102_173 : decode prog_10_method_34_code 173 = .ok (.iadd, 1) := by decide +kernel
theorem d_102_174 : decode prog_10_method_34_code 174 = .ok (.iaload, 1) := by decide +kernel
theorem d_102_175 : decode prog_10_method_34_code 175 = .ok (.if_icmp .ge 78, 3) := by decide +kernel
theorem d_102_178 : decode prog_10_method_34_code 178 = .ok (.iload 6, 2) := by decide +kernel
theorem d_102_180 : decode prog_10_method_34_code 180 = .ok (.iload_n 2, 1) := by decide +kernel
theorem d_102_181 : decode prog_10_method_34_code 181 = .ok (.if_icmp .ne 69, 3) := by decide +kernel
theorem d_102_184 : decode prog_10_method_34_code 184 = .ok (.sipush 1024, 3) := by decide +kernel
theorem d_102_187 : decode prog_10_method_34_code 187 = .ok (.aload_n 0, 1) := by decide +kernel
theorem d_102_188 : decode prog_10_method_34_code 188 = .ok (.getfield 17, 3) := by decide +kernel
theorem d_102_191 : decode prog_10_method_34_code 191 = .ok (.bipush 64, 2) := by decide +kernel
theorem d_102_193 : decode prog_10_method_34_code 193 = .ok (.iload 4, 2) := by decide +kernel
theorem d_102_195 : decode prog_10_method_34_code 195 = .ok (.imul, 1) := by decide +kernel
theorem d_102_196 : decode prog_10_method_34_code 196 = .ok (.iconst 4, 1) := by decide +kernel
theorem d_102_197 : decode prog_10_method_34_code 197 = .ok (.iload 11, 2) := by decide +kernel
theorem d_102_199 : decode prog_10_method_34_code 199 = .ok (.imul, 1) := by decide +kernel
theorem d_102_200 : decode prog_10_method_34_code 200 = .ok (.iadd, 1) := by decide +kernel
theorem d_102_201 : decode prog_10_method_34_code 201 = .ok (.iload 9, 2) := by decide +kernel
theorem d_102_203 : decode prog_10_method_34_code 203 = .ok (.iconst 4, 1) := by decide +kernel
theorem d_102_204 : decode prog_10_method_34_code 204 = .ok (.irem, 1) := by decide +kernel
theorem d_102_205 : decode prog_10_method_34_code 205 = .ok (.iadd, 1) := by decide +kernel
theorem d_102_206 : decode prog_10_method_34_code 206 = .ok (.iaload, 1) := by decide +kernel
theorem d_102_207 : decode prog_10_method_34_code 207 = .ok (.imul, 1) := by decide +kernel
theorem d_102_208 : decode prog_10_method_34_code 208 = .ok (.iconst 2, 1) := by decide +kernel
theorem d_102_209 : decode prog_10_method_34_code 209 = .ok (.aload_n 0, 1) := by decide +kernel
theorem d_102_210 : decode prog_10_method_34_code 210 = .ok (.getfield 17, 3) := by decide +kernel
theorem d_102_213 : decode prog_10_method_34_code 213 = .ok (.bipush 64, 2) := by decide +kernel
theorem d_102_215 : decode prog_10_method_34_code 215 = .ok (.iload 4, 2) := by decide +kernel
theorem d_102_217 : decode prog_10_method_34_code 217 = .ok (.imul, 1) := by decide +kernel
theorem d_102_218 : decode prog_10_method_34_code 218 = .ok (.iconst 4, 1) := by decide +kernel
theorem d_102_219 : decode prog_10_method_34_code 219 = .ok (.iload 12, 2) := by decide +kernel
theorem d_102_221 : decode prog_10_method_34_code 221 = .ok (.imul, 1) := by decide +kernel
theorem d_102_222 : decode prog_10_method_34_code 222 = .ok (.iadd, 1) := by decide +kernel
theorem d_102_223 : decode prog_10_method_34_code 223 = .ok (.iload 10, 2) := by decide +kernel
theorem d_102_225 : decode prog_10_method_34_code 225 = .ok (.iconst 4, 1) := by decide +kernel
theorem d_102_226 : decode prog_10_method_34_code 226 = .ok (.irem, 1) := by decide +kernel
theorem d_102_227 : decode prog_10_method_34_code 227 = .ok (.iadd, 1) := by decide +kernel
theorem d_102_228 : decode prog_10_method_34_code 228 = .ok (.iaload, 1) := by decide +kernel
theorem d_102_229 : decode prog_10_method_34_code 229 = .ok (.imul, 1) := by decide +kernel
theorem d_102_230 : decode prog_10_method_34_code 230 = .ok (.iadd, 1) := by decide +kernel
theorem d_102_231 : decode prog_10_method_34_code 231 = .ok (.aload_n 0, 1) := by decide +kernel
theorem d_102_232 : decode prog_10_method_34_code 232 = .ok (.getfield 68, 3) := by decide +kernel
theorem d_102_235 : decode prog_10_method_34_code 235 = .ok (.iload 7, 2) := by decide +kernel
theorem d_102_237 : decode prog_10_method_34_code 237 = .ok (.iaload, 1) := by decide +kernel
theorem d_102_238 : decode prog_10_method_34_code 238 = .ok (.bipush 60, 2) := by decide +kernel
theorem d_102_240 : decode prog_10_method_34_code 240 = .ok (.if_icmp .ne 7, 3) := by decide +kernel
theorem d_102_243 : decode prog_10_method_34_code 243 = .ok (.iconst 1, 1) := by decide +kernel
theorem d_102_244 : decode prog_10_method_34_code 244 = .ok (.goto 4, 3) := by decide +kernel
theorem d_102_247 : decode prog_10_method_34_code 247 = .ok (.iconst 0, 1) := by decide +kernel
theorem d_102_248 : decode prog_10_method_34_code 248 = .ok (.iadd, 1) := by decide +kernel
theorem d_102_249 : decode prog_10_method_34_code 249 = .ok (.ireturn, 1) := by decide +kernel
theorem d_102_250 : decode prog_10_method_34_code 250 = .ok (.iinc 6 1, 3) := by decide +kernel
theorem d_102_253 : decode prog_10_method_34_code 253 = .ok (.iinc 10 1, 3) := by decide +kernel
theorem d_102_256 : decode prog_10_method_34_code 256 = .ok (.goto (-158), 3) := by decide +kernel
theorem d_102_259 : decode prog_10_method_34_code 259 = .ok (.iinc 9 1, 3) := by decide +kernel
theorem d_102_262 : decode prog_10_method_34_code 262 = .ok (.goto (-186), 3) := by decide +kernel
theorem d_102_265 : decode prog_10_method_34_code 265 = .ok (.iload 5, 2) := by decide +kernel
theorem d_102_267 : decode prog_10_method_34_code 267 = .ok (.aload_n 0, 1) := by decide +kernel
theorem d_102_268 : decode prog_10_method_34_code 268 = .ok (.iload 7, 2) := by decide +kernel
theorem d_102_270 : decode prog_10_method_34_code 270 = .ok (.invokevirtual 123, 3) := by decide +kernel
theorem d_102_273 : decode prog_10_method_34_code 273 = .ok (.iadd, 1) := by decide +kernel
theorem d_102_274 : decode prog_10_method_34_code 274 = .ok (.istore 5, 2) := by decide +kernel
theorem d_102_276 : decode prog_10_method_34_code 276 = .ok (.iinc 7 1, 3) := by decide +kernel
theorem d_102_279 : decode prog_10_method_34_code 279 = .ok (.goto (-246), 3) := by decide +kernel
theorem d_102_282 : decode prog_10_method_34_code 282 = .ok (.iload_n 2, 1) := by decide +kernel
theorem d_102_283 : decode prog_10_method_34_code 283 = .ok (.iconst (-1), 1) := by decide +kernel
theorem d_102_284 : decode prog_10_method_34_code 284 = .ok (.if_icmp .ne 8, 3) := by decide +kernel
theorem d_102_287 : decode prog_10_method_34_code 287 = .ok (.iload 6, 2) := by decide +kernel
theorem d_102_289 : decode prog_10_method_34_code 289 = .ok (.goto 4, 3) := by decide +kernel
theorem d_102_292 : decode prog_10_method_34_code 292 = .ok (.iconst (-1), 1) := by decide +kernel
theorem d_102_293 : decode prog_10_method_34_code 293 = .ok (.ireturn, 1) := by decide +kernel
theorem d_103_0 : decode prog_10_method_35_code 0 = .ok (.aload_n 0, 1) := by decide +kernel
theorem d_103_1 : decode prog_10_method_35_code 1 = .ok (.aload_n 0, 1) := by decide +kernel
theorem d_103_2 : decode prog_10_method_35_code 2 = .ok (.iload_n 1, 1) := by decide +kernel
theorem d_103_3 : decode prog_10_method_35_code 3 = .ok (.invokevirtual 195, 3) := by decide +kernel
theorem d_103_6 : decode prog_10_method_35_code 6 = .ok (.ifCond .eq 7, 3) := by decide +kernel
theorem d_103_9 : decode prog_10_method_35_code 9 = .ok (.iconst 1, 1) := by decide +kernel
theorem d_103_10 : decode prog_10_method_35_code 10 = .ok (.goto 17, 3) := by decide +kernel
theorem d_103_13 : decode prog_10_method_35_code 13 = .ok (.iload_n 2, 1) := by decide +kernel
theorem d_103_14 : decode prog_10_method_35_code 14 = .ok (.ifCond .lt 8, 3) := by decide +kernel
theorem d_103_17 : decode prog_10_method_35_code 17 = .ok (.iload_n 2, 1) := by decide +kernel
theorem d_103_18 : decode prog_10_method_35_code 18 = .ok (.iconst 4, 1) := by decide +kernel
theorem d_103_19 : decode prog_10_method_35_code 19 = .ok (.if_icmp .le 7, 3) := by decide +kernel
theorem d_103_22 : decode prog_10_method_35_code 22 = .ok (.iconst 2, 1) := by decide +kernel
theorem d_103_23 : decode prog_10_method_35_code 23 = .ok (.goto 4, 3) := by decide +kernel
theorem d_103_26 : decode prog_10_method_35_code 26 = .ok (.iconst 0, 1) := by decide +kernel
theorem d_103_27 : decode prog_10_method_35_code 27 = .ok (.putfield 102, 3) := by decide +kernel
theorem d_103_30 : decode prog_10_method_35_code 30 = .ok (.aload_n 0, 1) := by decide +kernel
theorem d_103_31 : decode prog_10_method_35_code 31 = .ok (.getfield 102, 3) := by decide +kernel
theorem d_103_34 : decode prog_10_method_35_code 34 = .ok (.ifCond .le 7, 3) := by decide +kernel
theorem d_103_37 : decode prog_10_method_35_code 37 = .ok (.iconst 0, 1) := by decide +kernel
theorem d_103_38 : decode prog_10_method_35_code 38 = .ok (.goto 27, 3) := by decide +kernel
theorem d_103_41 : decode prog_10_method_35_code 41 = .ok (.iload_n 2, 1) := by decide +kernel
theorem d_103_42 : decode prog_10_method_35_code 42 = .ok (.iconst 4, 1) := by decide +kernel
theorem d_103_43 : decode prog_10_method_35_code 43 = .ok (.if_icmp .ne 12, 3) := by decide +kernel
theorem d_103_46 : decode prog_10_method_35_code 46 = .ok (.aload_n 0, 1) := by decide +kernel
theorem d_103_47 : decode prog_10_method_35_code 47 = .ok (.iload_n 1, 1) := by decide +kernel
theorem d_103_48 : decode prog_10_method_35_code 48 = .ok (.iconst (-1), 1) := by decide +kernel
theorem d_103_49 : decode prog_10_method_35_code 49 = .ok (.invokevirtual 198, 3) := by decide +kernel
theorem d_103_52 : decode prog_10_method_35_code 52 = .ok (.goto 13, 3) := by decide +kernel
theorem d_103_55 : decode prog_10_method_35_code 55 = .ok (.aload_n 0, 1) := by decide +kernel
theorem d_103_56 : decode prog_10_method_35_code 56 = .ok (.getfield 44, 3) := by decide +kernel
theorem d_103_59 : decode prog_10_method_35_code 59 = .ok (.iconst 4, 1) := by decide +kernel
theorem d_103_60 : decode prog_10_method_35_code 60 = .ok (.iload_n 1, 1) := by decide +kernel
theorem d_103_61 : decode prog_10_method_35_code 61 = .ok (.imul, 1) := by decide +kernel
theorem d_103_62 : decode prog_10_method_35_code 62 = .ok (.iload_n 2, 1) := by decide +kernel
theorem d_103_63 : decode prog_10_method_35_code 63 = .ok (.iadd, 1) := by decide +kernel
theorem d_103_64 : decode prog_10_method_35_code 64 = .ok (.iaload, 1) := by decide +kernel
theorem d_103_65 : decode prog_10_method_35_code 65 = .ok (.ireturn, 1) := by decide +kernel
theorem d_104_0 : decode prog_10_method_36_code 0 = .ok (.aload_n 0, 1) := by decide +kernel
theorem d_104_1 : decode prog_10_method_36_code 1 = .ok (.aload_n 0, 1) := by decide +kernel
theorem d_104_2 : decode prog_10_method_36_code 2 = .ok (.iload_n 1, 1) := by decide +kernel
theorem d_104_3 : decode prog_10_method_36_code 3 = .ok (.invokevirtual 201, 3) := by decide +kernel
theorem d_104_6 : decode prog_10_method_36_code 6 = .ok (.ifCond .eq 7, 3) := by decide +kernel
theorem d_104_9 : decode prog_10_method_36_code 9 = .ok (.iconst 1, 1) := by decide +kernel
theorem d_104_10 : decode prog_10_method_36_code 10 = .ok (.goto 4, 3) := by decide +kernel
theorem d_104_13 : decode prog_10_method_36_code 13 = .ok (.iconst 0, 1) := by decide +kernel
theorem d_104_14 : decode prog_10_method_36_code 14 = .ok (.putfield 102, 3) := by decide +kernel
theorem d_104_17 : decode prog_10_method_36_code 17 = .ok (.aload_n 0, 1) := by decide +kernel
theorem d_104_18 : decode prog_10_method_36_code 18 = .ok (.getfield 102, 3) := by decide +kernel
theorem d_104_21 : decode prog_10_method_36_code 21 = .ok (.ifCond .le 7, 3) := by decide +kernel
theorem d_104_24 : decode prog_10_method_36_code 24 = .ok (.iconst 0, 1) := by decide +kernel
theorem d_104_25 : decode prog_10_method_36_code 25 = .ok (.goto 31, 3) := by decide +kernel
theorem d_104_28 : decode prog_10_method_36_code 28 = .ok (.iload_n 2, 1) := by decide +kernel
theorem d_104_29 : decode prog_10_method_36_code 29 = .ok (.ifCond .lt 13, 3) := by decide +kernel
theorem d_104_32 : decode prog_10_method_36_code 32 = .ok (.iload_n 2, 1) := by decide +kernel
theorem d_104_33 : decode prog_10_method_36_code 33 = .ok (.aload_n 0, 1) := by decide +kernel
theorem d_104_34 : decode prog_10_method_36_code 34 = .ok (.getfield 50, 3) := by decide +kernel
theorem d_104_37 : decode prog_10_method_36_code 37 = .ok (.iload_n 1, 1) := by decide +kernel
theorem d_104_38 : decode prog_10_method_36_code 38 = .ok (.iaload, 1) := by decide +kernel
theorem d_104_39 : decode prog_10_method_36_code 39 = .ok (.if_icmp .lt 7, 3) := by decide +kernel
theorem d_104_42 : decode prog_10_method_36_code 42 = .ok (.iconst (-1), 1) := by decide +kernel
theorem d_104_43 : decode prog_10_method_36_code 43 = .ok (.goto 13, 3) := by decide +kernel
theorem d_104_46 : decode prog_10_method_36_code 46 = .ok (.aload_n 0, 1) := by decide +kernel
theorem d_104_47 : decode prog_10_method_36_code 47 = .ok (.getfield 47, 3) := by decide +kernel
theorem d_104_50 : decode prog_10_method_36_code 50 = .ok (.iconst 4, 1) := by decide +kernel
theorem d_104_51 : decode prog_10_method_36_code 51 = .ok (.iload_n 1, 1) := by decide +kernel
theorem d_104_52 : decode prog_10_method_36_code 52 = .ok (.imul, 1) := by decide +kernel
theorem d_104_53 : decode prog_10_method_36_code 53 = .ok (.iload_n 2, 1) := by decide +kernel
theorem d_104_54 : decode prog_10_method_36_code 54 = .ok (.iadd, 1) := by decide +kernel
theorem d_104_55 : decode prog_10_method_36_code 55 = .ok (.iaload, 1) := by decide +kernel
theorem d_104_56 : decode prog_10_method_36_code 56 = .ok (.ireturn, 1) := by decide +kernel
theorem d_105_0 : decode prog_10_method_37_code 0 = .ok (.iconst 0, 1) := by decide +kernel
theorem d_105_1 : decode prog_10_method_37_code 1 = .ok (.istore_n 2, 1) := by decide +kernel
theorem d_105_2 : decode prog_10_method_37_code 2 = .ok (.iload_n 2, 1) := by decide +kernel
theorem d_105_3 : decode prog_10_method_37_code 3 = .ok (.aload_n 0, 1) := by decide +kernel
theorem d_105_4 : decode prog_10_method_37_code 4 = .ok (.getfield 26, 3) := by decide +kernel
theorem d_105_7 : decode prog_10_method_37_code 7 = .ok (.aload_n 0, 1) := by decide +kernel
theorem d_105_8 : decode prog_10_method_37_code 8 = .ok (.getfield 120, 3) := by decide +kernel
theorem d_105_11 : decode prog_10_method_37_code 11 = .ok (.iaload, 1) := by decide +kernel
theorem d_105_12 : decode prog_10_method_37_code 12 = .ok (.if_icmp .ge 50, 3) := by decide +kernel
theorem d_105_15 : decode prog_10_method_37_code 15 = .ok (.iconst 0, 1) := by decide +kernel
theorem d_105_16 : decode prog_10_method_37_code 16 = .ok (.istore_n 3, 1) := by decide +kernel
theorem d_105_17 : decode prog_10_method_37_code 17 = .ok (.iload_n 3, 1) := by decide +kernel
theorem d_105_18 : decode prog_10_method_37_code 18 = .ok (.aload_n 0, 1) := by decide +kernel
theorem d_105_19 : decode prog_10_method_37_code 19 = .ok (.iload_n 2, 1) := by decide +kernel
theorem d_105_20 : decode prog_10_method_37_code 20 = .ok (.invokevirtual 127, 3) := by decide +kernel
theorem d_105_23 : decode prog_10_method_37_code 23 = .ok (.if_icmp .ge 33, 3) := by decide +kernel
theorem d_105_26 : decode prog_10_method_37_code 26 = .ok (.aload_n 0, 1) := by decide +kernel
theorem d_105_27 : decode prog_10_method_37_code 27 = .ok (.getfield 17, 3) := by decide +kernel
theorem d_105_30 : decode prog_10_method_37_code 30 = .ok (.bipush 64, 2) := by decide +kernel
theorem d_105_32 : decode prog_10_method_37_code 32 = .ok (.aload_n 0, 1) := by decide +kernel
theorem d_105_33 : decode prog_10_method_37_code 33 = .ok (.getfield 120, 3) := by decide +kernel
theorem d_105_36 : decode prog_10_method_37_code 36 = .ok (.imul, 1) := by decide +kernel
theorem d_105_37 : decode prog_10_method_37_code 37 = .ok (.iconst 4, 1) := by decide +kernel
theorem d_105_38 : decode prog_10_method_37_code 38 = .ok (.iload_n 2, 1) := by decide +kernel
theorem d_105_39 : decode prog_10_method_37_code 39 = .ok (.imul, 1) := by decide +kernel
theorem d_105_40 : decode prog_10_method_37_code 40 = .ok (.iadd, 1) := by decide +kernel
theorem d_105_41 : decode prog_10_method_37_code 41 = .ok (.iload_n 3, 1) := by decide +kernel
theorem d_105_42 : decode prog_10_method_37_code 42 = .ok (.iadd, 1) := by decide +kernel
theorem d_105_43 : decode prog_10_method_37_code 43 = .ok (.iaload, 1) := by decide +kernel
theorem d_105_44 : decode prog_10_method_37_code 44 = .ok (.iload_n 1, 1) := by decide +kernel
theorem d_105_45 : decode prog_10_method_37_code 45 = .ok (.if_icmp .ne 5, 3) := by decide +kernel
theorem d_105_48 : decode prog_10_method_37_code 48 = .ok (.iload_n 2, 1) := by decide +kernel
theorem d_105_49 : decode prog_10_method_37_code 49 = .ok (.ireturn, 1) := by decide +kernel
theorem d_105_50 : decode prog_10_method_37_code 50 = .ok (.iinc 3 1, 3) := by decide +kernel
theorem d_105_53 : decode prog_10_method_37_code 53 = .ok (.goto (-36), 3) := by decide +kernel
theorem d_105_56 : decode prog_10_method_37_code 56 = .ok (.iinc 2 1, 3) := by decide +kernel
theorem d_105_59 : decode prog_10_method_37_code 59 = .ok (.goto (-57), 3) := by decide +kernel
theorem d_105_62 : decode prog_10_method_37_code 62 = .ok (.aload_n 0, 1) := by decide +kernel
theorem d_105_63 : decode prog_10_method_37_code 63 = .ok (.getfield 65, 3) := by decide +kernel
theorem d_105_66 : decode prog_10_method_37_code 66 = .ok (.iload_n 1, 1) := by decide +kernel
theorem d_105_67 : decode prog_10_method_37_code 67 = .ok (.iaload, 1) := by decide +kernel
theorem d_105_68 : decode prog_10_method_37_code 68 = .ok (.ifCond .le 8, 3) := by decide +kernel
theorem d_105_71 : decode prog_10_method_37_code 71 = .ok (.bipush (-2), 2) := by decide +kernel
theorem d_105_73 : decode prog_10_method_37_code 73 = .ok (.goto 4, 3) := by decide +kernel
theorem d_105_76 : decode prog_10_method_37_code 76 = .ok (.iconst (-1), 1) := by decide +kernel
theorem d_105_77 : decode prog_10_method_37_code 77 = .ok (.ireturn, 1) := by decide +kernel
theorem d_106_0 : decode prog_10_method_38_code 0 = .ok (.aload_n 0, 1) := by decide +kernel
theorem d_106_1 : decode prog_10_method_38_code 1 = .ok (.aload_n 0, 1) := by decide +kernel
theorem d_106_2 : decode prog_10_method_38_code 2 = .ok (.iload_n 1, 1) := by decide +kernel
theorem d_106_3 : decode prog_10_method_38_code 3 = .ok (.invokevirtual 201, 3) := by decide +kernel
theorem d_106_6 : decode prog_10_method_38_code 6 = .ok (.ifCond .eq 7, 3) := by decide +kernel
theorem d_106_9 : decode prog_10_method_38_code 9 = .ok (.iconst 1, 1) := by decide +kernel
theorem d_106_10 : decode prog_10_method_38_code 10 = .ok (.goto 17, 3) := by decide +kernel
theorem d_106_13 : decode prog_10_method_38_code 13 = .ok (.iload_n 2, 1) := by decide +kernel
theorem d_106_14 : decode prog_10_method_38_code 14 = .ok (.ifCond .lt 8, 3) := by decide +kernel
theorem d_106_17 : decode prog_10_method_38_code 17 = .ok (.iload_n 2, 1) := by decide +kernel
theorem d_106_18 : decode prog_10_method_38_code 18 = .ok (.iconst 4, 1) := by decide +kernel
theorem d_106_19 : decode prog_10_method_38_code 19 = .ok (.if_icmp .le 7, 3) := by decide +kernel
theorem d_106_22 : decode prog_10_method_38_code 22 = .ok (.iconst 2, 1) := by decide +kernel
theorem d_106_23 : decode prog_10_method_38_code 23 = .ok (.goto 4, 3) := by decide +kernel
theorem d_106_26 : decode prog_10_method_38_code 26 = .ok (.iconst 0, 1) := by decide +kernel
theorem d_106_27 : decode prog_10_method_38_code 27 = .ok (.putfield 102, 3) := by decide +kernel
theorem d_106_30 : decode prog_10_method_38_code 30 = .ok (.aload_n 0, 1) := by decide +kernel
theorem d_106_31 : decode prog_10_method_38_code 31 = .ok (.getfield 102, 3) := by decide +kernel
theorem d_106_34 : decode prog_10_method_38_code 34 = .ok (.ifCond .le 5, 3) := by decide +kernel
theorem d_106_37 : decode prog_10_method_38_code 37 = .ok (.iconst 0, 1) := by decide +kernel
theorem d_106_38 : decode prog_10_method_38_code 38 = .ok (.ireturn, 1) := by decide +kernel
theorem d_106_39 : decode prog_10_method_38_code 39 = .ok (.iload_n 2, 1) := by decide +kernel
theorem d_106_40 : decode prog_10_method_38_code 40 = .ok (.ifCond .ne 12, 3) := by decide +kernel
theorem d_106_43 : decode prog_10_method_38_code 43 = .ok (.aload_n 0, 1) := by decide +kernel
theorem d_106_44 : decode prog_10_method_38_code 44 = .ok (.getfield 53, 3) := by decide +kernel
theorem d_106_47 : decode prog_10_method_38_code 47 = .ok (.iload_n 1, 1) := by decide +kernel
theorem d_106_48 : decode prog_10_method_38_code 48 = .ok (.iaload, 1) := by decide +kernel
theorem d_106_49 : decode prog_10_method_38_code 49 = .ok (.goto 50, 3) := by decide +kernel
theorem d_106_52 : decode prog_10_method_38_code 52 = .ok (.iload_n 2, 1) := by decide +kernel
theorem d_106_53 : decode prog_10_method_38_code 53 = .ok (.iconst 1, 1) := by decide +kernel
theorem d_106_54 : decode prog_10_method_38_code 54 = .ok (.if_icmp .ne 12, 3) := by decide +kernel
theorem d_106_57 : decode prog_10_method_38_code 57 = .ok (.aload_n 0, 1) := by decide +kernel
theorem d_106_58 : decode prog_10_method_38_code 58 = .ok (.getfield 56, 3) := by decide +kernel
theorem d_106_61 : decode prog_10_method_38_code 61 = .ok (.iload_n 1, 1) := by decide +kernel
theorem d_106_62 : decode prog_10_method_38_code 62 = .ok (.iaload, 1) := by decide +kernel
theorem d_106_63 : decode prog_10_method_38_code 63 = .ok (.goto 36, 3) := by decide +kernel
theorem d_106_66 : decode prog_10_method_38_code 66 = .ok (.iload_n 2, 1) := by decide +kernel
theorem d_106_67 : decode prog_10_method_38_code 67 = .ok (.iconst 2, 1) := by decide +kernel
theorem d_106_68 : decode prog_10_method_38_code 68 = .ok (.if_icmp .ne 12, 3) := by decide +kernel
theorem d_106_71 : decode prog_10_method_38_code 71 = .ok (.aload_n 0, 1) := by decide +kernel
theorem d_106_72 : decode prog_10_method_38_code 72 = .ok (.getfield 59, 3) := by decide +kernel
theorem d_106_75 : decode prog_10_method_38_code 75 = .ok (.iload_n 1, 1) := by decide +kernel
theorem d_106_76 : decode prog_10_method_38_code 76 = .ok (.iaload, 1) := by decide +kernel
theorem d_106_77 : decode prog_10_method_38_code 77 = .ok (.goto 22, 3) := by decide +kernel
theorem d_106_80 : decode prog_10_method_38_code 80 = .ok (.iload_n 2, 1) := by decide +kernel
theorem d_106_81 : decode prog_10_method_38_code 81 = .ok (.iconst 3, 1) := by decide +kernel
theorem d_106_82 : decode prog_10_method_38_code 82 = .ok (.if_icmp .ne 12, 3) := by decide +kernel
theorem d_106_85 : decode prog_10_method_38_code 85 = .ok (.aload_n 0, 1) := by decide +kernel
theorem d_106_86 : decode prog_10_method_38_code 86 = .ok (.getfield 62, 3) := by decide +kernel
theorem d_106_89 : decode prog_10_method_38_code 89 = .ok (.iload_n 1, 1) := by decide +kernel
theorem d_106_90 : decode prog_10_method_38_code 90 = .ok (.iaload, 1) := by decide +kernel
theorem d_106_91 : decode prog_10_method_38_code 91 = .ok (.goto 8, 3) := by decide +kernel
theorem d_106_94 : decode prog_10_method_38_code 94 = .ok (.aload_n 0, 1) := by decide +kernel
theorem d_106_95 : decode prog_10_method_38_code 95 = .ok (.iload_n 1, 1) := by decide +kernel
theorem d_106_96 : decode prog_10_method_38_code 96 = .ok (.invokevirtual 204, 3) := by decide +kernel
theorem d_106_99 : decode prog_10_method_38_code 99 = .ok (.ireturn, 1) := by decide +kernel
theorem d_107_0 : decode prog_10_method_39_code 0 = .ok (.aload_n 0, 1) := by decide +kernel
theorem d_107_1 : decode prog_10_method_39_code 1 = .ok (.aload_n 0, 1) := by decide +kernel
theorem d_107_2 : decode prog_10_method_39_code 2 = .ok (.iload_n 1, 1) := by decide +kernel
theorem d_107_3 : decode prog_10_method_39_code 3 = .ok (.invokevirtual 195, 3) := by decide +kernel
theorem d_107_6 : decode prog_10_method_39_code 6 = .ok (.ifCond .eq 7, 3) := by decide +kernel
theorem d_107_9 : decode prog_10_method_39_code 9 = .ok (.iconst 1, 1) := by decide +kernel
theorem d_107_10 : decode prog_10_method_39_code 10 = .ok (.goto 4, 3) := by decide +kernel
theorem d_107_13 : decode prog_10_method_39_code 13 = .ok (.iconst 0, 1) := by decide +kernel
theorem d_107_14 : decode prog_10_method_39_code 14 = .ok (.putfield 102, 3) := by decide +kernel
theorem d_107_17 : decode prog_10_method_39_code 17 = .ok (.aload_n 0, 1) := by decide +kernel
theorem d_107_18 : decode prog_10_method_39_code 18 = .ok (.getfield 102, 3) := by decide +kernel
theorem d_107_21 : decode prog_10_method_39_code 21 = .ok (.ifCond .le 7, 3) := by decide +kernel
theorem d_107_24 : decode prog_10_method_39_code 24 = .ok (.iconst 0, 1) := by decide +kernel
theorem d_107_25 : decode prog_10_method_39_code 25 = .ok (.goto 17, 3) := by decide +kernel
theorem d_107_28 : decode prog_10_method_39_code 28 = .ok (.iload_n 2, 1) := by decide +kernel
theorem d_107_29 : decode prog_10_method_39_code 29 = .ok (.ifCond .ge 7, 3) := by decide +kernel
theorem d_107_32 : decode prog_10_method_39_code 32 = .ok (.iconst (-1), 1) := by decide +kernel
theorem d_107_33 : decode prog_10_method_39_code 33 = .ok (.goto 9, 3) := by decide +kernel
theorem d_107_36 : decode prog_10_method_39_code 36 = .ok (.aload_n 0, 1) := by decide +kernel
theorem d_107_37 : decode prog_10_method_39_code 37 = .ok (.iload_n 1, 1) := by decide +kernel
theorem d_107_38 : decode prog_10_method_39_code 38 = .ok (.iload_n 2, 1) := by decide +kernel
theorem d_107_39 : decode prog_10_method_39_code 39 = .ok (.invokevirtual 198, 3) := by decide +kernel
theorem d_107_42 : decode prog_10_method_39_code 42 = .ok (.ireturn, 1) := by decide +kernel
theorem d_108_0 : decode prog_10_method_40_code 0 = .ok (.aload_n 0, 1) := by decide +kernel
theorem d_108_1 : decode prog_10_method_40_code 1 = .ok (.iconst 0, 1) := by decide +kernel
theorem d_108_2 : decode prog_10_method_40_code 2 = .ok (.putfield 102, 3) := by decide +kernel
theorem d_108_5 : decode prog_10_method_40_code 5 = .ok (.aload_n 0, 1) := by decide +kernel
theorem d_108_6 : decode prog_10_method_40_code 6 = .ok (.getfield 171, 3) := by decide +kernel
theorem d_108_9 : decode prog_10_method_40_code 9 = .ok (.ifCond .eq 24, 3) := by decide +kernel
theorem d_108_12 : decode prog_10_method_40_code 12 = .ok (.iload_n 1, 1) := by decide +kernel
theorem d_108_13 : decode prog_10_method_40_code 13 = .ok (.ifCond .lt 20, 3) := by decide +kernel
theorem d_108_16 : decode prog_10_method_40_code 16 = .ok (.iload_n 1, 1) := by decide +kernel
theorem d_108_17 : decode prog_10_method_40_code 17 = .ok (.aload_n 0, 1) := by decide +kernel
theorem d_108_18 : decode prog_10_method_40_code 18 = .ok (.getfield 26, 3) := by decide +kernel
theorem d_108_21 : decode prog_10_method_40_code 21 = .ok (.aload_n 0, 1) := by decide +kernel
theorem d_108_22 : decode prog_10_method_40_code 22 = .ok (.getfield 120, 3) := by decide +kernel
theorem d_108_25 : decode prog_10_method_40_code 25 = .ok (.iaload, 1) := by decide +kernel
theorem d_108_26 : decode prog_10_method_40_code 26 = .ok (.if_icmp .ge 7, 3) := by decide +kernel
theorem d_108_29 : decode prog_10_method_40_code 29 = .ok (.iload_n 2, 1) := by decide +kernel
theorem d_108_30 : decode prog_10_method_40_code 30 = .ok (.ifCond .ge 7, 3) := by decide +kernel
theorem d_108_33 : decode prog_10_method_40_code 33 = .ok (.iconst 1, 1) := by decide +kernel
theorem d_108_34 : decode prog_10_method_40_code 34 = .ok (.goto 4, 3) := by decide +kernel
theorem d_108_37 : decode prog_10_method_40_code 37 = .ok (.iconst 0, 1) := by decide +kernel
theorem d_108_38 : decode prog_10_method_40_code 38 = .ok (.istore_n 3, 1) := by decide +kernel
theorem d_108_39 : decode prog_10_method_40_code 39 = .ok (.iload_n 3, 1) := by decide +kernel
theorem d_108_40 : decode prog_10_method_40_code 40 = .ok (.ifCond .ne 12, 3) := by decide +kernel
theorem d_108_43 : decode prog_10_method_40_code 43 = .ok (.iload_n 2, 1) := by decide +kernel
theorem d_108_44 : decode prog_10_method_40_code 44 = .ok (.aload_n 0, 1) := by decide +kernel
theorem d_108_45 : decode prog_10_method_40_code 45 = .ok (.iload_n 1, 1) := by decide +kernel
theorem d_108_46 : decode prog_10_method_40_code 46 = .ok (.invokevirtual 127, 3) := by decide +kernel
theorem d_108_49 : decode prog_10_method_40_code 49 = .ok (.if_icmp .lt 7, 3) := by decide +kernel
theorem d_108_52 : decode prog_10_method_40_code 52 = .ok (.iconst (-1), 1) := by decide +kernel
theorem d_108_53 : decode prog_10_method_40_code 53 = .ok (.goto 21, 3) := by decide +kernel
theorem d_108_56 : decode prog_10_method_40_code 56 = .ok (.aload_n 0, 1) := by decide +kernel
theorem d_108_57 : decode prog_10_method_40_code 57 = .ok (.getfield 17, 3) := by decide +kernel
theorem d_108_60 : decode prog_10_method_40_code 60 = .ok (.bipush 64, 2) := by decide +kernel
theorem d_108_62 : decode prog_10_method_40_code 62 = .ok (.aload_n 0, 1) := by decide +kernel
theorem d_108_63 : decode prog_10_method_40_code 63 = .ok (.getfield 120, 3) := by decide +kernel
theorem d_108_66 : decode prog_10_method_40_code 66 = .ok (.imul, 1) := by decide +kernel
theorem d_108_67 : decode prog_10_method_40_code 67 = .ok (.iconst 4, 1) := by decide +kernel
theorem d_108_68 : decode prog_10_method_40_code 68 = .ok (.iload_n 1, 1) := by decide +kernel
theorem d_108_69 : decode prog_10_method_40_code 69 = .ok (.imul, 1) := by decide +kernel
theorem d_108_70 : decode prog_10_method_40_code 70 = .ok (.iadd, 1) := by decide +kernel
theorem d_108_71 : decode prog_10_method_40_code 71 = .ok (.iload_n 2, 1) := by decide +kernel
theorem d_108_72 : decode prog_10_method_40_code 72 = .ok (.iadd, 1) := by decide +kernel
theorem d_108_73 : decode prog_10_method_40_code 73 = .ok (.iaload, 1) := by decide +kernel
theorem d_108_74 : decode prog_10_method_40_code 74 = .ok (.ireturn, 1) := by decide +kernel
theorem d_109_0 : decode prog_10_method_41_code 0 = .ok (.aload_n 0, 1) := by decide +kernel
theorem d_109_1 : decode prog_10_method_41_code 1 = .ok (.iconst 0, 1) := by decide +kernel
theorem d_109_2 : decode prog_10_method_41_code 2 = .ok (.putfield 102, 3) := by decide +kernel
theorem d_109_5 : decode prog_10_method_41_code 5 = .ok (.aload_n 0, 1) := by decide +kernel
theorem d_109_6 : decode prog_10_method_41_code 6 = .ok (.getfield 171, 3) := by decide +kernel
theorem d_109_9 : decode prog_10_method_41_code 9 = .ok (.ifCond .eq 20, 3) := by decide +kernel
theorem d_109_12 : decode prog_10_method_41_code 12 = .ok (.iload_n 1, 1) := by decide +kernel
theorem d_109_13 : decode prog_10_method_41_code 13 = .ok (.ifCond .lt 16, 3) := by decide +kernel
theorem d_109_16 : decode prog_10_method_41_code 16 = .ok (.iload_n 1, 1) := by decide +kernel
theorem d_109_17 : decode prog_10_method_41_code 17 = .ok (.aload_n 0, 1) := by decide +kernel
theorem d_109_18 : decode prog_10_method_41_code 18 = .ok (.getfield 26, 3) := by decide +kernel
theorem d_109_21 : decode prog_10_method_41_code 21 = .ok (.aload_n 0, 1) := by decide +kernel
theorem d_109_22 : decode prog_10_method_41_code 22 = .ok (.getfield 120, 3) := by decide +kernel
theorem d_109_25 : decode prog_10_method_41_code 25 = .ok (.iaload, 1) := by decide +kernel
theorem d_109_26 : decode prog_10_method_41_code 26 = .ok (.if_icmp .lt 7, 3) := by decide +kernel
theorem d_109_29 : decode prog_10_method_41_code 29 = .ok (.iconst (-1), 1) := by decide +kernel
theorem d_109_30 : decode prog_10_method_41_code 30 = .ok (.goto 17, 3) := by decide +kernel
theorem d_109_33 : decode prog_10_method_41_code 33 = .ok (.aload_n 0, 1) := by decide +kernel
theorem d_109_34 : decode prog_10_method_41_code 34 = .ok (.getfield 23, 3) := by decide +kernel
theorem d_109_37 : decode prog_10_method_41_code 37 = .ok (.bipush 16, 2) := by decide +kernel
theorem d_109_39 : decode prog_10_method_41_code 39 = .ok (.aload_n 0, 1) := by decide +kernel
theorem d_109_40 : decode prog_10_method_41_code 40 = .ok (.getfield 120, 3) := by decide +kernel
theorem d_109_43 : decode prog_10_method_41_code 43 = .ok (.imul, 1) := by decide +kernel
theorem d_109_44 : decode prog_10_method_41_code 44 = .ok (.iload_n 1, 1) := by decide +kernel
theorem d_109_45 : decode prog_10_method_41_code 45 = .ok (.iadd, 1) := by decide +kernel
theorem d_109_46 : decode prog_10_method_41_code 46 = .ok (.iaload, 1) := by decide +kernel
theorem d_109_47 : decode prog_10_method_41_code 47 = .ok (.ireturn, 1) := by decide +kernel
theorem d_110_0 : decode prog_10_method_42_code 0 = .ok (.aload_n 0, 1) := by decide +kernel
theorem d_110_1 : decode prog_10_method_42_code 1 = .ok (.iconst 0, 1) := by decide +kernel
theorem d_110_2 : decode prog_10_method_42_code 2 = .ok (.putfield 102, 3) := by decide +kernel
theorem d_110_5 : decode prog_10_method_42_code 5 = .ok (.aload_n 0, 1) := by decide +kernel
theorem d_110_6 : decode prog_10_method_42_code 6 = .ok (.getfield 171, 3) := by decide +kernel
theorem d_110_9 : decode prog_10_method_42_code 9 = .ok (.ifCond .eq 12, 3) := by decide +kernel
theorem d_110_12 : decode prog_10_method_42_code 12 = .ok (.iload_n 1, 1) := by decide +kernel
theorem d_110_13 : decode prog_10_method_42_code 13 = .ok (.ifCond .lt 8, 3) := by decide +kernel
theorem d_110_16 : decode prog_10_method_42_code 16 = .ok (.iload_n 1, 1) := by decide +kernel
theorem d_110_17 : decode prog_10_method_42_code 17 = .ok (.iconst 2, 1) := by decide +kernel
theorem d_110_18 : decode prog_10_method_42_code 18 = .ok (.if_icmp .le 7, 3) := by decide +kernel
theorem d_110_21 : decode prog_10_method_42_code 21 = .ok (.iconst (-1), 1) := by decide +kernel
theorem d_110_22 : decode prog_10_method_42_code 22 = .ok (.goto 16, 3) := by decide +kernel
theorem d_110_25 : decode prog_10_method_42_code 25 = .ok (.aload_n 0, 1) := by decide +kernel
theorem d_110_26 : decode prog_10_method_42_code 26 = .ok (.getfield 35, 3) := by decide +kernel
theorem d_110_29 : decode prog_10_method_42_code 29 = .ok (.iconst 3, 1) := by decide +kernel
theorem d_110_30 : decode prog_10_method_42_code 30 = .ok (.aload_n 0, 1) := by decide +kernel
theorem d_110_31 : decode prog_10_method_42_code 31 = .ok (.getfield 120, 3) := by decide +kernel
theorem d_110_34 : decode prog_10_method_42_code 34 = .ok (.imul, 1) := by decide +kernel
theorem d_110_35 : decode prog_10_method_42_code 35 = .ok (.iload_n 1, 1) := by decide +kernel
theorem d_110_36 : decode prog_10_method_42_code 36 = .ok (.iadd, 1) := by decide +kernel
theorem d_110_37 : decode prog_10_method_42_code 37 = .ok (.iaload, 1) := by decide +kernel
theorem d_110_38 : decode prog_10_method_42_code 38 = .ok (.ireturn, 1) := by decide +kernel
