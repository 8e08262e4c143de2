theorem dJ6_bitCount_0f7a4_39 : decode cJ6_bitCount_0f7a4 39 = .ok (.iadd, 1) := by decide +kernel
theorem dJ6_bitCount_0f7a4_40 : decode cJ6_bitCount_0f7a4 40 = .ok (.istore_n 0, 1) := by decide +kernel
theorem dJ6_bitCount_0f7a4_41 : decode cJ6_bitCount_0f7a4 41 = .ok (.iload_n 0, 1) := by decide +kernel
theorem dJ6_bitCount_0f7a4_42 : decode cJ6_bitCount_0f7a4 42 = .ok (.iload_n 0, 1) := by decide +kernel
theorem dJ6_bitCount_0f7a4_43 : decode cJ6_bitCount_0f7a4 43 = .ok (.bipush 16, 2) := by decide +kernel
theorem dJ6_bitCount_0f7a4_45 : decode cJ6_bitCount_0f7a4 45 = .ok (.iushr, 1) := by decide +kernel
theorem dJ6_bitCount_0f7a4_46 : decode cJ6_bitCount_0f7a4 46 = .ok (.iadd, 1) := by decide +kernel
theorem dJ6_bitCount_0f7a4_47 : decode cJ6_bitCount_0f7a4 47 = .ok (.istore_n 0, 1) := by decide +kernel
theorem dJ6_bitCount_0f7a4_48 : decode cJ6_bitCount_0f7a4 48 = .ok (.iload_n 0, 1) := by decide +kernel
theorem dJ6_bitCount_0f7a4_49 : decode cJ6_bitCount_0f7a4 49 = .ok (.bipush 63, 2) := by decide +kernel
theorem dJ6_bitCount_0f7a4_51 : decode cJ6_bitCount_0f7a4 51 = .ok (.iand, 1) := by decide +kernel
theorem dJ6_bitCount_0f7a4_52 : decode cJ6_bitCount_0f7a4 52 = .ok (.ireturn, 1) := by decide +kernel
theorem dJ13_bitCount_95d88_0 : decode cJ13_bitCount_95d88 0 = .ok (.lload_n 0, 1) := by decide +kernel
theorem dJ13_bitCount_95d88_1 : decode cJ13_bitCount_95d88 1 = .ok (.lload_n 0, 1) := by decide +kernel
theorem dJ13_bitCount_95d88_2 : decode cJ13_bitCount_95d88 2 = .ok (.iconst 1, 1) := by decide +kernel
theorem dJ13_bitCount_95d88_3 : decode cJ13_bitCount_95d88 3 = .ok (.lushr, 1) := by decide +kernel
theorem dJ13_bitCount_95d88_4 : decode cJ13_bitCount_95d88 4 = .ok (.ldc2_w 314, 3) := by decide +kernel
theorem dJ13_bitCount_95d88_7 : decode cJ13_bitCount_95d88 7 = .ok (.land, 1) := by decide +kernel
theorem dJ13_bitCount_95d88_8 : decode cJ13_bitCount_95d88 8 = .ok (.lsub, 1) := by decide +kernel
theorem dJ13_bitCount_95d88_9 : decode cJ13_bitCount_95d88 9 = .ok (.lstore_n 0, 1) := by decide +kernel
theorem dJ13_bitCount_95d88_10 : decode cJ13_bitCount_95d88 10 = .ok (.lload_n 0, 1) := by decide +kernel
theorem dJ13_bitCount_95d88_11 : decode cJ13_bitCount_95d88 11 = .ok (.ldc2_w 316, 3) := by decide +kernel
theorem dJ13_bitCount_95d88_14 : decode cJ13_bitCount_95d88 14 = .ok (.land, 1) := by decide +kernel
theorem dJ13_bitCount_95d88_15 : decode cJ13_bitCount_95d88 15 = .ok (.lload_n 0, 1) := by decide +kernel
theorem dJ13_bitCount_95d88_16 : decode cJ13_bitCount_95d88 16 = .ok (.iconst 2, 1) := by decide +kernel
theorem dJ13_bitCount_95d88_17 : decode cJ13_bitCount_95d88 17 = .ok (.lushr, 1) := by decide +kernel
theorem dJ13_bitCount_95d88_18 : decode cJ13_bitCount_95d88 18 = .ok (.ldc2_w 316, 3) := by decide +kernel
theorem dJ13_bitCount_95d88_21 : decode cJ13_bitCount_95d88 21 = .ok (.land, 1) := by decide +kernel
theorem dJ13_bitCount_95d88_22 : decode cJ13_bitCount_95d88 22 = .ok (.ladd, 1) := by decide +kernel
theorem dJ13_bitCount_95d88_23 : decode cJ13_bitCount_95d88 23 = .ok (.lstore_n 0, 1) := by decide +kernel
theorem dJ13_bitCount_95d88_24 : decode cJ13_bitCount_95d88 24 = .ok (.lload_n 0, 1) := by decide +kernel
theorem dJ13_bitCount_95d88_25 : decode cJ13_bitCount_95d88 25 = .ok (.lload_n 0, 1) := by decide +kernel
theorem dJ13_bitCount_95d88_26 : decode cJ13_bitCount_95d88 26 = .ok (.iconst 4, 1) := by decide +kernel
theorem dJ13_bitCount_95d88_27 : decode cJ13_bitCount_95d88 27 = .ok (.lushr, 1) := by decide +kernel
theorem dJ13_bitCount_95d88_28 : decode cJ13_bitCount_95d88 28 = .ok (.ladd, 1) := by decide +kernel
theorem dJ13_bitCount_95d88_29 : decode cJ13_bitCount_95d88 29 = .ok (.ldc2_w 318, 3) := by decide +kernel
theorem dJ13_bitCount_95d88_32 : decode cJ13_bitCount_95d88 32 = .ok (.land, 1) := by decide +kernel
theorem dJ13_bitCount_95d88_33 : decode cJ13_bitCount_95d88 33 = .ok (.lstore_n 0, 1) := by decide +kernel
theorem dJ13_bitCount_95d88_34 : decode cJ13_bitCount_95d88 34 = .ok (.lload_n 0, 1) := by decide +kernel
theorem dJ13_bitCount_95d88_35 : decode cJ13_bitCount_95d88 35 = .ok (.lload_n 0, 1) := by decide +kernel
theorem dJ13_bitCount_95d88_36 : decode cJ13_bitCount_95d88 36 = .ok (.bipush 8, 2) := by decide +kernel
theorem dJ13_bitCount_95d88_38 : decode cJ13_bitCount_95d88 38 = .ok (.lushr, 1) := by decide +kernel
theorem dJ13_bitCount_95d88_39 : decode cJ13_bitCount_95d88 39 = .ok (.ladd, 1) := by decide +kernel
theorem dJ13_bitCount_95d88_40 : decode cJ13_bitCount_95d88 40 = .ok (.lstore_n 0, 1) := by decide +kernel
theorem dJ13_bitCount_95d88_41 : decode cJ13_bitCount_95d88 41 = .ok (.lload_n 0, 1) := by decide +kernel
theorem dJ13_bitCount_95d88_42 : decode cJ13_bitCount_95d88 42 = .ok (.lload_n 0, 1) := by decide +kernel
theorem dJ13_bitCount_95d88_43 : decode cJ13_bitCount_95d88 43 = .ok (.bipush 16, 2) := by decide +kernel
theorem dJ13_bitCount_95d88_45 : decode cJ13_bitCount_95d88 45 = .ok (.lushr, 1) := by decide +kernel
theorem dJ13_bitCount_95d88_46 : decode cJ13_bitCount_95d88 46 = .ok (.ladd, 1) := by decide +kernel
theorem dJ13_bitCount_95d88_47 : decode cJ13_bitCount_95d88 47 = .ok (.lstore_n 0, 1) := by decide +kernel
theorem dJ13_bitCount_95d88_48 : decode cJ13_bitCount_95d88 48 = .ok (.lload_n 0, 1) := by decide +kernel
theorem dJ13_bitCount_95d88_49 : decode cJ13_bitCount_95d88 49 = .ok (.lload_n 0, 1) := by decide +kernel
theorem dJ13_bitCount_95d88_50 : decode cJ13_bitCount_95d88 50 = .ok (.bipush 32, 2) := by decide +kernel
theorem dJ13_bitCount_95d88_52 : decode cJ13_bitCount_95d88 52 = .ok (.lushr, 1) := by decide +kernel
theorem dJ13_bitCount_95d88_53 : decode cJ13_bitCount_95d88 53 = .ok (.ladd, 1) := by decide +kernel
theorem dJ13_bitCount_95d88_54 : decode cJ13_bitCount_95d88 54 = .ok (.lstore_n 0, 1) := by decide +kernel
theorem dJ13_bitCount_95d88_55 : decode cJ13_bitCount_95d88 55 = .ok (.lload_n 0, 1) := by decide +kernel
theorem dJ13_bitCount_95d88_56 : decode cJ13_bitCount_95d88 56 = .ok (.l2i, 1) := by decide +kernel
theorem dJ13_bitCount_95d88_57 : decode cJ13_bitCount_95d88 57 = .ok (.bipush 127, 2) := by decide +kernel
theorem dJ13_bitCount_95d88_59 : decode cJ13_bitCount_95d88 59 = .ok (.iand, 1) := by decide +kernel
theorem dJ13_bitCount_95d88_60 : decode cJ13_bitCount_95d88 60 = .ok (.ireturn, 1) := by decide +kernel
theorem dJ9_max_7cf53_0 : decode cJ9_max_7cf53 0 = .ok (.iload_n 0, 1) := by decide +kernel
theorem dJ9_max_7cf53_1 : decode cJ9_max_7cf53 1 = .ok (.iload_n 1, 1) := by decide +kernel
theorem dJ9_max_7cf53_2 : decode cJ9_max_7cf53 2 = .ok (.if_icmp .lt 7, 3) := by decide +kernel
theorem dJ9_max_7cf53_5 : decode cJ9_max_7cf53 5 = .ok (.iload_n 0, 1) := by decide +kernel
theorem dJ9_max_7cf53_6 : decode cJ9_max_7cf53 6 = .ok (.goto 4, 3) := by decide +kernel
theorem dJ9_max_7cf53_9 : decode cJ9_max_7cf53 9 = .ok (.iload_n 1, 1) := by decide +kernel
theorem dJ9_max_7cf53_10 : decode cJ9_max_7cf53 10 = .ok (.ireturn, 1) := by decide +kernel
theorem dL_below_0 : decode cL_below 0 = .ok (.iload_n 0, 1) := by decide +kernel
theorem dL_below_1 : decode cL_below 1 = .ok (.ldc 7, 2) := by decide +kernel
theorem dL_below_3 : decode cL_below 3 = .ok (.iand, 1) := by decide +kernel
theorem dL_below_4 : decode cL_below 4 = .ok (.iload_n 1, 1) := by decide +kernel
theorem dL_below_5 : decode cL_below 5 = .ok (.irem, 1) := by decide +kernel
theorem dL_below_6 : decode cL_below 6 = .ok (.ireturn, 1) := by decide +kernel
theorem dL_cell_0 : decode cL_cell 0 = .ok (.iload_n 1, 1) := by decide +kernel
theorem dL_cell_1 : decode cL_cell 1 = .ok (.aload_n 0, 1) := by decide +kernel
theorem dL_cell_2 : decode cL_cell 2 = .ok (.arraylength, 1) := by decide +kernel
theorem dL_cell_3 : decode cL_cell 3 = .ok (.if_icmp .ge 9, 3) := by decide +kernel
theorem dL_cell_6 : decode cL_cell 6 = .ok (.aload_n 0, 1) := by decide +kernel
theorem dL_cell_7 : decode cL_cell 7 = .ok (.iload_n 1, 1) := by decide +kernel
theorem dL_cell_8 : decode cL_cell 8 = .ok (.iaload, 1) := by decide +kernel
theorem dL_cell_9 : decode cL_cell 9 = .ok (.goto 9, 3) := by decide +kernel
theorem dL_cell_12 : decode cL_cell 12 = .ok (.ldc 8, 2) := by decide +kernel
theorem dL_cell_14 : decode cL_cell 14 = .ok (.iload_n 1, 1) := by decide +kernel
theorem dL_cell_15 : decode cL_cell 15 = .ok (.iconst 3, 1) := by decide +kernel
theorem dL_cell_16 : decode cL_cell 16 = .ok (.iadd, 1) := by decide +kernel
theorem dL_cell_17 : decode cL_cell 17 = .ok (.imul, 1) := by decide +kernel
theorem dL_cell_18 : decode cL_cell 18 = .ok (.ireturn, 1) := by decide +kernel
theorem dL_law_0 : decode cL_law 0 = .ok (.new 9, 3) := by decide +kernel
theorem dL_law_3 : decode cL_law 3 = .ok (.dup, 1) := by decide +kernel
theorem dL_law_4 : decode cL_law 4 = .ok (.invokespecial 11, 3) := by decide +kernel
theorem dL_law_7 : decode cL_law 7 = .ok (.astore_n 1, 1) := by decide +kernel
theorem dL_law_8 : decode cL_law 8 = .ok (.iconst 4, 1) := by decide +kernel
theorem dL_law_9 : decode cL_law 9 = .ok (.aload_n 0, 1) := by decide +kernel
theorem dL_law_10 : decode cL_law 10 = .ok (.iconst 0, 1) := by decide +kernel
theorem dL_law_11 : decode cL_law 11 = .ok (.invokestatic 12, 3) := by decide +kernel
theorem dL_law_14 : decode cL_law 14 = .ok (.iconst 3, 1) := by decide +kernel
theorem dL_law_15 : decode cL_law 15 = .ok (.invokestatic 18, 3) := by decide +kernel
theorem dL_law_18 : decode cL_law 18 = .ok (.iadd, 1) := by decide +kernel
theorem dL_law_19 : decode cL_law 19 = .ok (.istore_n 2, 1) := by decide +kernel
theorem dL_law_20 : decode cL_law 20 = .ok (.aload_n 1, 1) := by decide +kernel
theorem dL_law_21 : decode cL_law 21 = .ok (.iload_n 2, 1) := by decide +kernel
theorem dL_law_22 : decode cL_law 22 = .ok (.invokevirtual 22, 3) := by decide +kernel
theorem dL_law_25 : decode cL_law 25 = .ok (.pop, 1) := by decide +kernel
theorem dL_law_26 : decode cL_law 26 = .ok (.iconst 3, 1) := by decide +kernel
theorem dL_law_27 : decode cL_law 27 = .ok (.newarray .int, 2) := by decide +kernel
theorem dL_law_29 : decode cL_law 29 = .ok (.astore_n 3, 1) := by decide +kernel
theorem dL_law_30 : decode cL_law 30 = .ok (.iconst 0, 1) := by decide +kernel
theorem dL_law_31 : decode cL_law 31 = .ok (.istore 4, 2) := by decide +kernel
theorem dL_law_33 : decode cL_law 33 = .ok (.iload 4, 2) := by decide +kernel
theorem dL_law_35 : decode cL_law 35 = .ok (.iconst 3, 1) := by decide +kernel
theorem dL_law_36 : decode cL_law 36 = .ok (.if_icmp .ge 40, 3) := by decide +kernel
theorem dL_law_39 : decode cL_law 39 = .ok (.aload_n 3, 1) := by decide +kernel
theorem dL_law_40 : decode cL_law 40 = .ok (.iload 4, 2) := by decide +kernel
theorem dL_law_42 : decode cL_law 42 = .ok (.iconst 1, 1) := by decide +kernel
theorem dL_law_43 : decode cL_law 43 = .ok (.aload_n 0, 1) := by decide +kernel
theorem dL_law_44 : decode cL_law 44 = .ok (.iload 4, 2) := by decide +kernel
theorem dL_law_46 : decode cL_law 46 = .ok (.iconst 1, 1) := by decide +kernel
theorem dL_law_47 : decode cL_law 47 = .ok (.iadd, 1) := by decide +kernel
theorem dL_law_48 : decode cL_law 48 = .ok (.invokestatic 12, 3) := by decide +kernel
theorem dL_law_51 : decode cL_law 51 = .ok (.bipush 31, 2) := by decide +kernel
theorem dL_law_53 : decode cL_law 53 = .ok (.invokestatic 18, 3) := by decide +kernel
theorem dL_law_56 : decode cL_law 56 = .ok (.iadd, 1) := by decide +kernel
theorem dL_law_57 : decode cL_law 57 = .ok (.iastore, 1) := by decide +kernel
theorem dL_law_58 : decode cL_law 58 = .ok (.aload_n 1, 1) := by decide +kernel
theorem dL_law_59 : decode cL_law 59 = .ok (.iconst 1, 1) := by decide +kernel
theorem dL_law_60 : decode cL_law 60 = .ok (.aload_n 3, 1) := by decide +kernel
theorem dL_law_61 : decode cL_law 61 = .ok (.iload 4, 2) := by decide +kernel
theorem dL_law_63 : decode cL_law 63 = .ok (.iaload, 1) := by decide +kernel
theorem dL_law_64 : decode cL_law 64 = .ok (.iconst 0, 1) := by decide +kernel
theorem dL_law_65 : decode cL_law 65 = .ok (.iconst 0, 1) := by decide +kernel
theorem dL_law_66 : decode cL_law 66 = .ok (.invokevirtual 26, 3) := by decide +kernel
theorem dL_law_69 : decode cL_law 69 = .ok (.pop, 1) := by decide +kernel
theorem dL_law_70 : decode cL_law 70 = .ok (.iinc 4 1, 3) := by decide +kernel
theorem dL_law_73 : decode cL_law 73 = .ok (.goto (-40), 3) := by decide +kernel
theorem dL_law_76 : decode cL_law 76 = .ok (.iconst 0, 1) := by decide +kernel
theorem dL_law_77 : decode cL_law 77 = .ok (.istore 4, 2) := by decide +kernel
theorem dL_law_79 : decode cL_law 79 = .ok (.iload 4, 2) := by decide +kernel
theorem dL_law_81 : decode cL_law 81 = .ok (.iconst 5, 1) := by decide +kernel
theorem dL_law_82 : decode cL_law 82 = .ok (.if_icmp .ge 21, 3) := by decide +kernel
theorem dL_law_85 : decode cL_law 85 = .ok (.aload_n 1, 1) := by decide +kernel
theorem dL_law_86 : decode cL_law 86 = .ok (.aload_n 0, 1) := by decide +kernel
theorem dL_law_87 : decode cL_law 87 = .ok (.iload 4, 2) := by decide +kernel
theorem dL_law_89 : decode cL_law 89 = .ok (.iconst 3, 1) := by decide +kernel
theorem dL_law_90 : decode cL_law 90 = .ok (.iadd, 1) := by decide +kernel
theorem dL_law_91 : decode cL_law 91 = .ok (.invokestatic 12, 3) := by decide +kernel
theorem dL_law_94 : decode cL_law 94 = .ok (.invokestatic 30, 3) := by decide +kernel
theorem dL_law_97 : decode cL_law 97 = .ok (.iinc 4 1, 3) := by decide +kernel
theorem dL_law_100 : decode cL_law 100 = .ok (.goto (-21), 3) := by decide +kernel
theorem dL_law_103 : decode cL_law 103 = .ok (.iconst 0, 1) := by decide +kernel
theorem dL_law_104 : decode cL_law 104 = .ok (.istore 4, 2) := by decide +kernel
theorem dL_law_106 : decode cL_law 106 = .ok (.iload 4, 2) := by decide +kernel
theorem dL_law_108 : decode cL_law 108 = .ok (.bipush 26, 2) := by decide +kernel
theorem dL_law_110 : decode cL_law 110 = .ok (.if_icmp .ge 217, 3) := by decide +kernel
theorem dL_law_113 : decode cL_law 113 = .ok (.aload_n 0, 1) := by decide +kernel
theorem dL_law_114 : decode cL_law 114 = .ok (.iload 4, 2) := by decide +kernel
theorem dL_law_116 : decode cL_law 116 = .ok (.bipush 16, 2) := by decide +kernel
theorem dL_law_118 : decode cL_law 118 = .ok (.irem, 1) := by decide +kernel
theorem dL_law_119 : decode cL_law 119 = .ok (.invokestatic 12, 3) := by decide +kernel
theorem dL_law_122 : decode cL_law 122 = .ok (.bipush 31, 2) := by decide +kernel
theorem dL_law_124 : decode cL_law 124 = .ok (.iload 4, 2) := by decide +kernel
theorem dL_law_126 : decode cL_law 126 = .ok (.imul, 1) := by decide +kernel
theorem dL_law_127 : decode cL_law 127 = .ok (.iadd, 1) := by decide +kernel
theorem dL_law_128 : decode cL_law 128 = .ok (.istore 5, 2) := by decide +kernel
theorem dL_law_130 : decode cL_law 130 = .ok (.aload_n 0, 1) := by decide +kernel
theorem dL_law_131 : decode cL_law 131 = .ok (.bipush 7, 2) := by decide +kernel
theorem dL_law_133 : decode cL_law 133 = .ok (.iload 4, 2) := by decide +kernel
theorem dL_law_135 : decode cL_law 135 = .ok (.imul, 1) := by decide +kernel
theorem dL_law_136 : decode cL_law 136 = .ok (.iconst 3, 1) := by decide +kernel
theorem dL_law_137 : decode cL_law 137 = .ok (.iadd, 1) := by decide +kernel
theorem dL_law_138 : decode cL_law 138 = .ok (.bipush 16, 2) := by decide +kernel
theorem dL_law_140 : decode cL_law 140 = .ok (.irem, 1) := by decide +kernel
theorem dL_law_141 : decode cL_law 141 = .ok (.invokestatic 12, 3) := by decide +kernel
theorem dL_law_144 : decode cL_law 144 = .ok (.iconst 5, 1) := by decide +kernel
theorem dL_law_145 : decode cL_law 145 = .ok (.iload 4, 2) := by decide +kernel
theorem dL_law_147 : decode cL_law 147 = .ok (.imul, 1) := by decide +kernel
theorem dL_law_148 : decode cL_law 148 = .ok (.iadd, 1) := by decide +kernel
theorem dL_law_149 : decode cL_law 149 = .ok (.istore 6, 2) := by decide +kernel
theorem dL_law_151 : decode cL_law 151 = .ok (.aload_n 1, 1) := by decide +kernel
theorem dL_law_152 : decode cL_law 152 = .ok (.iconst 4, 1) := by decide +kernel
theorem dL_law_153 : decode cL_law 153 = .ok (.invokevirtual 34, 3) := by decide +kernel
theorem dL_law_156 : decode cL_law 156 = .ok (.istore 7, 2) := by decide +kernel
theorem dL_law_158 : decode cL_law 158 = .ok (.iload 6, 2) := by decide +kernel
theorem dL_law_160 : decode cL_law 160 = .ok (.iload 7, 2) := by decide +kernel
theorem dL_law_162 : decode cL_law 162 = .ok (.invokestatic 18, 3) := by decide +kernel
theorem dL_law_165 : decode cL_law 165 = .ok (.istore 8, 2) := by decide +kernel
theorem dL_law_167 : decode cL_law 167 = .ok (.iload 5, 2) := by decide +kernel
theorem dL_law_169 : decode cL_law 169 = .ok (.bipush 9, 2) := by decide +kernel
theorem dL_law_171 : decode cL_law 171 = .ok (.invokestatic 18, 3) := by decide +kernel
theorem dL_law_174 : decode cL_law 174 = .ok (.tableswitch 124 0 3 #[30, 57, 91, 105], 30) := by decide +kernel
theorem dL_law_204 : decode cL_law 204 = .ok (.aload_n 1, 1) := by decide +kernel
theorem dL_law_205 : decode cL_law 205 = .ok (.iconst 1, 1) := by decide +kernel
theorem dL_law_206 : decode cL_law 206 = .ok (.iload 5, 2) := by decide +kernel
theorem dL_law_208 : decode cL_law 208 = .ok (.bipush 9, 2) := by decide +kernel
theorem dL_law_210 : decode cL_law 210 = .ok (.idiv, 1) := by decide +kernel
theorem dL_law_211 : decode cL_law 211 = .ok (.bipush 12, 2) := by decide +kernel
theorem dL_law_213 : decode cL_law 213 = .ok (.invokestatic 18, 3) := by decide +kernel
theorem dL_law_216 : decode cL_law 216 = .ok (.iadd, 1) := by decide +kernel
theorem dL_law_217 : decode cL_law 217 = .ok (.iload 6, 2) := by decide +kernel
theorem dL_law_219 : decode cL_law 219 = .ok (.bipush 11, 2) := by decide +kernel
theorem dL_law_221 : decode cL_law 221 = .ok (.invokestatic 18, 3) := by decide +kernel
theorem dL_law_224 : decode cL_law 224 = .ok (.invokevirtual 37, 3) := by decide +kernel
theorem dL_law_227 : decode cL_law 227 = .ok (.pop, 1) := by decide +kernel
theorem dL_law_228 : decode cL_law 228 = .ok (.goto 83, 3) := by decide +kernel
theorem dL_law_231 : decode cL_law 231 = .ok (.aload_n 1, 1) := by decide +kernel
theorem dL_law_232 : decode cL_law 232 = .ok (.iload 6, 2) := by decide +kernel
theorem dL_law_234 : decode cL_law 234 = .ok (.iload_n 2, 1) := by decide +kernel
theorem dL_law_235 : decode cL_law 235 = .ok (.invokestatic 18, 3) := by decide +kernel
theorem dL_law_238 : decode cL_law 238 = .ok (.iload 6, 2) := by decide +kernel
theorem dL_law_240 : decode cL_law 240 = .ok (.bipush 7, 2) := by decide +kernel
theorem dL_law_242 : decode cL_law 242 = .ok (.idiv, 1) := by decide +kernel
theorem dL_law_243 : decode cL_law 243 = .ok (.iconst 5, 1) := by decide +kernel
theorem dL_law_244 : decode cL_law 244 = .ok (.invokestatic 18, 3) := by decide +kernel
theorem dL_law_247 : decode cL_law 247 = .ok (.iload 5, 2) := by decide +kernel
theorem dL_law_249 : decode cL_law 249 = .ok (.bipush 9, 2) := by decide +kernel
theorem dL_law_251 : decode cL_law 251 = .ok (.idiv, 1) := by decide +kernel
theorem dL_law_252 : decode cL_law 252 = .ok (.iconst 3, 1) := by decide +kernel
theorem dL_law_253 : decode cL_law 253 = .ok (.invokestatic 18, 3) := by decide +kernel
theorem dL_law_256 : decode cL_law 256 = .ok (.iconst 1, 1) := by decide +kernel
theorem dL_law_257 : decode cL_law 257 = .ok (.isub, 1) := by decide +kernel
theorem dL_law_258 : decode cL_law 258 = .ok (.invokevirtual 40, 3) := by decide +kernel
theorem dL_law_261 : decode cL_law 261 = .ok (.pop, 1) := by decide +kernel
theorem dL_law_262 : decode cL_law 262 = .ok (.goto 49, 3) := by decide +kernel
theorem dL_law_265 : decode cL_law 265 = .ok (.aload_n 1, 1) := by decide +kernel
theorem dL_law_266 : decode cL_law 266 = .ok (.iload 6, 2) := by decide +kernel
theorem dL_law_268 : decode cL_law 268 = .ok (.iload_n 2, 1) := by decide +kernel
theorem dL_law_269 : decode cL_law 269 = .ok (.invokestatic 18, 3) := by decide +kernel
theorem dL_law_272 : decode cL_law 272 = .ok (.invokevirtual 44, 3) := by decide +kernel
theorem dL_law_275 : decode cL_law 275 = .ok (.pop, 1) := by decide +kernel
theorem dL_law_276 : decode cL_law 276 = .ok (.goto 35, 3) := by decide +kernel
theorem dL_law_279 : decode cL_law 279 = .ok (.iload 7, 2) := by decide +kernel
theorem dL_law_281 : decode cL_law 281 = .ok (.bipush 8, 2) := by decide +kernel
theorem dL_law_283 : decode cL_law 283 = .ok (.if_icmp .ge 28, 3) := by decide +kernel
theorem dL_law_286 : decode cL_law 286 = .ok (.aload_n 1, 1) := by decide +kernel
theorem dL_law_287 : decode cL_law 287 = .ok (.iload 5, 2) := by decide +kernel
theorem dL_law_289 : decode cL_law 289 = .ok (.bipush 9, 2) := by decide +kernel
theorem dL_law_291 : decode cL_law 291 = .ok (.idiv, 1) := by decide +kernel
theorem dL_law_292 : decode cL_law 292 = .ok (.invokestatic 30, 3) := by decide +kernel
theorem dL_law_295 : decode cL_law 295 = .ok (.goto 16, 3) := by decide +kernel
theorem dL_law_298 : decode cL_law 298 = .ok (.aload_n 1, 1) := by decide +kernel
theorem dL_law_299 : decode cL_law 299 = .ok (.iload 8, 2) := by decide +kernel
theorem dL_law_301 : decode cL_law 301 = .ok (.iload_n 2, 1) := by decide +kernel
theorem dL_law_302 : decode cL_law 302 = .ok (.aload_n 3, 1) := by decide +kernel
theorem dL_law_303 : decode cL_law 303 = .ok (.invokestatic 47, 3) := by decide +kernel
theorem dL_law_306 : decode cL_law 306 = .ok (.ifCond .ne 5, 3) := by decide +kernel
theorem dL_law_309 : decode cL_law 309 = .ok (.iconst 0, 1) := by decide +kernel
theorem dL_law_310 : decode cL_law 310 = .ok (.ireturn, 1) := by decide +kernel
theorem dL_law_311 : decode cL_law 311 = .ok (.aload_n 1, 1) := by decide +kernel
theorem dL_law_312 : decode cL_law 312 = .ok (.iload_n 2, 1) := by decide +kernel
theorem dL_law_313 : decode cL_law 313 = .ok (.invokestatic 51, 3) := by decide +kernel
theorem dL_law_316 : decode cL_law 316 = .ok (.ifCond .ne 5, 3) := by decide +kernel
theorem dL_law_319 : decode cL_law 319 = .ok (.iconst 0, 1) := by decide +kernel
theorem dL_law_320 : decode cL_law 320 = .ok (.ireturn, 1) := by decide +kernel
theorem dL_law_321 : decode cL_law 321 = .ok (.iinc 4 1, 3) := by decide +kernel
theorem dL_law_324 : decode cL_law 324 = .ok (.goto (-218), 3) := by decide +kernel
theorem dL_law_327 : decode cL_law 327 = .ok (.aload_n 1, 1) := by decide +kernel
theorem dL_law_328 : decode cL_law 328 = .ok (.invokevirtual 55, 3) := by decide +kernel
theorem dL_law_331 : decode cL_law 331 = .ok (.lstore 4, 2) := by decide +kernel
theorem dL_law_333 : decode cL_law 333 = .ok (.aload_n 1, 1) := by decide +kernel
theorem dL_law_334 : decode cL_law 334 = .ok (.bipush 7, 2) := by decide +kernel
theorem dL_law_336 : decode cL_law 336 = .ok (.invokevirtual 34, 3) := by decide +kernel
theorem dL_law_339 : decode cL_law 339 = .ok (.aload_n 1, 1) := by decide +kernel
theorem dL_law_340 : decode cL_law 340 = .ok (.bipush 8, 2) := by decide +kernel
theorem dL_law_342 : decode cL_law 342 = .ok (.invokevirtual 34, 3) := by decide +kernel
theorem dL_law_345 : decode cL_law 345 = .ok (.if_icmp .lt 24, 3) := by decide +kernel
theorem dL_law_348 : decode cL_law 348 = .ok (.aload_n 1, 1) := by decide +kernel
theorem dL_law_349 : decode cL_law 349 = .ok (.invokevirtual 55, 3) := by decide +kernel
theorem dL_law_352 : decode cL_law 352 = .ok (.lload 4, 2) := by decide +kernel
theorem dL_law_354 : decode cL_law 354 = .ok (.lcmp, 1) := by decide +kernel
theorem dL_law_355 : decode cL_law 355 = .ok (.ifCond .ne 14, 3) := by decide +kernel
theorem dL_law_358 : decode cL_law 358 = .ok (.aload_n 1, 1) := by decide +kernel
theorem dL_law_359 : decode cL_law 359 = .ok (.invokevirtual 59, 3) := by decide +kernel
theorem dL_law_362 : decode cL_law 362 = .ok (.ifCond .eq 7, 3) := by decide +kernel
theorem dL_law_365 : decode cL_law 365 = .ok (.iconst 1, 1) := by decide +kernel
theorem dL_law_366 : decode cL_law 366 = .ok (.goto 4, 3) := by decide +kernel
theorem dL_law_369 : decode cL_law 369 = .ok (.iconst 0, 1) := by decide +kernel
theorem dL_law_370 : decode cL_law 370 = .ok (.ireturn, 1) := by decide +kernel
theorem dL_list_0 : decode cL_list 0 = .ok (.iconst 1, 1) := by decide +kernel
theorem dL_list_1 : decode cL_list 1 = .ok (.iload_n 1, 1) := by decide +kernel
theorem dL_list_2 : decode cL_list 2 = .ok (.iconst 3, 1) := by decide +kernel
theorem dL_list_3 : decode cL_list 3 = .ok (.invokestatic 18, 3) := by decide +kernel
theorem dL_list_6 : decode cL_list 6 = .ok (.iadd, 1) := by decide +kernel
theorem dL_list_7 : decode cL_list 7 = .ok (.istore_n 2, 1) := by decide +kernel
theorem dL_list_8 : decode cL_list 8 = .ok (.iload_n 1, 1) := by decide +kernel
theorem dL_list_9 : decode cL_list 9 = .ok (.iconst 3, 1) := by decide +kernel
theorem dL_list_10 : decode cL_list 10 = .ok (.idiv, 1) := by decide +kernel
theorem dL_list_11 : decode cL_list 11 = .ok (.iconst 3, 1) := by decide +kernel
theorem dL_list_12 : decode cL_list 12 = .ok (.invokestatic 18, 3) := by decide +kernel
theorem dL_list_15 : decode cL_list 15 = .ok (.istore_n 3, 1) := by decide +kernel
theorem dL_list_16 : decode cL_list 16 = .ok (.iload_n 3, 1) := by decide +kernel
theorem dL_list_17 : decode cL_list 17 = .ok (.ifCond .le 27, 3) := by decide +kernel
theorem dL_list_20 : decode cL_list 20 = .ok (.bipush 10, 2) := by decide +kernel
theorem dL_list_22 : decode cL_list 22 = .ok (.iload_n 2, 1) := by decide +kernel
theorem dL_list_23 : decode cL_list 23 = .ok (.imul, 1) := by decide +kernel
theorem dL_list_24 : decode cL_list 24 = .ok (.iconst 1, 1) := by decide +kernel
theorem dL_list_25 : decode cL_list 25 = .ok (.iadd, 1) := by decide +kernel
theorem dL_list_26 : decode cL_list 26 = .ok (.iload_n 1, 1) := by decide +kernel
theorem dL_list_27 : decode cL_list 27 = .ok (.bipush 9, 2) := by decide +kernel
theorem dL_list_29 : decode cL_list 29 = .ok (.idiv, 1) := by decide +kernel
theorem dL_list_30 : decode cL_list 30 = .ok (.iload_n 3, 1) := by decide +kernel
theorem dL_list_31 : decode cL_list 31 = .ok (.iadd, 1) := by decide +kernel
theorem dL_list_32 : decode cL_list 32 = .ok (.iconst 3, 1) := by decide +kernel
theorem dL_list_33 : decode cL_list 33 = .ok (.invokestatic 18, 3) := by decide +kernel
theorem dL_list_36 : decode cL_list 36 = .ok (.iadd, 1) := by decide +kernel
theorem dL_list_37 : decode cL_list 37 = .ok (.istore_n 2, 1) := by decide +kernel
theorem dL_list_38 : decode cL_list 38 = .ok (.iinc 3 (-1), 3) := by decide +kernel
theorem dL_list_41 : decode cL_list 41 = .ok (.goto (-25), 3) := by decide +kernel
theorem dL_list_44 : decode cL_list 44 = .ok (.aload_n 0, 1) := by decide +kernel
theorem dL_list_45 : decode cL_list 45 = .ok (.iload_n 2, 1) := by decide +kernel
theorem dL_list_46 : decode cL_list 46 = .ok (.invokevirtual 63, 3) := by decide +kernel
theorem dL_list_49 : decode cL_list 49 = .ok (.pop, 1) := by decide +kernel
theorem dL_list_50 : decode cL_list 50 = .ok (.goto 10, 3) := by decide +kernel
theorem dL_list_53 : decode cL_list 53 = .ok (.astore_n 3, 1) := by decide +kernel
theorem dL_list_54 : decode cL_list 54 = .ok (.aload_n 0, 1) := by decide +kernel
theorem dL_list_55 : decode cL_list 55 = .ok (.iconst 4, 1) := by decide +kernel
theorem dL_list_56 : decode cL_list 56 = .ok (.invokevirtual 34, 3) := by decide +kernel
theorem dL_list_59 : decode cL_list 59 = .ok (.pop, 1) := by decide +kernel
theorem dL_list_60 : decode cL_list 60 = .ok (.return_, 1) := by decide +kernel
theorem dL_isShown_0 : decode cL_isShown 0 = .ok (.aload_n 0, 1) := by decide +kernel
theorem dL_isShown_1 : decode cL_isShown 1 = .ok (.iload_n 1, 1) := by decide +kernel
theorem dL_isShown_2 : decode cL_isShown 2 = .ok (.bipush 6, 2) := by decide +kernel
theorem dL_isShown_4 : decode cL_isShown 4 = .ok (.invokevirtual 67, 3) := by decide +kernel
theorem dL_isShown_7 : decode cL_isShown 7 = .ok (.istore 4, 2) := by decide +kernel
theorem dL_isShown_9 : decode cL_isShown 9 = .ok (.aload_n 0, 1) := by decide +kernel
theorem dL_isShown_10 : decode cL_isShown 10 = .ok (.iload_n 1, 1) := by decide +kernel
theorem dL_isShown_11 : decode cL_isShown 11 = .ok (.bipush 7, 2) := by decide +kernel
theorem dL_isShown_13 : decode cL_isShown 13 = .ok (.invokevirtual 67, 3) := by decide +kernel
theorem dL_isShown_16 : decode cL_isShown 16 = .ok (.istore 5, 2) := by decide +kernel
theorem dL_isShown_18 : decode cL_isShown 18 = .ok (.aload_n 0, 1) := by decide +kernel
theorem dL_isShown_19 : decode cL_isShown 19 = .ok (.bipush 7, 2) := by decide +kernel
theorem dL_isShown_21 : decode cL_isShown 21 = .ok (.invokevirtual 34, 3) := by decide +kernel
theorem dL_isShown_24 : decode cL_isShown 24 = .ok (.istore 6, 2) := by decide +kernel
theorem dL_isShown_26 : decode cL_isShown 26 = .ok (.aload_n 0, 1) := by decide +kernel
theorem dL_isShown_27 : decode cL_isShown 27 = .ok (.iconst 4, 1) := by decide +kernel
theorem dL_isShown_28 : decode cL_isShown 28 = .ok (.invokevirtual 34, 3) := by decide +kernel
theorem dL_isShown_31 : decode cL_isShown 31 = .ok (.istore 7, 2) := by decide +kernel
theorem dL_isShown_33 : decode cL_isShown 33 = .ok (.iconst 0, 1) := by decide +kernel
theorem dL_isShown_34 : decode cL_isShown 34 = .ok (.iload 4, 2) := by decide +kernel
theorem dL_isShown_36 : decode cL_isShown 36 = .ok (.invokestatic 70, 3) := by decide +kernel
theorem dL_isShown_39 : decode cL_isShown 39 = .ok (.newarray .int, 2) := by decide +kernel
theorem dL_isShown_41 : decode cL_isShown 41 = .ok (.astore 8, 2) := by decide +kernel
theorem dL_isShown_43 : decode cL_isShown 43 = .ok (.iload_n 2, 1) := by decide +kernel
theorem dL_isShown_44 : decode cL_isShown 44 = .ok (.newarray .int, 2) := by decide +kernel
theorem dL_isShown_46 : decode cL_isShown 46 = .ok (.astore 9, 2) := by decide +kernel
theorem dL_isShown_48 : decode cL_isShown 48 = .ok (.iload 7, 2) := by decide +kernel
theorem dL_isShown_50 : decode cL_isShown 50 = .ok (.newarray .boolean, 2) := by decide +kernel
theorem dL_isShown_52 : decode cL_isShown 52 = .ok (.astore 10, 2) := by decide +kernel
theorem dL_isShown_54 : decode cL_isShown 54 = .ok (.iconst 0, 1) := by decide +kernel
theorem dL_isShown_55 : decode cL_isShown 55 = .ok (.istore 11, 2) := by decide +kernel
theorem dL_isShown_57 : decode cL_isShown 57 = .ok (.iload 11, 2) := by decide +kernel
theorem dL_isShown_59 : decode cL_isShown 59 = .ok (.aload 8, 2) := by decide +kernel
theorem dL_isShown_61 : decode cL_isShown 61 = .ok (.arraylength, 1) := by decide +kernel
theorem dL_isShown_62 : decode cL_isShown 62 = .ok (.if_icmp .ge 21, 3) := by decide +kernel
theorem dL_isShown_65 : decode cL_isShown 65 = .ok (.aload 8, 2) := by decide +kernel
theorem dL_isShown_67 : decode cL_isShown 67 = .ok (.iload 11, 2) := by decide +kernel
theorem dL_isShown_69 : decode cL_isShown 69 = .ok (.aload_n 0, 1) := by decide +kernel
theorem dL_isShown_70 : decode cL_isShown 70 = .ok (.iload_n 1, 1) := by decide +kernel
theorem dL_isShown_71 : decode cL_isShown 71 = .ok (.iload 11, 2) := by decide +kernel
theorem dL_isShown_73 : decode cL_isShown 73 = .ok (.invokevirtual 75, 3) := by decide +kernel
theorem dL_isShown_76 : decode cL_isShown 76 = .ok (.iastore, 1) := by decide +kernel
theorem dL_isShown_77 : decode cL_isShown 77 = .ok (.iinc 11 1, 3) := by decide +kernel
theorem dL_isShown_80 : decode cL_isShown 80 = .ok (.goto (-23), 3) := by decide +kernel
theorem dL_isShown_83 : decode cL_isShown 83 = .ok (.iconst 0, 1) := by decide +kernel
theorem dL_isShown_84 : decode cL_isShown 84 = .ok (.istore 11, 2) := by decide +kernel
theorem dL_isShown_86 : decode cL_isShown 86 = .ok (.iload 11, 2) := by decide +kernel
theorem dL_isShown_88 : decode cL_isShown 88 = .ok (.iload_n 2, 1) := by decide +kernel
theorem dL_isShown_89 : decode cL_isShown 89 = .ok (.if_icmp .ge 21, 3) := by decide +kernel
theorem dL_isShown_92 : decode cL_isShown 92 = .ok (.aload 9, 2) := by decide +kernel
theorem dL_isShown_94 : decode cL_isShown 94 = .ok (.iload 11, 2) := by decide +kernel
theorem dL_isShown_96 : decode cL_isShown 96 = .ok (.aload_n 0, 1) := by decide +kernel
theorem dL_isShown_97 : decode cL_isShown 97 = .ok (.iload 11, 2) := by decide +kernel
theorem dL_isShown_99 : decode cL_isShown 99 = .ok (.iconst 0, 1) := by decide +kernel
theorem dL_isShown_100 : decode cL_isShown 100 = .ok (.invokevirtual 78, 3) := by decide +kernel
theorem dL_isShown_103 : decode cL_isShown 103 = .ok (.iastore, 1) := by decide +kernel
theorem dL_isShown_104 : decode cL_isShown 104 = .ok (.iinc 11 1, 3) := by decide +kernel
theorem dL_isShown_107 : decode cL_isShown 107 = .ok (.goto (-21), 3) := by decide +kernel
theorem dL_isShown_110 : decode cL_isShown 110 = .ok (.iconst 0, 1) := by decide +kernel
theorem dL_isShown_111 : decode cL_isShown 111 = .ok (.istore 11, 2) := by decide +kernel
theorem dL_isShown_113 : decode cL_isShown 113 = .ok (.iload 11, 2) := by decide +kernel
theorem dL_isShown_115 : decode cL_isShown 115 = .ok (.iload 7, 2) := by decide +kernel
theorem dL_isShown_117 : decode cL_isShown 117 = .ok (.if_icmp .ge 36, 3) := by decide +kernel
theorem dL_isShown_120 : decode cL_isShown 120 = .ok (.aload 10, 2) := by decide +kernel
theorem dL_isShown_122 : decode cL_isShown 122 = .ok (.iload 11, 2) := by decide +kernel
theorem dL_isShown_124 : decode cL_isShown 124 = .ok (.iload 11, 2) := by decide +kernel
theorem dL_isShown_126 : decode cL_isShown 126 = .ok (.iload_n 1, 1) := by decide +kernel
theorem dL_isShown_127 : decode cL_isShown 127 = .ok (.if_icmp .eq 14, 3) := by decide +kernel
theorem dL_isShown_130 : decode cL_isShown 130 = .ok (.aload_n 0, 1) := by decide +kernel
theorem dL_isShown_131 : decode cL_isShown 131 = .ok (.iload 11, 2) := by decide +kernel
theorem dL_isShown_133 : decode cL_isShown 133 = .ok (.iconst 5, 1) := by decide +kernel
theorem dL_isShown_134 : decode cL_isShown 134 = .ok (.invokevirtual 67, 3) := by decide +kernel
theorem dL_isShown_137 : decode cL_isShown 137 = .ok (.iconst 1, 1) := by decide +kernel
theorem dL_isShown_138 : decode cL_isShown 138 = .ok (.if_icmp .ne 7, 3) := by decide +kernel
theorem dL_isShown_141 : decode cL_isShown 141 = .ok (.iconst 1, 1) := by decide +kernel
theorem dL_isShown_142 : decode cL_isShown 142 = .ok (.goto 4, 3) := by decide +kernel
theorem dL_isShown_145 : decode cL_isShown 145 = .ok (.iconst 0, 1) := by decide +kernel
theorem dL_isShown_146 : decode cL_isShown 146 = .ok (.bastore, 1) := by decide +kernel
theorem dL_isShown_147 : decode cL_isShown 147 = .ok (.iinc 11 1, 3) := by decide +kernel
theorem dL_isShown_150 : decode cL_isShown 150 = .ok (.goto (-37), 3) := by decide +kernel
theorem dL_isShown_153 : decode cL_isShown 153 = .ok (.aload_n 0, 1) := by decide +kernel
theorem dL_isShown_154 : decode cL_isShown 154 = .ok (.iload_n 1, 1) := by decide +kernel
theorem dL_isShown_155 : decode cL_isShown 155 = .ok (.invokevirtual 81, 3) := by decide +kernel
theorem dL_isShown_158 : decode cL_isShown 158 = .ok (.iload 4, 2) := by decide +kernel
theorem dL_isShown_160 : decode cL_isShown 160 = .ok (.if_icmp .eq 5, 3) := by decide +kernel
theorem dL_isShown_163 : decode cL_isShown 163 = .ok (.iconst 0, 1) := by decide +kernel
theorem dL_isShown_164 : decode cL_isShown 164 = .ok (.ireturn, 1) := by decide +kernel
theorem dL_isShown_165 : decode cL_isShown 165 = .ok (.iload 4, 2) := by decide +kernel
theorem dL_isShown_167 : decode cL_isShown 167 = .ok (.ifCond .ge 26, 3) := by decide +kernel
theorem dL_isShown_170 : decode cL_isShown 170 = .ok (.aload_n 0, 1) := by decide +kernel
theorem dL_isShown_171 : decode cL_isShown 171 = .ok (.bipush 7, 2) := by decide +kernel
theorem dL_isShown_173 : decode cL_isShown 173 = .ok (.invokevirtual 34, 3) := by decide +kernel
theorem dL_isShown_176 : decode cL_isShown 176 = .ok (.iload 6, 2) := by decide +kernel
theorem dL_isShown_178 : decode cL_isShown 178 = .ok (.if_icmp .ne 13, 3) := by decide +kernel
theorem dL_isShown_181 : decode cL_isShown 181 = .ok (.iload 5, 2) := by decide +kernel
theorem dL_isShown_183 : decode cL_isShown 183 = .ok (.iconst (-1), 1) := by decide +kernel
theorem dL_isShown_184 : decode cL_isShown 184 = .ok (.if_icmp .ne 7, 3) := by decide +kernel
theorem dL_isShown_187 : decode cL_isShown 187 = .ok (.iconst 1, 1) := by decide +kernel
theorem dL_isShown_188 : decode cL_isShown 188 = .ok (.goto 4, 3) := by decide +kernel
theorem dL_isShown_191 : decode cL_isShown 191 = .ok (.iconst 0, 1) := by decide +kernel
theorem dL_isShown_192 : decode cL_isShown 192 = .ok (.ireturn, 1) := by decide +kernel
theorem dL_isShown_193 : decode cL_isShown 193 = .ok (.aload_n 0, 1) := by decide +kernel
theorem dL_isShown_194 : decode cL_isShown 194 = .ok (.bipush 7, 2) := by decide +kernel
theorem dL_isShown_196 : decode cL_isShown 196 = .ok (.invokevirtual 34, 3) := by decide +kernel
theorem dL_isShown_199 : decode cL_isShown 199 = .ok (.iload 6, 2) := by decide +kernel
theorem dL_isShown_201 : decode cL_isShown 201 = .ok (.iload 5, 2) := by decide +kernel
theorem dL_isShown_203 : decode cL_isShown 203 = .ok (.iadd, 1) := by decide +kernel
theorem dL_isShown_204 : decode cL_isShown 204 = .ok (.if_icmp .ne 32, 3) := by decide +kernel
theorem dL_isShown_207 : decode cL_isShown 207 = .ok (.aload_n 0, 1) := by decide +kernel
theorem dL_isShown_208 : decode cL_isShown 208 = .ok (.iload_n 1, 1) := by decide +kernel
theorem dL_isShown_209 : decode cL_isShown 209 = .ok (.iconst 3, 1) := by decide +kernel
theorem dL_isShown_210 : decode cL_isShown 210 = .ok (.invokevirtual 67, 3) := by decide +kernel
theorem dL_isShown_213 : decode cL_isShown 213 = .ok (.ifCond .ne 13, 3) := by decide +kernel
theorem dL_isShown_216 : decode cL_isShown 216 = .ok (.aload_n 0, 1) := by decide +kernel
theorem dL_isShown_217 : decode cL_isShown 217 = .ok (.iload_n 1, 1) := by decide +kernel
theorem dL_isShown_218 : decode cL_isShown 218 = .ok (.iconst 5, 1) := by decide +kernel
theorem dL_isShown_219 : decode cL_isShown 219 = .ok (.invokevirtual 67, 3) := by decide +kernel
theorem dL_isShown_222 : decode cL_isShown 222 = .ok (.iconst 1, 1) := by decide +kernel
theorem dL_isShown_223 : decode cL_isShown 223 = .ok (.if_icmp .ne 13, 3) := by decide +kernel
theorem dL_isShown_226 : decode cL_isShown 226 = .ok (.aload_n 0, 1) := by decide +kernel
theorem dL_isShown_227 : decode cL_isShown 227 = .ok (.iload_n 1, 1) := by decide +kernel
theorem dL_isShown_228 : decode cL_isShown 228 = .ok (.bipush 6, 2) := by decide +kernel
theorem dL_isShown_230 : decode cL_isShown 230 = .ok (.invokevirtual 67, 3) := by decide +kernel
theorem dL_isShown_233 : decode cL_isShown 233 = .ok (.ifCond .eq 5, 3) := by decide +kernel
theorem dL_isShown_236 : decode cL_isShown 236 = .ok (.iconst 0, 1) := by decide +kernel
theorem dL_isShown_237 : decode cL_isShown 237 = .ok (.ireturn, 1) := by decide +kernel
theorem dL_isShown_238 : decode cL_isShown 238 = .ok (.iconst 0, 1) := by decide +kernel
theorem dL_isShown_239 : decode cL_isShown 239 = .ok (.istore 11, 2) := by decide +kernel
theorem dL_isShown_241 : decode cL_isShown 241 = .ok (.iconst 0, 1) := by decide +kernel
theorem dL_isShown_242 : decode cL_isShown 242 = .ok (.istore 12, 2) := by decide +kernel
theorem dL_isShown_244 : decode cL_isShown 244 = .ok (.iload 12, 2) := by decide +kernel
theorem dL_isShown_246 : decode cL_isShown 246 = .ok (.iload 4, 2) := by decide +kernel
theorem dL_isShown_248 : decode cL_isShown 248 = .ok (.if_icmp .ge 168, 3) := by decide +kernel
theorem dL_isShown_251 : decode cL_isShown 251 = .ok (.aload 8, 2) := by decide +kernel
theorem dL_isShown_253 : decode cL_isShown 253 = .ok (.iload 12, 2) := by decide +kernel
theorem dL_isShown_255 : decode cL_isShown 255 = .ok (.iaload, 1) := by decide +kernel
theorem dL_isShown_256 : decode cL_isShown 256 = .ok (.ifCond .le 14, 3) := by decide +kernel
theorem dL_isShown_259 : decode cL_isShown 259 = .ok (.aload 8, 2) := by decide +kernel
theorem dL_isShown_261 : decode cL_isShown 261 = .ok (.iload 12, 2) := by decide +kernel
theorem dL_isShown_263 : decode cL_isShown 263 = .ok (.iaload, 1) := by decide +kernel
theorem dL_isShown_264 : decode cL_isShown 264 = .ok (.iload 11, 2) := by decide +kernel
theorem dL_isShown_266 : decode cL_isShown 266 = .ok (.iand, 1) := by decide +kernel
theorem dL_isShown_267 : decode cL_isShown 267 = .ok (.ifCond .eq 5, 3) := by decide +kernel
theorem dL_isShown_270 : decode cL_isShown 270 = .ok (.iconst 0, 1) := by decide +kernel
theorem dL_isShown_271 : decode cL_isShown 271 = .ok (.ireturn, 1) := by decide +kernel
theorem dL_isShown_272 : decode cL_isShown 272 = .ok (.iload 11, 2) := by decide +kernel
theorem dL_isShown_274 : decode cL_isShown 274 = .ok (.aload 8, 2) := by decide +kernel
theorem dL_isShown_276 : decode cL_isShown 276 = .ok (.iload 12, 2) := by decide +kernel
theorem dL_isShown_278 : decode cL_isShown 278 = .ok (.iaload, 1) := by decide +kernel
theorem dL_isShown_279 : decode cL_isShown 279 = .ok (.ior, 1) := by decide +kernel
theorem dL_isShown_280 : decode cL_isShown 280 = .ok (.istore 11, 2) := by decide +kernel
theorem dL_isShown_282 : decode cL_isShown 282 = .ok (.iconst 0, 1) := by decide +kernel
theorem dL_isShown_283 : decode cL_isShown 283 = .ok (.istore 13, 2) := by decide +kernel
theorem dL_isShown_285 : decode cL_isShown 285 = .ok (.iload 13, 2) := by decide +kernel
theorem dL_isShown_287 : decode cL_isShown 287 = .ok (.iload_n 2, 1) := by decide +kernel
theorem dL_isShown_288 : decode cL_isShown 288 = .ok (.if_icmp .ge 45, 3) := by decide +kernel
theorem dL_isShown_291 : decode cL_isShown 291 = .ok (.iload 12, 2) := by decide +kernel
theorem dL_isShown_293 : decode cL_isShown 293 = .ok (.iload 4, 2) := by decide +kernel
theorem dL_isShown_295 : decode cL_isShown 295 = .ok (.iconst 1, 1) := by decide +kernel
theorem dL_isShown_296 : decode cL_isShown 296 = .ok (.isub, 1) := by decide +kernel
theorem dL_isShown_297 : decode cL_isShown 297 = .ok (.if_icmp .ne 36, 3) := by decide +kernel
theorem dL_isShown_300 : decode cL_isShown 300 = .ok (.iload 11, 2) := by decide +kernel
theorem dL_isShown_302 : decode cL_isShown 302 = .ok (.iload 13, 2) := by decide +kernel
theorem dL_isShown_304 : decode cL_isShown 304 = .ok (.ishr, 1) := by decide +kernel
theorem dL_isShown_305 : decode cL_isShown 305 = .ok (.iconst 1, 1) := by decide +kernel
theorem dL_isShown_306 : decode cL_isShown 306 = .ok (.iand, 1) := by decide +kernel
theorem dL_isShown_307 : decode cL_isShown 307 = .ok (.ifCond .ne 20, 3) := by decide +kernel
theorem dL_isShown_310 : decode cL_isShown 310 = .ok (.aload_n 0, 1) := by decide +kernel
theorem dL_isShown_311 : decode cL_isShown 311 = .ok (.iload 13, 2) := by decide +kernel
theorem dL_isShown_313 : decode cL_isShown 313 = .ok (.iconst 0, 1) := by decide +kernel
theorem dL_isShown_314 : decode cL_isShown 314 = .ok (.invokevirtual 78, 3) := by decide +kernel
theorem dL_isShown_317 : decode cL_isShown 317 = .ok (.aload 9, 2) := by decide +kernel
theorem dL_isShown_319 : decode cL_isShown 319 = .ok (.iload 13, 2) := by decide +kernel
theorem dL_isShown_321 : decode cL_isShown 321 = .ok (.iaload, 1) := by decide +kernel
theorem dL_isShown_322 : decode cL_isShown 322 = .ok (.if_icmp .eq 5, 3) := by decide +kernel
theorem dL_isShown_325 : decode cL_isShown 325 = .ok (.iconst 0, 1) := by decide +kernel
theorem dL_isShown_326 : decode cL_isShown 326 = .ok (.ireturn, 1) := by decide +kernel
theorem dL_isShown_327 : decode cL_isShown 327 = .ok (.iinc 13 1, 3) := by decide +kernel
theorem dL_isShown_330 : decode cL_isShown 330 = .ok (.goto (-45), 3) := by decide +kernel
theorem dL_isShown_333 : decode cL_isShown 333 = .ok (.iload 12, 2) := by decide +kernel
theorem dL_isShown_335 : decode cL_isShown 335 = .ok (.iload 4, 2) := by decide +kernel
theorem dL_isShown_337 : decode cL_isShown 337 = .ok (.iconst 1, 1) := by decide +kernel
theorem dL_isShown_338 : decode cL_isShown 338 = .ok (.isub, 1) := by decide +kernel
theorem dL_isShown_339 : decode cL_isShown 339 = .ok (.if_icmp .ne 6, 3) := by decide +kernel
theorem dL_isShown_342 : decode cL_isShown 342 = .ok (.goto 68, 3) := by decide +kernel
theorem dL_isShown_345 : decode cL_isShown 345 = .ok (.iload_n 2, 1) := by decide +kernel
theorem dL_isShown_346 : decode cL_isShown 346 = .ok (.newarray .int, 2) := by decide +kernel
theorem dL_isShown_348 : decode cL_isShown 348 = .ok (.astore 13, 2) := by decide +kernel
theorem dL_isShown_350 : decode cL_isShown 350 = .ok (.iconst 0, 1) := by decide +kernel
theorem dL_isShown_351 : decode cL_isShown 351 = .ok (.istore 14, 2) := by decide +kernel
theorem dL_isShown_353 : decode cL_isShown 353 = .ok (.iload 14, 2) := by decide +kernel
theorem dL_isShown_355 : decode cL_isShown 355 = .ok (.iload_n 2, 1) := by decide +kernel
theorem dL_isShown_356 : decode cL_isShown 356 = .ok (.if_icmp .ge 40, 3) := by decide +kernel
theorem dL_isShown_359 : decode cL_isShown 359 = .ok (.aload 13, 2) := by decide +kernel
theorem dL_isShown_361 : decode cL_isShown 361 = .ok (.iload 14, 2) := by decide +kernel
theorem dL_isShown_363 : decode cL_isShown 363 = .ok (.iload 11, 2) := by decide +kernel
theorem dL_isShown_365 : decode cL_isShown 365 = .ok (.iload 14, 2) := by decide +kernel
theorem dL_isShown_367 : decode cL_isShown 367 = .ok (.ishr, 1) := by decide +kernel
theorem dL_isShown_368 : decode cL_isShown 368 = .ok (.iconst 1, 1) := by decide +kernel
theorem dL_isShown_369 : decode cL_isShown 369 = .ok (.iand, 1) := by decide +kernel
theorem dL_isShown_370 : decode cL_isShown 370 = .ok (.iconst 1, 1) := by decide +kernel
theorem dL_isShown_371 : decode cL_isShown 371 = .ok (.if_icmp .ne 13, 3) := by decide +kernel
theorem dL_isShown_374 : decode cL_isShown 374 = .ok (.aload_n 0, 1) := by decide +kernel
theorem dL_isShown_375 : decode cL_isShown 375 = .ok (.iload 14, 2) := by decide +kernel
theorem dL_isShown_377 : decode cL_isShown 377 = .ok (.iconst 0, 1) := by decide +kernel
theorem dL_isShown_378 : decode cL_isShown 378 = .ok (.invokevirtual 78, 3) := by decide +kernel
theorem dL_isShown_381 : decode cL_isShown 381 = .ok (.goto 8, 3) := by decide +kernel
theorem dL_isShown_384 : decode cL_isShown 384 = .ok (.aload 9, 2) := by decide +kernel
theorem dL_isShown_386 : decode cL_isShown 386 = .ok (.iload 14, 2) := by decide +kernel
theorem dL_isShown_388 : decode cL_isShown 388 = .ok (.iaload, 1) := by decide +kernel
theorem dL_isShown_389 : decode cL_isShown 389 = .ok (.iastore, 1) := by decide +kernel
theorem dL_isShown_390 : decode cL_isShown 390 = .ok (.iinc 14 1, 3) := by decide +kernel
theorem dL_isShown_393 : decode cL_isShown 393 = .ok (.goto (-40), 3) := by decide +kernel
theorem dL_isShown_396 : decode cL_isShown 396 = .ok (.aload_n 0, 1) := by decide +kernel
theorem dL_isShown_397 : decode cL_isShown 397 = .ok (.aload 13, 2) := by decide +kernel
theorem dL_isShown_399 : decode cL_isShown 399 = .ok (.aload 10, 2) := by decide +kernel
theorem dL_isShown_401 : decode cL_isShown 401 = .ok (.aload_n 3, 1) := by decide +kernel
theorem dL_isShown_402 : decode cL_isShown 402 = .ok (.invokestatic 84, 3) := by decide +kernel
theorem dL_isShown_405 : decode cL_isShown 405 = .ok (.ifCond .ne 5, 3) := by decide +kernel
theorem dL_isShown_408 : decode cL_isShown 408 = .ok (.iconst 0, 1) := by decide +kernel
theorem dL_isShown_409 : decode cL_isShown 409 = .ok (.ireturn, 1) := by decide +kernel
theorem dL_isShown_410 : decode cL_isShown 410 = .ok (.iinc 12 1, 3) := by decide +kernel
theorem dL_isShown_413 : decode cL_isShown 413 = .ok (.goto (-169), 3) := by decide +kernel
theorem dL_isShown_416 : decode cL_isShown 416 = .ok (.iconst 1, 1) := by decide +kernel
theorem dL_isShown_417 : decode cL_isShown 417 = .ok (.ireturn, 1) := by decide +kernel
theorem dL_isRight_0 : decode cL_isRight 0 = .ok (.new 9, 3) := by decide +kernel
theorem dL_isRight_3 : decode cL_isRight 3 = .ok (.dup, 1) := by decide +kernel
theorem dL_isRight_4 : decode cL_isRight 4 = .ok (.invokespecial 11, 3) := by decide +kernel
theorem dL_isRight_7 : decode cL_isRight 7 = .ok (.astore 4, 2) := by decide +kernel
theorem dL_isRight_9 : decode cL_isRight 9 = .ok (.aload 4, 2) := by decide +kernel
theorem dL_isRight_11 : decode cL_isRight 11 = .ok (.aload_n 1, 1) := by decide +kernel
theorem dL_isRight_12 : decode cL_isRight 12 = .ok (.arraylength, 1) := by decide +kernel
theorem dL_isRight_13 : decode cL_isRight 13 = .ok (.invokevirtual 22, 3) := by decide +kernel
theorem dL_isRight_16 : decode cL_isRight 16 = .ok (.pop, 1) := by decide +kernel
theorem dL_isRight_17 : decode cL_isRight 17 = .ok (.iconst 0, 1) := by decide +kernel
theorem dL_isRight_18 : decode cL_isRight 18 = .ok (.istore 5, 2) := by decide +kernel
theorem dL_isRight_20 : decode cL_isRight 20 = .ok (.iload 5, 2) := by decide +kernel
theorem dL_isRight_22 : decode cL_isRight 22 = .ok (.aload_n 1, 1) := by decide +kernel
theorem dL_isRight_23 : decode cL_isRight 23 = .ok (.arraylength, 1) := by decide +kernel
theorem dL_isRight_24 : decode cL_isRight 24 = .ok (.if_icmp .ge 43, 3) := by decide +kernel
theorem dL_isRight_27 : decode cL_isRight 27 = .ok (.iconst 0, 1) := by decide +kernel
theorem dL_isRight_28 : decode cL_isRight 28 = .ok (.istore 6, 2) := by decide +kernel
theorem dL_isRight_30 : decode cL_isRight 30 = .ok (.iload 6, 2) := by decide +kernel
theorem dL_isRight_32 : decode cL_isRight 32 = .ok (.iconst 5, 1) := by decide +kernel
theorem dL_isRight_33 : decode cL_isRight 33 = .ok (.if_icmp .ge 28, 3) := by decide +kernel
theorem dL_isRight_36 : decode cL_isRight 36 = .ok (.aload 4, 2) := by decide +kernel
theorem dL_isRight_38 : decode cL_isRight 38 = .ok (.iload 5, 2) := by decide +kernel
theorem dL_isRight_40 : decode cL_isRight 40 = .ok (.iload 6, 2) := by decide +kernel
theorem dL_isRight_42 : decode cL_isRight 42 = .ok (.aload_n 1, 1) := by decide +kernel
theorem dL_isRight_43 : decode cL_isRight 43 = .ok (.iload 5, 2) := by decide +kernel
theorem dL_isRight_45 : decode cL_isRight 45 = .ok (.iaload, 1) := by decide +kernel
theorem dL_isRight_46 : decode cL_isRight 46 = .ok (.iload 6, 2) := by decide +kernel
theorem dL_isRight_48 : decode cL_isRight 48 = .ok (.ishr, 1) := by decide +kernel
theorem dL_isRight_49 : decode cL_isRight 49 = .ok (.iconst 1, 1) := by decide +kernel
theorem dL_isRight_50 : decode cL_isRight 50 = .ok (.iand, 1) := by decide +kernel
theorem dL_isRight_51 : decode cL_isRight 51 = .ok (.invokevirtual 40, 3) := by decide +kernel
theorem dL_isRight_54 : decode cL_isRight 54 = .ok (.pop, 1) := by decide +kernel
theorem dL_isRight_55 : decode cL_isRight 55 = .ok (.iinc 6 1, 3) := by decide +kernel
theorem dL_isRight_58 : decode cL_isRight 58 = .ok (.goto (-28), 3) := by decide +kernel
theorem dL_isRight_61 : decode cL_isRight 61 = .ok (.iinc 5 1, 3) := by decide +kernel
theorem dL_isRight_64 : decode cL_isRight 64 = .ok (.goto (-44), 3) := by decide +kernel
theorem dL_isRight_67 : decode cL_isRight 67 = .ok (.iconst 0, 1) := by decide +kernel
theorem dL_isRight_68 : decode cL_isRight 68 = .ok (.istore 5, 2) := by decide +kernel
theorem dL_isRight_70 : decode cL_isRight 70 = .ok (.iload 5, 2) := by decide +kernel
theorem dL_isRight_72 : decode cL_isRight 72 = .ok (.iconst 3, 1) := by decide +kernel
theorem dL_isRight_73 : decode cL_isRight 73 = .ok (.if_icmp .ge 22, 3) := by decide +kernel
theorem dL_isRight_76 : decode cL_isRight 76 = .ok (.aload 4, 2) := by decide +kernel
theorem dL_isRight_78 : decode cL_isRight 78 = .ok (.iconst 1, 1) := by decide +kernel
theorem dL_isRight_79 : decode cL_isRight 79 = .ok (.aload_n 3, 1) := by decide +kernel
theorem dL_isRight_80 : decode cL_isRight 80 = .ok (.iload 5, 2) := by decide +kernel
theorem dL_isRight_82 : decode cL_isRight 82 = .ok (.iaload, 1) := by decide +kernel
theorem dL_isRight_83 : decode cL_isRight 83 = .ok (.iconst 0, 1) := by decide +kernel
theorem dL_isRight_84 : decode cL_isRight 84 = .ok (.iconst 0, 1) := by decide +kernel
theorem dL_isRight_85 : decode cL_isRight 85 = .ok (.invokevirtual 26, 3) := by decide +kernel
theorem dL_isRight_88 : decode cL_isRight 88 = .ok (.pop, 1) := by decide +kernel
theorem dL_isRight_89 : decode cL_isRight 89 = .ok (.iinc 5 1, 3) := by decide +kernel
theorem dL_isRight_92 : decode cL_isRight 92 = .ok (.goto (-22), 3) := by decide +kernel
theorem dL_isRight_95 : decode cL_isRight 95 = .ok (.iconst 0, 1) := by decide +kernel
theorem dL_isRight_96 : decode cL_isRight 96 = .ok (.istore 5, 2) := by decide +kernel
theorem dL_isRight_98 : decode cL_isRight 98 = .ok (.iload 5, 2) := by decide +kernel
theorem dL_isRight_100 : decode cL_isRight 100 = .ok (.aload_n 2, 1) := by decide +kernel
theorem dL_isRight_101 : decode cL_isRight 101 = .ok (.arraylength, 1) := by decide +kernel
theorem dL_isRight_102 : decode cL_isRight 102 = .ok (.if_icmp .ge 47, 3) := by decide +kernel
theorem dL_isRight_105 : decode cL_isRight 105 = .ok (.aload 4, 2) := by decide +kernel
theorem dL_isRight_107 : decode cL_isRight 107 = .ok (.aload_n 0, 1) := by decide +kernel
theorem dL_isRight_108 : decode cL_isRight 108 = .ok (.iload 5, 2) := by decide +kernel
theorem dL_isRight_110 : decode cL_isRight 110 = .ok (.iconst 0, 1) := by decide +kernel
theorem dL_isRight_111 : decode cL_isRight 111 = .ok (.invokevirtual 67, 3) := by decide +kernel
theorem dL_isRight_114 : decode cL_isRight 114 = .ok (.invokevirtual 63, 3) := by decide +kernel
theorem dL_isRight_117 : decode cL_isRight 117 = .ok (.iload 5, 2) := by decide +kernel
theorem dL_isRight_119 : decode cL_isRight 119 = .ok (.if_icmp .ne 22, 3) := by decide +kernel
theorem dL_isRight_122 : decode cL_isRight 122 = .ok (.aload_n 2, 1) := by decide +kernel
theorem dL_isRight_123 : decode cL_isRight 123 = .ok (.iload 5, 2) := by decide +kernel
theorem dL_isRight_125 : decode cL_isRight 125 = .ok (.baload, 1) := by decide +kernel
theorem dL_isRight_126 : decode cL_isRight 126 = .ok (.ifCond .ne 17, 3) := by decide +kernel
theorem dL_isRight_129 : decode cL_isRight 129 = .ok (.aload 4, 2) := by decide +kernel
theorem dL_isRight_131 : decode cL_isRight 131 = .ok (.iload 5, 2) := by decide +kernel
theorem dL_isRight_133 : decode cL_isRight 133 = .ok (.iconst 5, 1) := by decide +kernel
theorem dL_isRight_134 : decode cL_isRight 134 = .ok (.invokevirtual 67, 3) := by decide +kernel
theorem dL_isRight_137 : decode cL_isRight 137 = .ok (.iconst 1, 1) := by decide +kernel
theorem dL_isRight_138 : decode cL_isRight 138 = .ok (.if_icmp .ne 5, 3) := by decide +kernel
theorem dL_isRight_141 : decode cL_isRight 141 = .ok (.iconst 0, 1) := by decide +kernel
theorem dL_isRight_142 : decode cL_isRight 142 = .ok (.ireturn, 1) := by decide +kernel
theorem dL_isRight_143 : decode cL_isRight 143 = .ok (.iinc 5 1, 3) := by decide +kernel
theorem dL_isRight_146 : decode cL_isRight 146 = .ok (.goto (-48), 3) := by decide +kernel
theorem dL_isRight_149 : decode cL_isRight 149 = .ok (.iconst 1, 1) := by decide +kernel
theorem dL_isRight_150 : decode cL_isRight 150 = .ok (.ireturn, 1) := by decide +kernel
theorem dL_isWell_0 : decode cL_isWell 0 = .ok (.aload_n 0, 1) := by decide +kernel
theorem dL_isWell_1 : decode cL_isWell 1 = .ok (.iconst 5, 1) := by decide +kernel
theorem dL_isWell_2 : decode cL_isWell 2 = .ok (.invokevirtual 34, 3) := by decide +kernel
theorem dL_isWell_5 : decode cL_isWell 5 = .ok (.istore_n 2, 1) := by decide +kernel
theorem dL_isWell_6 : decode cL_isWell 6 = .ok (.iconst 0, 1) := by decide +kernel
theorem dL_isWell_7 : decode cL_isWell 7 = .ok (.istore_n 3, 1) := by decide +kernel
theorem dL_isWell_8 : decode cL_isWell 8 = .ok (.iload_n 3, 1) := by decide +kernel
theorem dL_isWell_9 : decode cL_isWell 9 = .ok (.aload_n 0, 1) := by decide +kernel
theorem dL_isWell_10 : decode cL_isWell 10 = .ok (.iconst 4, 1) := by decide +kernel
theorem dL_isWell_11 : decode cL_isWell 11 = .ok (.invokevirtual 34, 3) := by decide +kernel
theorem dL_isWell_14 : decode cL_isWell 14 = .ok (.if_icmp .ge 90, 3) := by decide +kernel
theorem dL_isWell_17 : decode cL_isWell 17 = .ok (.aload_n 0, 1) := by decide +kernel
theorem dL_isWell_18 : decode cL_isWell 18 = .ok (.iload_n 3, 1) := by decide +kernel
theorem dL_isWell_19 : decode cL_isWell 19 = .ok (.iconst 4, 1) := by decide +kernel
theorem dL_isWell_20 : decode cL_isWell 20 = .ok (.invokevirtual 67, 3) := by decide +kernel
theorem dL_isWell_23 : decode cL_isWell 23 = .ok (.istore 4, 2) := by decide +kernel
theorem dL_isWell_25 : decode cL_isWell 25 = .ok (.iload 4, 2) := by decide +kernel
theorem dL_isWell_27 : decode cL_isWell 27 = .ok (.ifCond .ne 7, 3) := by decide +kernel
theorem dL_isWell_30 : decode cL_isWell 30 = .ok (.iconst 1, 1) := by decide +kernel
theorem dL_isWell_31 : decode cL_isWell 31 = .ok (.goto 4, 3) := by decide +kernel
theorem dL_isWell_34 : decode cL_isWell 34 = .ok (.iconst 0, 1) := by decide +kernel
theorem dL_isWell_35 : decode cL_isWell 35 = .ok (.aload_n 0, 1) := by decide +kernel
theorem dL_isWell_36 : decode cL_isWell 36 = .ok (.iload_n 3, 1) := by decide +kernel
theorem dL_isWell_37 : decode cL_isWell 37 = .ok (.iconst 5, 1) := by decide +kernel
theorem dL_isWell_38 : decode cL_isWell 38 = .ok (.invokevirtual 67, 3) := by decide +kernel
theorem dL_isWell_41 : decode cL_isWell 41 = .ok (.iconst 1, 1) := by decide +kernel
theorem dL_isWell_42 : decode cL_isWell 42 = .ok (.if_icmp .ne 7, 3) := by decide +kernel
theorem dL_isWell_45 : decode cL_isWell 45 = .ok (.iconst 1, 1) := by decide +kernel
theorem dL_isWell_46 : decode cL_isWell 46 = .ok (.goto 4, 3) := by decide +kernel
theorem dL_isWell_49 : decode cL_isWell 49 = .ok (.iconst 0, 1) := by decide +kernel
theorem dL_isWell_50 : decode cL_isWell 50 = .ok (.if_icmp .ne 46, 3) := by decide +kernel
theorem dL_isWell_53 : decode cL_isWell 53 = .ok (.iload_n 2, 1) := by decide +kernel
theorem dL_isWell_54 : decode cL_isWell 54 = .ok (.ifCond .lt 24, 3) := by decide +kernel
theorem dL_isWell_57 : decode cL_isWell 57 = .ok (.iload_n 3, 1) := by decide +kernel
theorem dL_isWell_58 : decode cL_isWell 58 = .ok (.iload_n 2, 1) := by decide +kernel
theorem dL_isWell_59 : decode cL_isWell 59 = .ok (.if_icmp .eq 19, 3) := by decide +kernel
theorem dL_isWell_62 : decode cL_isWell 62 = .ok (.iload 4, 2) := by decide +kernel
theorem dL_isWell_64 : decode cL_isWell 64 = .ok (.ifCond .lt 14, 3) := by decide +kernel
theorem dL_isWell_67 : decode cL_isWell 67 = .ok (.iload 4, 2) := by decide +kernel
theorem dL_isWell_69 : decode cL_isWell 69 = .ok (.aload_n 0, 1) := by decide +kernel
theorem dL_isWell_70 : decode cL_isWell 70 = .ok (.iload_n 2, 1) := by decide +kernel
theorem dL_isWell_71 : decode cL_isWell 71 = .ok (.iconst 4, 1) := by decide +kernel
theorem dL_isWell_72 : decode cL_isWell 72 = .ok (.invokevirtual 67, 3) := by decide +kernel
theorem dL_isWell_75 : decode cL_isWell 75 = .ok (.if_icmp .le 21, 3) := by decide +kernel
theorem dL_isWell_78 : decode cL_isWell 78 = .ok (.iload_n 2, 1) := by decide +kernel
theorem dL_isWell_79 : decode cL_isWell 79 = .ok (.ifCond .lt 19, 3) := by decide +kernel
theorem dL_isWell_82 : decode cL_isWell 82 = .ok (.aload_n 0, 1) := by decide +kernel
theorem dL_isWell_83 : decode cL_isWell 83 = .ok (.iload_n 2, 1) := by decide +kernel
theorem dL_isWell_84 : decode cL_isWell 84 = .ok (.iconst 4, 1) := by decide +kernel
theorem dL_isWell_85 : decode cL_isWell 85 = .ok (.invokevirtual 67, 3) := by decide +kernel
theorem dL_isWell_88 : decode cL_isWell 88 = .ok (.aload_n 0, 1) := by decide +kernel
theorem dL_isWell_89 : decode cL_isWell 89 = .ok (.iconst 2, 1) := by decide +kernel
theorem dL_isWell_90 : decode cL_isWell 90 = .ok (.invokevirtual 34, 3) := by decide +kernel
theorem dL_isWell_93 : decode cL_isWell 93 = .ok (.if_icmp .le 5, 3) := by decide +kernel
theorem dL_isWell_96 : decode cL_isWell 96 = .ok (.iconst 0, 1) := by decide +kernel
theorem dL_isWell_97 : decode cL_isWell 97 = .ok (.ireturn, 1) := by decide +kernel
theorem dL_isWell_98 : decode cL_isWell 98 = .ok (.iinc 3 1, 3) := by decide +kernel
theorem dL_isWell_101 : decode cL_isWell 101 = .ok (.goto (-93), 3) := by decide +kernel
theorem dL_isWell_104 : decode cL_isWell 104 = .ok (.iconst 0, 1) := by decide +kernel
theorem dL_isWell_105 : decode cL_isWell 105 = .ok (.istore_n 3, 1) := by decide +kernel
theorem dL_isWell_106 : decode cL_isWell 106 = .ok (.iload_n 3, 1) := by decide +kernel
theorem dL_isWell_107 : decode cL_isWell 107 = .ok (.iload_n 1, 1) := by decide +kernel
theorem dL_isWell_108 : decode cL_isWell 108 = .ok (.if_icmp .ge 53, 3) := by decide +kernel
theorem dL_isWell_111 : decode cL_isWell 111 = .ok (.iconst 0, 1) := by decide +kernel
theorem dL_isWell_112 : decode cL_isWell 112 = .ok (.istore 4, 2) := by decide +kernel
theorem dL_isWell_114 : decode cL_isWell 114 = .ok (.iconst 0, 1) := by decide +kernel
theorem dL_isWell_115 : decode cL_isWell 115 = .ok (.istore 5, 2) := by decide +kernel
theorem dL_isWell_117 : decode cL_isWell 117 = .ok (.iload 5, 2) := by decide +kernel
theorem dL_isWell_119 : decode cL_isWell 119 = .ok (.iconst 5, 1) := by decide +kernel
theorem dL_isWell_120 : decode cL_isWell 120 = .ok (.if_icmp .ge 22, 3) := by decide +kernel
theorem dL_isWell_123 : decode cL_isWell 123 = .ok (.iload 4, 2) := by decide +kernel
theorem dL_isWell_125 : decode cL_isWell 125 = .ok (.aload_n 0, 1) := by decide +kernel
theorem dL_isWell_126 : decode cL_isWell 126 = .ok (.iload_n 3, 1) := by decide +kernel
theorem dL_isWell_127 : decode cL_isWell 127 = .ok (.iload 5, 2) := by decide +kernel
theorem dL_isWell_129 : decode cL_isWell 129 = .ok (.iconst 1, 1) := by decide +kernel
theorem dL_isWell_130 : decode cL_isWell 130 = .ok (.invokevirtual 88, 3) := by decide +kernel
theorem dL_isWell_133 : decode cL_isWell 133 = .ok (.iadd, 1) := by decide +kernel
theorem dL_isWell_134 : decode cL_isWell 134 = .ok (.istore 4, 2) := by decide +kernel
theorem dL_isWell_136 : decode cL_isWell 136 = .ok (.iinc 5 1, 3) := by decide +kernel
theorem dL_isWell_139 : decode cL_isWell 139 = .ok (.goto (-22), 3) := by decide +kernel
theorem dL_isWell_142 : decode cL_isWell 142 = .ok (.aload_n 0, 1) := by decide +kernel
theorem dL_isWell_143 : decode cL_isWell 143 = .ok (.iload_n 3, 1) := by decide +kernel
theorem dL_isWell_144 : decode cL_isWell 144 = .ok (.iconst 1, 1) := by decide +kernel
theorem dL_isWell_145 : decode cL_isWell 145 = .ok (.invokevirtual 78, 3) := by decide +kernel
theorem dL_isWell_148 : decode cL_isWell 148 = .ok (.iload 4, 2) := by decide +kernel
theorem dL_isWell_150 : decode cL_isWell 150 = .ok (.if_icmp .le 5, 3) := by decide +kernel
theorem dL_isWell_153 : decode cL_isWell 153 = .ok (.iconst 0, 1) := by decide +kernel
theorem dL_isWell_154 : decode cL_isWell 154 = .ok (.ireturn, 1) := by decide +kernel
theorem dL_isWell_155 : decode cL_isWell 155 = .ok (.iinc 3 1, 3) := by decide +kernel
theorem dL_isWell_158 : decode cL_isWell 158 = .ok (.goto (-52), 3) := by decide +kernel
theorem dL_isWell_161 : decode cL_isWell 161 = .ok (.aload_n 0, 1) := by decide +kernel
theorem dL_isWell_162 : decode cL_isWell 162 = .ok (.invokevirtual 59, 3) := by decide +kernel
theorem dL_isWell_165 : decode cL_isWell 165 = .ok (.ireturn, 1) := by decide +kernel
abbrev vwCl : List vw_C := [(RX0, TX0, 6), (RX1, TX1, 7), (RX2, TX2, 8), (RX3, TX3, 5), (RX4, TX4, 5), (RX5, TX5, 9)]
