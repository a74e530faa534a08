theorem dX7_whole_77 : decode cX7_whole 77 = .ok (.istore 8, 2) := by decide +kernel
theorem dX7_whole_79 : decode cX7_whole 79 = .ok (.iload_n 3, 1) := by decide +kernel
theorem dX7_whole_80 : decode cX7_whole 80 = .ok (.ifCond .ge 40, 3) := by decide +kernel
theorem dX7_whole_83 : decode cX7_whole 83 = .ok (.iload_n 2, 1) := by decide +kernel
theorem dX7_whole_84 : decode cX7_whole 84 = .ok (.iconst 2, 1) := by decide +kernel
theorem dX7_whole_85 : decode cX7_whole 85 = .ok (.if_icmp .ne 19, 3) := by decide +kernel
theorem dX7_whole_88 : decode cX7_whole 88 = .ok (.lload 6, 2) := by decide +kernel
theorem dX7_whole_90 : decode cX7_whole 90 = .ok (.ldc2_w 85, 3) := by decide +kernel
theorem dX7_whole_93 : decode cX7_whole 93 = .ok (.lcmp, 1) := by decide +kernel
theorem dX7_whole_94 : decode cX7_whole 94 = .ok (.ifCond .le 7, 3) := by decide +kernel
theorem dX7_whole_97 : decode cX7_whole 97 = .ok (.iconst 1, 1) := by decide +kernel
theorem dX7_whole_98 : decode cX7_whole 98 = .ok (.goto 4, 3) := by decide +kernel
theorem dX7_whole_101 : decode cX7_whole 101 = .ok (.iconst 0, 1) := by decide +kernel
theorem dX7_whole_102 : decode cX7_whole 102 = .ok (.istore 8, 2) := by decide +kernel
theorem dX7_whole_104 : decode cX7_whole 104 = .ok (.lload 4, 2) := by decide +kernel
theorem dX7_whole_106 : decode cX7_whole 106 = .ok (.iload 8, 2) := by decide +kernel
theorem dX7_whole_108 : decode cX7_whole 108 = .ok (.ifCond .eq 9, 3) := by decide +kernel
theorem dX7_whole_111 : decode cX7_whole 111 = .ok (.ldc2_w 28, 3) := by decide +kernel
theorem dX7_whole_114 : decode cX7_whole 114 = .ok (.goto 4, 3) := by decide +kernel
theorem dX7_whole_117 : decode cX7_whole 117 = .ok (.lconst 0, 1) := by decide +kernel
theorem dX7_whole_118 : decode cX7_whole 118 = .ok (.lor, 1) := by decide +kernel
theorem dX7_whole_119 : decode cX7_whole 119 = .ok (.lreturn, 1) := by decide +kernel
theorem dX7_whole_120 : decode cX7_whole 120 = .ok (.lconst 1, 1) := by decide +kernel
theorem dX7_whole_121 : decode cX7_whole 121 = .ok (.bipush 52, 2) := by decide +kernel
theorem dX7_whole_123 : decode cX7_whole 123 = .ok (.iload_n 3, 1) := by decide +kernel
theorem dX7_whole_124 : decode cX7_whole 124 = .ok (.isub, 1) := by decide +kernel
theorem dX7_whole_125 : decode cX7_whole 125 = .ok (.lshl, 1) := by decide +kernel
theorem dX7_whole_126 : decode cX7_whole 126 = .ok (.lstore 9, 2) := by decide +kernel
theorem dX7_whole_128 : decode cX7_whole 128 = .ok (.lload 6, 2) := by decide +kernel
theorem dX7_whole_130 : decode cX7_whole 130 = .ok (.lload 9, 2) := by decide +kernel
theorem dX7_whole_132 : decode cX7_whole 132 = .ok (.lconst 1, 1) := by decide +kernel
theorem dX7_whole_133 : decode cX7_whole 133 = .ok (.lsub, 1) := by decide +kernel
theorem dX7_whole_134 : decode cX7_whole 134 = .ok (.land, 1) := by decide +kernel
theorem dX7_whole_135 : decode cX7_whole 135 = .ok (.lstore 11, 2) := by decide +kernel
theorem dX7_whole_137 : decode cX7_whole 137 = .ok (.lload 6, 2) := by decide +kernel
theorem dX7_whole_139 : decode cX7_whole 139 = .ok (.lload 11, 2) := by decide +kernel
theorem dX7_whole_141 : decode cX7_whole 141 = .ok (.lsub, 1) := by decide +kernel
theorem dX7_whole_142 : decode cX7_whole 142 = .ok (.lstore 13, 2) := by decide +kernel
theorem dX7_whole_144 : decode cX7_whole 144 = .ok (.lload 11, 2) := by decide +kernel
theorem dX7_whole_146 : decode cX7_whole 146 = .ok (.lconst 0, 1) := by decide +kernel
theorem dX7_whole_147 : decode cX7_whole 147 = .ok (.lcmp, 1) := by decide +kernel
theorem dX7_whole_148 : decode cX7_whole 148 = .ok (.ifCond .ne 5, 3) := by decide +kernel
theorem dX7_whole_151 : decode cX7_whole 151 = .ok (.lload_n 0, 1) := by decide +kernel
theorem dX7_whole_152 : decode cX7_whole 152 = .ok (.lreturn, 1) := by decide +kernel
theorem dX7_whole_153 : decode cX7_whole 153 = .ok (.iload_n 2, 1) := by decide +kernel
theorem dX7_whole_154 : decode cX7_whole 154 = .ok (.iconst 2, 1) := by decide +kernel
theorem dX7_whole_155 : decode cX7_whole 155 = .ok (.if_icmp .ne 43, 3) := by decide +kernel
theorem dX7_whole_158 : decode cX7_whole 158 = .ok (.lload 11, 2) := by decide +kernel
theorem dX7_whole_160 : decode cX7_whole 160 = .ok (.lload 9, 2) := by decide +kernel
theorem dX7_whole_162 : decode cX7_whole 162 = .ok (.ldc2_w 87, 3) := by decide +kernel
theorem dX7_whole_165 : decode cX7_whole 165 = .ok (.ldiv, 1) := by decide +kernel
theorem dX7_whole_166 : decode cX7_whole 166 = .ok (.lcmp, 1) := by decide +kernel
theorem dX7_whole_167 : decode cX7_whole 167 = .ok (.ifCond .gt 24, 3) := by decide +kernel
theorem dX7_whole_170 : decode cX7_whole 170 = .ok (.lload 11, 2) := by decide +kernel
theorem dX7_whole_172 : decode cX7_whole 172 = .ok (.lload 9, 2) := by decide +kernel
theorem dX7_whole_174 : decode cX7_whole 174 = .ok (.ldc2_w 87, 3) := by decide +kernel
theorem dX7_whole_177 : decode cX7_whole 177 = .ok (.ldiv, 1) := by decide +kernel
theorem dX7_whole_178 : decode cX7_whole 178 = .ok (.lcmp, 1) := by decide +kernel
theorem dX7_whole_179 : decode cX7_whole 179 = .ok (.ifCond .ne 16, 3) := by decide +kernel
theorem dX7_whole_182 : decode cX7_whole 182 = .ok (.lload 13, 2) := by decide +kernel
theorem dX7_whole_184 : decode cX7_whole 184 = .ok (.iload_n 3, 1) := by decide +kernel
theorem dX7_whole_185 : decode cX7_whole 185 = .ok (.invokestatic 89, 3) := by decide +kernel
theorem dX7_whole_188 : decode cX7_whole 188 = .ok (.ifCond .eq 7, 3) := by decide +kernel
theorem dX7_whole_191 : decode cX7_whole 191 = .ok (.iconst 1, 1) := by decide +kernel
theorem dX7_whole_192 : decode cX7_whole 192 = .ok (.goto 4, 3) := by decide +kernel
theorem dX7_whole_195 : decode cX7_whole 195 = .ok (.iconst 0, 1) := by decide +kernel
theorem dX7_whole_196 : decode cX7_whole 196 = .ok (.istore 8, 2) := by decide +kernel
theorem dX7_whole_198 : decode cX7_whole 198 = .ok (.lload 4, 2) := by decide +kernel
theorem dX7_whole_200 : decode cX7_whole 200 = .ok (.iload 8, 2) := by decide +kernel
theorem dX7_whole_202 : decode cX7_whole 202 = .ok (.ifCond .eq 11, 3) := by decide +kernel
theorem dX7_whole_205 : decode cX7_whole 205 = .ok (.lload 13, 2) := by decide +kernel
theorem dX7_whole_207 : decode cX7_whole 207 = .ok (.lload 9, 2) := by decide +kernel
theorem dX7_whole_209 : decode cX7_whole 209 = .ok (.ladd, 1) := by decide +kernel
theorem dX7_whole_210 : decode cX7_whole 210 = .ok (.goto 5, 3) := by decide +kernel
theorem dX7_whole_213 : decode cX7_whole 213 = .ok (.lload 13, 2) := by decide +kernel
theorem dX7_whole_215 : decode cX7_whole 215 = .ok (.lor, 1) := by decide +kernel
theorem dX7_whole_216 : decode cX7_whole 216 = .ok (.lreturn, 1) := by decide +kernel
theorem dX7_isOdd_0 : decode cX7_isOdd 0 = .ok (.iload_n 2, 1) := by decide +kernel
theorem dX7_isOdd_1 : decode cX7_isOdd 1 = .ok (.ifCond .eq 16, 3) := by decide +kernel
theorem dX7_isOdd_4 : decode cX7_isOdd 4 = .ok (.lload_n 0, 1) := by decide +kernel
theorem dX7_isOdd_5 : decode cX7_isOdd 5 = .ok (.bipush 52, 2) := by decide +kernel
theorem dX7_isOdd_7 : decode cX7_isOdd 7 = .ok (.iload_n 2, 1) := by decide +kernel
theorem dX7_isOdd_8 : decode cX7_isOdd 8 = .ok (.isub, 1) := by decide +kernel
theorem dX7_isOdd_9 : decode cX7_isOdd 9 = .ok (.lshr, 1) := by decide +kernel
theorem dX7_isOdd_10 : decode cX7_isOdd 10 = .ok (.lconst 1, 1) := by decide +kernel
theorem dX7_isOdd_11 : decode cX7_isOdd 11 = .ok (.land, 1) := by decide +kernel
theorem dX7_isOdd_12 : decode cX7_isOdd 12 = .ok (.lconst 1, 1) := by decide +kernel
theorem dX7_isOdd_13 : decode cX7_isOdd 13 = .ok (.lcmp, 1) := by decide +kernel
theorem dX7_isOdd_14 : decode cX7_isOdd 14 = .ok (.ifCond .ne 7, 3) := by decide +kernel
theorem dX7_isOdd_17 : decode cX7_isOdd 17 = .ok (.iconst 1, 1) := by decide +kernel
theorem dX7_isOdd_18 : decode cX7_isOdd 18 = .ok (.goto 4, 3) := by decide +kernel
theorem dX7_isOdd_21 : decode cX7_isOdd 21 = .ok (.iconst 0, 1) := by decide +kernel
theorem dX7_isOdd_22 : decode cX7_isOdd 22 = .ok (.ireturn, 1) := by decide +kernel
theorem dX7_whole32_0 : decode cX7_whole32 0 = .ok (.dload_n 0, 1) := by decide +kernel
theorem dX7_whole32_1 : decode cX7_whole32 1 = .ok (.ldc2_w 93, 3) := by decide +kernel
theorem dX7_whole32_4 : decode cX7_whole32 4 = .ok (.dcmp .l, 1) := by decide +kernel
theorem dX7_whole32_5 : decode cX7_whole32 5 = .ok (.ifCond .lt 8, 3) := by decide +kernel
theorem dX7_whole32_8 : decode cX7_whole32 8 = .ok (.ldc 95, 2) := by decide +kernel
theorem dX7_whole32_10 : decode cX7_whole32 10 = .ok (.goto 18, 3) := by decide +kernel
theorem dX7_whole32_13 : decode cX7_whole32 13 = .ok (.dload_n 0, 1) := by decide +kernel
theorem dX7_whole32_14 : decode cX7_whole32 14 = .ok (.ldc2_w 96, 3) := by decide +kernel
theorem dX7_whole32_17 : decode cX7_whole32 17 = .ok (.dcmp .g, 1) := by decide +kernel
theorem dX7_whole32_18 : decode cX7_whole32 18 = .ok (.ifCond .gt 8, 3) := by decide +kernel
theorem dX7_whole32_21 : decode cX7_whole32 21 = .ok (.ldc 98, 2) := by decide +kernel
theorem dX7_whole32_23 : decode cX7_whole32 23 = .ok (.goto 5, 3) := by decide +kernel
theorem dX7_whole32_26 : decode cX7_whole32 26 = .ok (.dload_n 0, 1) := by decide +kernel
theorem dX7_whole32_27 : decode cX7_whole32 27 = .ok (.d2i, 1) := by decide +kernel
theorem dX7_whole32_28 : decode cX7_whole32 28 = .ok (.ireturn, 1) := by decide +kernel
theorem dX7_of4_0 : decode cX7_of4 0 = .ok (.iload_n 0, 1) := by decide +kernel
theorem dX7_of4_1 : decode cX7_of4 1 = .ok (.invokestatic 99, 3) := by decide +kernel
theorem dX7_of4_4 : decode cX7_of4 4 = .ok (.freturn, 1) := by decide +kernel
set_option maxRecDepth 20000 in
theorem ggX7_bits4_Jxf58ca_floatToIntBits_5c35a : GoodIn wsX7_bits4 wsJxf58ca_floatToIntBits_5c35a := goodIn_r _ [4, 5, 6, 7, 8, 9, 10, 11, 3, 12] (by decide +kernel) (by decide +kernel)
set_option maxRecDepth 20000 in
theorem gX7_bits4_Jxf58ca_floatToIntBits_5c35a : GoodIn wsX7_bits4 (va_wsS RX7 105 yJxf58ca_floatToIntBits_5c35a wsJxf58ca_floatToIntBits_5c35a) := goodIn_app (goodIn_of _ (by decide +kernel)) ggX7_bits4_Jxf58ca_floatToIntBits_5c35a
theorem dX7_bits4_0 : decode cX7_bits4 0 = .ok (.fload_n 0, 1) := by decide +kernel
theorem dX7_bits4_1 : decode cX7_bits4 1 = .ok (.invokestatic 105, 3) := by decide +kernel
theorem dX7_bits4_4 : decode cX7_bits4 4 = .ok (.ireturn, 1) := by decide +kernel
theorem dX7_size4_0 : decode cX7_size4 0 = .ok (.iload_n 0, 1) := by decide +kernel
theorem dX7_size4_1 : decode cX7_size4 1 = .ok (.ldc 95, 2) := by decide +kernel
theorem dX7_size4_3 : decode cX7_size4 3 = .ok (.iand, 1) := by decide +kernel
theorem dX7_size4_4 : decode cX7_size4 4 = .ok (.ireturn, 1) := by decide +kernel
set_option maxRecDepth 20000 in
theorem ggX7_isNone4_X7_size4 : GoodIn wsX7_isNone4 wsX7_size4 := goodIn_r _ [5, 6] (by decide +kernel) (by decide +kernel)
set_option maxRecDepth 20000 in
theorem gX7_isNone4_X7_size4 : GoodIn wsX7_isNone4 (va_wsS RX7 109 yX7_size4 wsX7_size4) := goodIn_app (goodIn_of _ (by decide +kernel)) ggX7_isNone4_X7_size4
theorem dX7_isNone4_0 : decode cX7_isNone4 0 = .ok (.iload_n 0, 1) := by decide +kernel
theorem dX7_isNone4_1 : decode cX7_isNone4 1 = .ok (.invokestatic 109, 3) := by decide +kernel
theorem dX7_isNone4_4 : decode cX7_isNone4 4 = .ok (.ldc 38, 2) := by decide +kernel
theorem dX7_isNone4_6 : decode cX7_isNone4 6 = .ok (.if_icmp .le 7, 3) := by decide +kernel
theorem dX7_isNone4_9 : decode cX7_isNone4 9 = .ok (.iconst 1, 1) := by decide +kernel
theorem dX7_isNone4_10 : decode cX7_isNone4 10 = .ok (.goto 4, 3) := by decide +kernel
theorem dX7_isNone4_13 : decode cX7_isNone4 13 = .ok (.iconst 0, 1) := by decide +kernel
theorem dX7_isNone4_14 : decode cX7_isNone4 14 = .ok (.ireturn, 1) := by decide +kernel
set_option maxRecDepth 20000 in
theorem ggX7_isInfinite4_X7_size4 : GoodIn wsX7_isInfinite4 wsX7_size4 := goodIn_r _ [5, 6] (by decide +kernel) (by decide +kernel)
set_option maxRecDepth 20000 in
theorem gX7_isInfinite4_X7_size4 : GoodIn wsX7_isInfinite4 (va_wsS RX7 109 yX7_size4 wsX7_size4) := goodIn_app (goodIn_of _ (by decide +kernel)) ggX7_isInfinite4_X7_size4
theorem dX7_isInfinite4_0 : decode cX7_isInfinite4 0 = .ok (.iload_n 0, 1) := by decide +kernel
theorem dX7_isInfinite4_1 : decode cX7_isInfinite4 1 = .ok (.invokestatic 109, 3) := by decide +kernel
theorem dX7_isInfinite4_4 : decode cX7_isInfinite4 4 = .ok (.ldc 38, 2) := by decide +kernel
theorem dX7_isInfinite4_6 : decode cX7_isInfinite4 6 = .ok (.if_icmp .ne 7, 3) := by decide +kernel
theorem dX7_isInfinite4_9 : decode cX7_isInfinite4 9 = .ok (.iconst 1, 1) := by decide +kernel
theorem dX7_isInfinite4_10 : decode cX7_isInfinite4 10 = .ok (.goto 4, 3) := by decide +kernel
theorem dX7_isInfinite4_13 : decode cX7_isInfinite4 13 = .ok (.iconst 0, 1) := by decide +kernel
theorem dX7_isInfinite4_14 : decode cX7_isInfinite4 14 = .ok (.ireturn, 1) := by decide +kernel
set_option maxRecDepth 20000 in
theorem ggX7_order4_X7_size4 : GoodIn wsX7_order4 wsX7_size4 := goodIn_r _ [4, 5] (by decide +kernel) (by decide +kernel)
set_option maxRecDepth 20000 in
theorem gX7_order4_X7_size4 : GoodIn wsX7_order4 (va_wsS RX7 109 yX7_size4 wsX7_size4) := goodIn_app (goodIn_of _ (by decide +kernel)) ggX7_order4_X7_size4
theorem dX7_order4_0 : decode cX7_order4 0 = .ok (.iload_n 0, 1) := by decide +kernel
theorem dX7_order4_1 : decode cX7_order4 1 = .ok (.ifCond .ge 12, 3) := by decide +kernel
theorem dX7_order4_4 : decode cX7_order4 4 = .ok (.iconst (-1), 1) := by decide +kernel
theorem dX7_order4_5 : decode cX7_order4 5 = .ok (.iload_n 0, 1) := by decide +kernel
theorem dX7_order4_6 : decode cX7_order4 6 = .ok (.invokestatic 109, 3) := by decide +kernel
theorem dX7_order4_9 : decode cX7_order4 9 = .ok (.isub, 1) := by decide +kernel
theorem dX7_order4_10 : decode cX7_order4 10 = .ok (.goto 4, 3) := by decide +kernel
theorem dX7_order4_13 : decode cX7_order4 13 = .ok (.iload_n 0, 1) := by decide +kernel
theorem dX7_order4_14 : decode cX7_order4 14 = .ok (.ireturn, 1) := by decide +kernel
set_option maxRecDepth 20000 in
theorem ggX7_lesser4_X7_order4 : GoodIn wsX7_lesser4 wsX7_order4 := goodIn_r _ [4, 5, 6, 3, 7, 8] (by decide +kernel) (by decide +kernel)
set_option maxRecDepth 20000 in
theorem gX7_lesser4_X7_order4 : GoodIn wsX7_lesser4 (va_wsS RX7 113 yX7_order4 wsX7_order4) := goodIn_app (goodIn_of _ (by decide +kernel)) ggX7_lesser4_X7_order4
theorem dX7_lesser4_0 : decode cX7_lesser4 0 = .ok (.iload_n 0, 1) := by decide +kernel
theorem dX7_lesser4_1 : decode cX7_lesser4 1 = .ok (.invokestatic 113, 3) := by decide +kernel
theorem dX7_lesser4_4 : decode cX7_lesser4 4 = .ok (.iload_n 1, 1) := by decide +kernel
theorem dX7_lesser4_5 : decode cX7_lesser4 5 = .ok (.invokestatic 113, 3) := by decide +kernel
theorem dX7_lesser4_8 : decode cX7_lesser4 8 = .ok (.if_icmp .ge 7, 3) := by decide +kernel
theorem dX7_lesser4_11 : decode cX7_lesser4 11 = .ok (.iload_n 0, 1) := by decide +kernel
theorem dX7_lesser4_12 : decode cX7_lesser4 12 = .ok (.goto 4, 3) := by decide +kernel
theorem dX7_lesser4_15 : decode cX7_lesser4 15 = .ok (.iload_n 1, 1) := by decide +kernel
theorem dX7_lesser4_16 : decode cX7_lesser4 16 = .ok (.ireturn, 1) := by decide +kernel
set_option maxRecDepth 20000 in
theorem ggX7_greater4_X7_order4 : GoodIn wsX7_greater4 wsX7_order4 := goodIn_r _ [4, 5, 6, 3, 7, 8] (by decide +kernel) (by decide +kernel)
set_option maxRecDepth 20000 in
theorem gX7_greater4_X7_order4 : GoodIn wsX7_greater4 (va_wsS RX7 113 yX7_order4 wsX7_order4) := goodIn_app (goodIn_of _ (by decide +kernel)) ggX7_greater4_X7_order4
theorem dX7_greater4_0 : decode cX7_greater4 0 = .ok (.iload_n 0, 1) := by decide +kernel
theorem dX7_greater4_1 : decode cX7_greater4 1 = .ok (.invokestatic 113, 3) := by decide +kernel
theorem dX7_greater4_4 : decode cX7_greater4 4 = .ok (.iload_n 1, 1) := by decide +kernel
theorem dX7_greater4_5 : decode cX7_greater4 5 = .ok (.invokestatic 113, 3) := by decide +kernel
theorem dX7_greater4_8 : decode cX7_greater4 8 = .ok (.if_icmp .le 7, 3) := by decide +kernel
theorem dX7_greater4_11 : decode cX7_greater4 11 = .ok (.iload_n 0, 1) := by decide +kernel
theorem dX7_greater4_12 : decode cX7_greater4 12 = .ok (.goto 4, 3) := by decide +kernel
theorem dX7_greater4_15 : decode cX7_greater4 15 = .ok (.iload_n 1, 1) := by decide +kernel
theorem dX7_greater4_16 : decode cX7_greater4 16 = .ok (.ireturn, 1) := by decide +kernel
set_option maxRecDepth 20000 in
theorem ggX7_isBelow4_X7_order4 : GoodIn wsX7_isBelow4 wsX7_order4 := goodIn_r _ [4, 5, 6, 3, 7, 8] (by decide +kernel) (by decide +kernel)
set_option maxRecDepth 20000 in
theorem gX7_isBelow4_X7_order4 : GoodIn wsX7_isBelow4 (va_wsS RX7 113 yX7_order4 wsX7_order4) := goodIn_app (goodIn_of _ (by decide +kernel)) ggX7_isBelow4_X7_order4
set_option maxRecDepth 20000 in
theorem ggX7_isBelow4_X7_size4 : GoodIn wsX7_isBelow4 wsX7_size4 := goodIn_r _ [7, 8] (by decide +kernel) (by decide +kernel)
set_option maxRecDepth 20000 in
theorem gX7_isBelow4_X7_size4 : GoodIn wsX7_isBelow4 (va_wsS RX7 109 yX7_size4 wsX7_size4) := goodIn_app (goodIn_of _ (by decide +kernel)) ggX7_isBelow4_X7_size4
theorem dX7_isBelow4_0 : decode cX7_isBelow4 0 = .ok (.iload_n 0, 1) := by decide +kernel
theorem dX7_isBelow4_1 : decode cX7_isBelow4 1 = .ok (.invokestatic 113, 3) := by decide +kernel
theorem dX7_isBelow4_4 : decode cX7_isBelow4 4 = .ok (.iload_n 1, 1) := by decide +kernel
theorem dX7_isBelow4_5 : decode cX7_isBelow4 5 = .ok (.invokestatic 113, 3) := by decide +kernel
theorem dX7_isBelow4_8 : decode cX7_isBelow4 8 = .ok (.if_icmp .ge 21, 3) := by decide +kernel
theorem dX7_isBelow4_11 : decode cX7_isBelow4 11 = .ok (.iload_n 0, 1) := by decide +kernel
theorem dX7_isBelow4_12 : decode cX7_isBelow4 12 = .ok (.invokestatic 109, 3) := by decide +kernel
theorem dX7_isBelow4_15 : decode cX7_isBelow4 15 = .ok (.ifCond .ne 10, 3) := by decide +kernel
theorem dX7_isBelow4_18 : decode cX7_isBelow4 18 = .ok (.iload_n 1, 1) := by decide +kernel
theorem dX7_isBelow4_19 : decode cX7_isBelow4 19 = .ok (.invokestatic 109, 3) := by decide +kernel
theorem dX7_isBelow4_22 : decode cX7_isBelow4 22 = .ok (.ifCond .eq 7, 3) := by decide +kernel
theorem dX7_isBelow4_25 : decode cX7_isBelow4 25 = .ok (.iconst 1, 1) := by decide +kernel
theorem dX7_isBelow4_26 : decode cX7_isBelow4 26 = .ok (.goto 4, 3) := by decide +kernel
theorem dX7_isBelow4_29 : decode cX7_isBelow4 29 = .ok (.iconst 0, 1) := by decide +kernel
theorem dX7_isBelow4_30 : decode cX7_isBelow4 30 = .ok (.ireturn, 1) := by decide +kernel
set_option maxRecDepth 20000 in
theorem ggX7_whole4_X7_size4 : GoodIn wsX7_whole4 wsX7_size4 := goodIn_r _ [7, 8] (by decide +kernel) (by decide +kernel)
set_option maxRecDepth 20000 in
theorem gX7_whole4_X7_size4 : GoodIn wsX7_whole4 (va_wsS RX7 109 yX7_size4 wsX7_size4) := goodIn_app (goodIn_of _ (by decide +kernel)) ggX7_whole4_X7_size4
theorem dX7_whole4_0 : decode cX7_whole4 0 = .ok (.iload_n 0, 1) := by decide +kernel
theorem dX7_whole4_1 : decode cX7_whole4 1 = .ok (.invokestatic 109, 3) := by decide +kernel
theorem dX7_whole4_4 : decode cX7_whole4 4 = .ok (.bipush 23, 2) := by decide +kernel
theorem dX7_whole4_6 : decode cX7_whole4 6 = .ok (.ishr, 1) := by decide +kernel
theorem dX7_whole4_7 : decode cX7_whole4 7 = .ok (.bipush 127, 2) := by decide +kernel
theorem dX7_whole4_9 : decode cX7_whole4 9 = .ok (.isub, 1) := by decide +kernel
theorem dX7_whole4_10 : decode cX7_whole4 10 = .ok (.istore_n 2, 1) := by decide +kernel
theorem dX7_whole4_11 : decode cX7_whole4 11 = .ok (.iload_n 0, 1) := by decide +kernel
theorem dX7_whole4_12 : decode cX7_whole4 12 = .ok (.ldc 98, 2) := by decide +kernel
theorem dX7_whole4_14 : decode cX7_whole4 14 = .ok (.iand, 1) := by decide +kernel
theorem dX7_whole4_15 : decode cX7_whole4 15 = .ok (.istore_n 3, 1) := by decide +kernel
theorem dX7_whole4_16 : decode cX7_whole4 16 = .ok (.iload_n 0, 1) := by decide +kernel
theorem dX7_whole4_17 : decode cX7_whole4 17 = .ok (.invokestatic 109, 3) := by decide +kernel
theorem dX7_whole4_20 : decode cX7_whole4 20 = .ok (.istore 4, 2) := by decide +kernel
theorem dX7_whole4_22 : decode cX7_whole4 22 = .ok (.iload_n 2, 1) := by decide +kernel
theorem dX7_whole4_23 : decode cX7_whole4 23 = .ok (.bipush 23, 2) := by decide +kernel
theorem dX7_whole4_25 : decode cX7_whole4 25 = .ok (.if_icmp .ge 8, 3) := by decide +kernel
theorem dX7_whole4_28 : decode cX7_whole4 28 = .ok (.iload 4, 2) := by decide +kernel
theorem dX7_whole4_30 : decode cX7_whole4 30 = .ok (.ifCond .ne 5, 3) := by decide +kernel
theorem dX7_whole4_33 : decode cX7_whole4 33 = .ok (.iload_n 0, 1) := by decide +kernel
theorem dX7_whole4_34 : decode cX7_whole4 34 = .ok (.ireturn, 1) := by decide +kernel
theorem dX7_whole4_35 : decode cX7_whole4 35 = .ok (.iload_n 1, 1) := by decide +kernel
theorem dX7_whole4_36 : decode cX7_whole4 36 = .ok (.ifCond .ne 15, 3) := by decide +kernel
theorem dX7_whole4_39 : decode cX7_whole4 39 = .ok (.iload_n 3, 1) := by decide +kernel
theorem dX7_whole4_40 : decode cX7_whole4 40 = .ok (.ifCond .eq 7, 3) := by decide +kernel
theorem dX7_whole4_43 : decode cX7_whole4 43 = .ok (.iconst 1, 1) := by decide +kernel
theorem dX7_whole4_44 : decode cX7_whole4 44 = .ok (.goto 21, 3) := by decide +kernel
theorem dX7_whole4_47 : decode cX7_whole4 47 = .ok (.iconst 0, 1) := by decide +kernel
theorem dX7_whole4_48 : decode cX7_whole4 48 = .ok (.goto 17, 3) := by decide +kernel
theorem dX7_whole4_51 : decode cX7_whole4 51 = .ok (.iload_n 1, 1) := by decide +kernel
theorem dX7_whole4_52 : decode cX7_whole4 52 = .ok (.iconst 1, 1) := by decide +kernel
theorem dX7_whole4_53 : decode cX7_whole4 53 = .ok (.if_icmp .ne 11, 3) := by decide +kernel
theorem dX7_whole4_56 : decode cX7_whole4 56 = .ok (.iload_n 3, 1) := by decide +kernel
theorem dX7_whole4_57 : decode cX7_whole4 57 = .ok (.ifCond .ne 7, 3) := by decide +kernel
theorem dX7_whole4_60 : decode cX7_whole4 60 = .ok (.iconst 1, 1) := by decide +kernel
theorem dX7_whole4_61 : decode cX7_whole4 61 = .ok (.goto 4, 3) := by decide +kernel
theorem dX7_whole4_64 : decode cX7_whole4 64 = .ok (.iconst 0, 1) := by decide +kernel
theorem dX7_whole4_65 : decode cX7_whole4 65 = .ok (.istore 5, 2) := by decide +kernel
theorem dX7_whole4_67 : decode cX7_whole4 67 = .ok (.iload_n 2, 1) := by decide +kernel
theorem dX7_whole4_68 : decode cX7_whole4 68 = .ok (.ifCond .ge 36, 3) := by decide +kernel
theorem dX7_whole4_71 : decode cX7_whole4 71 = .ok (.iload_n 1, 1) := by decide +kernel
theorem dX7_whole4_72 : decode cX7_whole4 72 = .ok (.iconst 2, 1) := by decide +kernel
theorem dX7_whole4_73 : decode cX7_whole4 73 = .ok (.if_icmp .ne 17, 3) := by decide +kernel
theorem dX7_whole4_76 : decode cX7_whole4 76 = .ok (.iload 4, 2) := by decide +kernel
theorem dX7_whole4_78 : decode cX7_whole4 78 = .ok (.ldc 116, 2) := by decide +kernel
theorem dX7_whole4_80 : decode cX7_whole4 80 = .ok (.if_icmp .le 7, 3) := by decide +kernel
theorem dX7_whole4_83 : decode cX7_whole4 83 = .ok (.iconst 1, 1) := by decide +kernel
theorem dX7_whole4_84 : decode cX7_whole4 84 = .ok (.goto 4, 3) := by decide +kernel
theorem dX7_whole4_87 : decode cX7_whole4 87 = .ok (.iconst 0, 1) := by decide +kernel
theorem dX7_whole4_88 : decode cX7_whole4 88 = .ok (.istore 5, 2) := by decide +kernel
theorem dX7_whole4_90 : decode cX7_whole4 90 = .ok (.iload_n 3, 1) := by decide +kernel
theorem dX7_whole4_91 : decode cX7_whole4 91 = .ok (.iload 5, 2) := by decide +kernel
theorem dX7_whole4_93 : decode cX7_whole4 93 = .ok (.ifCond .eq 8, 3) := by decide +kernel
theorem dX7_whole4_96 : decode cX7_whole4 96 = .ok (.ldc 42, 2) := by decide +kernel
theorem dX7_whole4_98 : decode cX7_whole4 98 = .ok (.goto 4, 3) := by decide +kernel
theorem dX7_whole4_101 : decode cX7_whole4 101 = .ok (.iconst 0, 1) := by decide +kernel
theorem dX7_whole4_102 : decode cX7_whole4 102 = .ok (.ior, 1) := by decide +kernel
theorem dX7_whole4_103 : decode cX7_whole4 103 = .ok (.ireturn, 1) := by decide +kernel
theorem dX7_whole4_104 : decode cX7_whole4 104 = .ok (.iconst 1, 1) := by decide +kernel
theorem dX7_whole4_105 : decode cX7_whole4 105 = .ok (.bipush 23, 2) := by decide +kernel
theorem dX7_whole4_107 : decode cX7_whole4 107 = .ok (.iload_n 2, 1) := by decide +kernel
theorem dX7_whole4_108 : decode cX7_whole4 108 = .ok (.isub, 1) := by decide +kernel
theorem dX7_whole4_109 : decode cX7_whole4 109 = .ok (.ishl, 1) := by decide +kernel
theorem dX7_whole4_110 : decode cX7_whole4 110 = .ok (.istore 6, 2) := by decide +kernel
theorem dX7_whole4_112 : decode cX7_whole4 112 = .ok (.iload 4, 2) := by decide +kernel
theorem dX7_whole4_114 : decode cX7_whole4 114 = .ok (.iload 6, 2) := by decide +kernel
theorem dX7_whole4_116 : decode cX7_whole4 116 = .ok (.iconst 1, 1) := by decide +kernel
theorem dX7_whole4_117 : decode cX7_whole4 117 = .ok (.isub, 1) := by decide +kernel
theorem dX7_whole4_118 : decode cX7_whole4 118 = .ok (.iand, 1) := by decide +kernel
theorem dX7_whole4_119 : decode cX7_whole4 119 = .ok (.istore 7, 2) := by decide +kernel
theorem dX7_whole4_121 : decode cX7_whole4 121 = .ok (.iload 4, 2) := by decide +kernel
theorem dX7_whole4_123 : decode cX7_whole4 123 = .ok (.iload 7, 2) := by decide +kernel
theorem dX7_whole4_125 : decode cX7_whole4 125 = .ok (.isub, 1) := by decide +kernel
theorem dX7_whole4_126 : decode cX7_whole4 126 = .ok (.istore 8, 2) := by decide +kernel
theorem dX7_whole4_128 : decode cX7_whole4 128 = .ok (.iload 7, 2) := by decide +kernel
theorem dX7_whole4_130 : decode cX7_whole4 130 = .ok (.ifCond .ne 5, 3) := by decide +kernel
theorem dX7_whole4_133 : decode cX7_whole4 133 = .ok (.iload_n 0, 1) := by decide +kernel
theorem dX7_whole4_134 : decode cX7_whole4 134 = .ok (.ireturn, 1) := by decide +kernel
theorem dX7_whole4_135 : decode cX7_whole4 135 = .ok (.iload_n 1, 1) := by decide +kernel
theorem dX7_whole4_136 : decode cX7_whole4 136 = .ok (.iconst 2, 1) := by decide +kernel
theorem dX7_whole4_137 : decode cX7_whole4 137 = .ok (.if_icmp .ne 45, 3) := by decide +kernel
theorem dX7_whole4_140 : decode cX7_whole4 140 = .ok (.iload 7, 2) := by decide +kernel
theorem dX7_whole4_142 : decode cX7_whole4 142 = .ok (.iload 6, 2) := by decide +kernel
theorem dX7_whole4_144 : decode cX7_whole4 144 = .ok (.iconst 2, 1) := by decide +kernel
theorem dX7_whole4_145 : decode cX7_whole4 145 = .ok (.idiv, 1) := by decide +kernel
theorem dX7_whole4_146 : decode cX7_whole4 146 = .ok (.if_icmp .gt 29, 3) := by decide +kernel
theorem dX7_whole4_149 : decode cX7_whole4 149 = .ok (.iload 7, 2) := by decide +kernel
theorem dX7_whole4_151 : decode cX7_whole4 151 = .ok (.iload 6, 2) := by decide +kernel
theorem dX7_whole4_153 : decode cX7_whole4 153 = .ok (.iconst 2, 1) := by decide +kernel
theorem dX7_whole4_154 : decode cX7_whole4 154 = .ok (.idiv, 1) := by decide +kernel
theorem dX7_whole4_155 : decode cX7_whole4 155 = .ok (.if_icmp .ne 24, 3) := by decide +kernel
theorem dX7_whole4_158 : decode cX7_whole4 158 = .ok (.iload_n 2, 1) := by decide +kernel
theorem dX7_whole4_159 : decode cX7_whole4 159 = .ok (.ifCond .eq 16, 3) := by decide +kernel
theorem dX7_whole4_162 : decode cX7_whole4 162 = .ok (.iload 8, 2) := by decide +kernel
theorem dX7_whole4_164 : decode cX7_whole4 164 = .ok (.bipush 23, 2) := by decide +kernel
theorem dX7_whole4_166 : decode cX7_whole4 166 = .ok (.iload_n 2, 1) := by decide +kernel
theorem dX7_whole4_167 : decode cX7_whole4 167 = .ok (.isub, 1) := by decide +kernel
theorem dX7_whole4_168 : decode cX7_whole4 168 = .ok (.ishr, 1) := by decide +kernel
theorem dX7_whole4_169 : decode cX7_whole4 169 = .ok (.iconst 1, 1) := by decide +kernel
theorem dX7_whole4_170 : decode cX7_whole4 170 = .ok (.iand, 1) := by decide +kernel
theorem dX7_whole4_171 : decode cX7_whole4 171 = .ok (.iconst 1, 1) := by decide +kernel
theorem dX7_whole4_172 : decode cX7_whole4 172 = .ok (.if_icmp .ne 7, 3) := by decide +kernel
theorem dX7_whole4_175 : decode cX7_whole4 175 = .ok (.iconst 1, 1) := by decide +kernel
theorem dX7_whole4_176 : decode cX7_whole4 176 = .ok (.goto 4, 3) := by decide +kernel
theorem dX7_whole4_179 : decode cX7_whole4 179 = .ok (.iconst 0, 1) := by decide +kernel
theorem dX7_whole4_180 : decode cX7_whole4 180 = .ok (.istore 5, 2) := by decide +kernel
theorem dX7_whole4_182 : decode cX7_whole4 182 = .ok (.iload_n 3, 1) := by decide +kernel
theorem dX7_whole4_183 : decode cX7_whole4 183 = .ok (.iload 5, 2) := by decide +kernel
theorem dX7_whole4_185 : decode cX7_whole4 185 = .ok (.ifCond .eq 11, 3) := by decide +kernel
theorem dX7_whole4_188 : decode cX7_whole4 188 = .ok (.iload 8, 2) := by decide +kernel
theorem dX7_whole4_190 : decode cX7_whole4 190 = .ok (.iload 6, 2) := by decide +kernel
theorem dX7_whole4_192 : decode cX7_whole4 192 = .ok (.iadd, 1) := by decide +kernel
theorem dX7_whole4_193 : decode cX7_whole4 193 = .ok (.goto 5, 3) := by decide +kernel
theorem dX7_whole4_196 : decode cX7_whole4 196 = .ok (.iload 8, 2) := by decide +kernel
theorem dX7_whole4_198 : decode cX7_whole4 198 = .ok (.ior, 1) := by decide +kernel
theorem dX7_whole4_199 : decode cX7_whole4 199 = .ok (.ireturn, 1) := by decide +kernel
theorem dX7_whole64_0 : decode cX7_whole64 0 = .ok (.fload_n 0, 1) := by decide +kernel
theorem dX7_whole64_1 : decode cX7_whole64 1 = .ok (.ldc 117, 2) := by decide +kernel
theorem dX7_whole64_3 : decode cX7_whole64 3 = .ok (.fcmp .l, 1) := by decide +kernel
theorem dX7_whole64_4 : decode cX7_whole64 4 = .ok (.ifCond .lt 9, 3) := by decide +kernel
theorem dX7_whole64_7 : decode cX7_whole64 7 = .ok (.ldc2_w 72, 3) := by decide +kernel
theorem dX7_whole64_10 : decode cX7_whole64 10 = .ok (.goto 18, 3) := by decide +kernel
theorem dX7_whole64_13 : decode cX7_whole64 13 = .ok (.fload_n 0, 1) := by decide +kernel
theorem dX7_whole64_14 : decode cX7_whole64 14 = .ok (.ldc 118, 2) := by decide +kernel
theorem dX7_whole64_16 : decode cX7_whole64 16 = .ok (.fcmp .g, 1) := by decide +kernel
theorem dX7_whole64_17 : decode cX7_whole64 17 = .ok (.ifCond .gt 9, 3) := by decide +kernel
theorem dX7_whole64_20 : decode cX7_whole64 20 = .ok (.ldc2_w 83, 3) := by decide +kernel
theorem dX7_whole64_23 : decode cX7_whole64 23 = .ok (.goto 5, 3) := by decide +kernel
theorem dX7_whole64_26 : decode cX7_whole64 26 = .ok (.fload_n 0, 1) := by decide +kernel
theorem dX7_whole64_27 : decode cX7_whole64 27 = .ok (.f2l, 1) := by decide +kernel
theorem dX7_whole64_28 : decode cX7_whole64 28 = .ok (.lreturn, 1) := by decide +kernel
theorem dX7_isPoint_0 : decode cX7_isPoint 0 = .ok (.iload_n 0, 1) := by decide +kernel
theorem dX7_isPoint_1 : decode cX7_isPoint 1 = .ok (.ifCond .lt 13, 3) := by decide +kernel
theorem dX7_isPoint_4 : decode cX7_isPoint 4 = .ok (.iload_n 0, 1) := by decide +kernel
theorem dX7_isPoint_5 : decode cX7_isPoint 5 = .ok (.bipush 8, 2) := by decide +kernel
theorem dX7_isPoint_7 : decode cX7_isPoint 7 = .ok (.if_icmp .ge 7, 3) := by decide +kernel
theorem dX7_isPoint_10 : decode cX7_isPoint 10 = .ok (.iconst 1, 1) := by decide +kernel
theorem dX7_isPoint_11 : decode cX7_isPoint 11 = .ok (.goto 4, 3) := by decide +kernel
theorem dX7_isPoint_14 : decode cX7_isPoint 14 = .ok (.iconst 0, 1) := by decide +kernel
theorem dX7_isPoint_15 : decode cX7_isPoint 15 = .ok (.ireturn, 1) := by decide +kernel
theorem dX7_refuses_0 : decode cX7_refuses 0 = .ok (.aload_n 0, 1) := by decide +kernel
theorem dX7_refuses_1 : decode cX7_refuses 1 = .ok (.dup, 1) := by decide +kernel
theorem dX7_refuses_2 : decode cX7_refuses 2 = .ok (.getfield 119, 3) := by decide +kernel
theorem dX7_refuses_5 : decode cX7_refuses 5 = .ok (.iconst 1, 1) := by decide +kernel
theorem dX7_refuses_6 : decode cX7_refuses 6 = .ok (.iadd, 1) := by decide +kernel
theorem dX7_refuses_7 : decode cX7_refuses 7 = .ok (.putfield 119, 3) := by decide +kernel
theorem dX7_refuses_10 : decode cX7_refuses 10 = .ok (.iload_n 1, 1) := by decide +kernel
theorem dX7_refuses_11 : decode cX7_refuses 11 = .ok (.ireturn, 1) := by decide +kernel
theorem dX7_does_0 : decode cX7_does 0 = .ok (.aload_n 0, 1) := by decide +kernel
theorem dX7_does_1 : decode cX7_does 1 = .ok (.dup, 1) := by decide +kernel
theorem dX7_does_2 : decode cX7_does 2 = .ok (.getfield 122, 3) := by decide +kernel
theorem dX7_does_5 : decode cX7_does 5 = .ok (.iconst 1, 1) := by decide +kernel
theorem dX7_does_6 : decode cX7_does 6 = .ok (.iadd, 1) := by decide +kernel
theorem dX7_does_7 : decode cX7_does 7 = .ok (.putfield 122, 3) := by decide +kernel
theorem dX7_does_10 : decode cX7_does 10 = .ok (.iconst 0, 1) := by decide +kernel
theorem dX7_does_11 : decode cX7_does 11 = .ok (.ireturn, 1) := by decide +kernel
set_option maxRecDepth 20000 in
theorem ggX7_walled_X7_lesser : GoodIn wsX7_walled wsX7_lesser := goodIn_r _ [6, 7, 8, 5, 9, 10, 11, 12, 13, 14] (by decide +kernel) (by decide +kernel)
set_option maxRecDepth 20000 in
theorem gX7_walled_X7_lesser : GoodIn wsX7_walled (va_wsS RX7 125 yX7_lesser wsX7_lesser) := goodIn_app (goodIn_of _ (by decide +kernel)) ggX7_walled_X7_lesser
set_option maxRecDepth 20000 in
theorem ggX7_walled_X7_greater : GoodIn wsX7_walled wsX7_greater := goodIn_r _ [17, 7, 8, 5, 9, 10, 11, 12, 13, 14] (by decide +kernel) (by decide +kernel)
set_option maxRecDepth 20000 in
theorem gX7_walled_X7_greater : GoodIn wsX7_walled (va_wsS RX7 129 yX7_greater wsX7_greater) := goodIn_app (goodIn_of _ (by decide +kernel)) ggX7_walled_X7_greater
theorem dX7_walled_0 : decode cX7_walled 0 = .ok (.lload_n 1, 1) := by decide +kernel
theorem dX7_walled_1 : decode cX7_walled 1 = .ok (.aload_n 0, 1) := by decide +kernel
theorem dX7_walled_2 : decode cX7_walled 2 = .ok (.getfield 25, 3) := by decide +kernel
theorem dX7_walled_5 : decode cX7_walled 5 = .ok (.invokestatic 125, 3) := by decide +kernel
theorem dX7_walled_8 : decode cX7_walled 8 = .ok (.aload_n 0, 1) := by decide +kernel
theorem dX7_walled_9 : decode cX7_walled 9 = .ok (.getfield 19, 3) := by decide +kernel
theorem dX7_walled_12 : decode cX7_walled 12 = .ok (.invokestatic 129, 3) := by decide +kernel
theorem dX7_walled_15 : decode cX7_walled 15 = .ok (.lreturn, 1) := by decide +kernel
set_option maxRecDepth 20000 in
theorem ggX7_railed_X7_lesser4 : GoodIn wsX7_railed wsX7_lesser4 := goodIn_r _ [6, 7, 8, 5, 9, 10, 11, 12, 13] (by decide +kernel) (by decide +kernel)
set_option maxRecDepth 20000 in
theorem gX7_railed_X7_lesser4 : GoodIn wsX7_railed (va_wsS RX7 132 yX7_lesser4 wsX7_lesser4) := goodIn_app (goodIn_of _ (by decide +kernel)) ggX7_railed_X7_lesser4
set_option maxRecDepth 20000 in
theorem ggX7_railed_X7_greater4 : GoodIn wsX7_railed wsX7_greater4 := goodIn_r _ [16, 7, 8, 5, 9, 10, 11, 12, 13] (by decide +kernel) (by decide +kernel)
set_option maxRecDepth 20000 in
theorem gX7_railed_X7_greater4 : GoodIn wsX7_railed (va_wsS RX7 136 yX7_greater4 wsX7_greater4) := goodIn_app (goodIn_of _ (by decide +kernel)) ggX7_railed_X7_greater4
theorem dX7_railed_0 : decode cX7_railed 0 = .ok (.iload_n 1, 1) := by decide +kernel
theorem dX7_railed_1 : decode cX7_railed 1 = .ok (.aload_n 0, 1) := by decide +kernel
theorem dX7_railed_2 : decode cX7_railed 2 = .ok (.getfield 39, 3) := by decide +kernel
theorem dX7_railed_5 : decode cX7_railed 5 = .ok (.invokestatic 132, 3) := by decide +kernel
theorem dX7_railed_8 : decode cX7_railed 8 = .ok (.aload_n 0, 1) := by decide +kernel
theorem dX7_railed_9 : decode cX7_railed 9 = .ok (.getfield 34, 3) := by decide +kernel
theorem dX7_railed_12 : decode cX7_railed 12 = .ok (.invokestatic 136, 3) := by decide +kernel
theorem dX7_railed_15 : decode cX7_railed 15 = .ok (.ireturn, 1) := by decide +kernel
theorem dX7_keeps_0 : decode cX7_keeps 0 = .ok (.aload_n 0, 1) := by decide +kernel
theorem dX7_keeps_1 : decode cX7_keeps 1 = .ok (.getfield 53, 3) := by decide +kernel
theorem dX7_keeps_4 : decode cX7_keeps 4 = .ok (.aload_n 0, 1) := by decide +kernel
theorem dX7_keeps_5 : decode cX7_keeps 5 = .ok (.getfield 139, 3) := by decide +kernel
theorem dX7_keeps_8 : decode cX7_keeps 8 = .ok (.iload_n 1, 1) := by decide +kernel
theorem dX7_keeps_9 : decode cX7_keeps 9 = .ok (.iastore, 1) := by decide +kernel
theorem dX7_keeps_10 : decode cX7_keeps 10 = .ok (.aload_n 0, 1) := by decide +kernel
theorem dX7_keeps_11 : decode cX7_keeps 11 = .ok (.getfield 56, 3) := by decide +kernel
theorem dX7_keeps_14 : decode cX7_keeps 14 = .ok (.aload_n 0, 1) := by decide +kernel
theorem dX7_keeps_15 : decode cX7_keeps 15 = .ok (.getfield 139, 3) := by decide +kernel
theorem dX7_keeps_18 : decode cX7_keeps 18 = .ok (.aload_n 0, 1) := by decide +kernel
theorem dX7_keeps_19 : decode cX7_keeps 19 = .ok (.getfield 7, 3) := by decide +kernel
theorem dX7_keeps_22 : decode cX7_keeps 22 = .ok (.iload_n 1, 1) := by decide +kernel
theorem dX7_keeps_23 : decode cX7_keeps 23 = .ok (.laload, 1) := by decide +kernel
theorem dX7_keeps_24 : decode cX7_keeps 24 = .ok (.lastore, 1) := by decide +kernel
theorem dX7_keeps_25 : decode cX7_keeps 25 = .ok (.aload_n 0, 1) := by decide +kernel
theorem dX7_keeps_26 : decode cX7_keeps 26 = .ok (.getfield 59, 3) := by decide +kernel
theorem dX7_keeps_29 : decode cX7_keeps 29 = .ok (.aload_n 0, 1) := by decide +kernel
theorem dX7_keeps_30 : decode cX7_keeps 30 = .ok (.getfield 139, 3) := by decide +kernel
theorem dX7_keeps_33 : decode cX7_keeps 33 = .ok (.aload_n 0, 1) := by decide +kernel
theorem dX7_keeps_34 : decode cX7_keeps 34 = .ok (.getfield 13, 3) := by decide +kernel
theorem dX7_keeps_37 : decode cX7_keeps 37 = .ok (.iload_n 1, 1) := by decide +kernel
theorem dX7_keeps_38 : decode cX7_keeps 38 = .ok (.iaload, 1) := by decide +kernel
theorem dX7_keeps_39 : decode cX7_keeps 39 = .ok (.iastore, 1) := by decide +kernel
theorem dX7_keeps_40 : decode cX7_keeps 40 = .ok (.aload_n 0, 1) := by decide +kernel
theorem dX7_keeps_41 : decode cX7_keeps 41 = .ok (.dup, 1) := by decide +kernel
theorem dX7_keeps_42 : decode cX7_keeps 42 = .ok (.getfield 139, 3) := by decide +kernel
theorem dX7_keeps_45 : decode cX7_keeps 45 = .ok (.iconst 1, 1) := by decide +kernel
theorem dX7_keeps_46 : decode cX7_keeps 46 = .ok (.iadd, 1) := by decide +kernel
theorem dX7_keeps_47 : decode cX7_keeps 47 = .ok (.putfield 139, 3) := by decide +kernel
theorem dX7_keeps_50 : decode cX7_keeps 50 = .ok (.aload_n 0, 1) := by decide +kernel
theorem dX7_keeps_51 : decode cX7_keeps 51 = .ok (.getfield 139, 3) := by decide +kernel
theorem dX7_keeps_54 : decode cX7_keeps 54 = .ok (.bipush 16, 2) := by decide +kernel
theorem dX7_keeps_56 : decode cX7_keeps 56 = .ok (.if_icmp .gt 4, 3) := by decide +kernel
theorem dX7_keeps_59 : decode cX7_keeps 59 = .ok (.return_, 1) := by decide +kernel
theorem dX7_keeps_60 : decode cX7_keeps 60 = .ok (.iconst 0, 1) := by decide +kernel
theorem dX7_keeps_61 : decode cX7_keeps 61 = .ok (.istore_n 2, 1) := by decide +kernel
theorem dX7_keeps_62 : decode cX7_keeps 62 = .ok (.iload_n 2, 1) := by decide +kernel
theorem dX7_keeps_63 : decode cX7_keeps 63 = .ok (.bipush 16, 2) := by decide +kernel
theorem dX7_keeps_65 : decode cX7_keeps 65 = .ok (.if_icmp .ge 51, 3) := by decide +kernel
theorem dX7_keeps_68 : decode cX7_keeps 68 = .ok (.aload_n 0, 1) := by decide +kernel
theorem dX7_keeps_69 : decode cX7_keeps 69 = .ok (.getfield 53, 3) := by decide +kernel
theorem dX7_keeps_72 : decode cX7_keeps 72 = .ok (.iload_n 2, 1) := by decide +kernel
theorem dX7_keeps_73 : decode cX7_keeps 73 = .ok (.aload_n 0, 1) := by decide +kernel
theorem dX7_keeps_74 : decode cX7_keeps 74 = .ok (.getfield 53, 3) := by decide +kernel
theorem dX7_keeps_77 : decode cX7_keeps 77 = .ok (.iload_n 2, 1) := by decide +kernel
theorem dX7_keeps_78 : decode cX7_keeps 78 = .ok (.iconst 1, 1) := by decide +kernel
theorem dX7_keeps_79 : decode cX7_keeps 79 = .ok (.iadd, 1) := by decide +kernel
theorem dX7_keeps_80 : decode cX7_keeps 80 = .ok (.iaload, 1) := by decide +kernel
theorem dX7_keeps_81 : decode cX7_keeps 81 = .ok (.iastore, 1) := by decide +kernel
theorem dX7_keeps_82 : decode cX7_keeps 82 = .ok (.aload_n 0, 1) := by decide +kernel
theorem dX7_keeps_83 : decode cX7_keeps 83 = .ok (.getfield 56, 3) := by decide +kernel
theorem dX7_keeps_86 : decode cX7_keeps 86 = .ok (.iload_n 2, 1) := by decide +kernel
theorem dX7_keeps_87 : decode cX7_keeps 87 = .ok (.aload_n 0, 1) := by decide +kernel
theorem dX7_keeps_88 : decode cX7_keeps 88 = .ok (.getfield 56, 3) := by decide +kernel
theorem dX7_keeps_91 : decode cX7_keeps 91 = .ok (.iload_n 2, 1) := by decide +kernel
theorem dX7_keeps_92 : decode cX7_keeps 92 = .ok (.iconst 1, 1) := by decide +kernel
theorem dX7_keeps_93 : decode cX7_keeps 93 = .ok (.iadd, 1) := by decide +kernel
theorem dX7_keeps_94 : decode cX7_keeps 94 = .ok (.laload, 1) := by decide +kernel
theorem dX7_keeps_95 : decode cX7_keeps 95 = .ok (.lastore, 1) := by decide +kernel
theorem dX7_keeps_96 : decode cX7_keeps 96 = .ok (.aload_n 0, 1) := by decide +kernel
theorem dX7_keeps_97 : decode cX7_keeps 97 = .ok (.getfield 59, 3) := by decide +kernel
theorem dX7_keeps_100 : decode cX7_keeps 100 = .ok (.iload_n 2, 1) := by decide +kernel
theorem dX7_keeps_101 : decode cX7_keeps 101 = .ok (.aload_n 0, 1) := by decide +kernel
theorem dX7_keeps_102 : decode cX7_keeps 102 = .ok (.getfield 59, 3) := by decide +kernel
theorem dX7_keeps_105 : decode cX7_keeps 105 = .ok (.iload_n 2, 1) := by decide +kernel
theorem dX7_keeps_106 : decode cX7_keeps 106 = .ok (.iconst 1, 1) := by decide +kernel
theorem dX7_keeps_107 : decode cX7_keeps 107 = .ok (.iadd, 1) := by decide +kernel
theorem dX7_keeps_108 : decode cX7_keeps 108 = .ok (.iaload, 1) := by decide +kernel
theorem dX7_keeps_109 : decode cX7_keeps 109 = .ok (.iastore, 1) := by decide +kernel
theorem dX7_keeps_110 : decode cX7_keeps 110 = .ok (.iinc 2 1, 3) := by decide +kernel
theorem dX7_keeps_113 : decode cX7_keeps 113 = .ok (.goto (-51), 3) := by decide +kernel
theorem dX7_keeps_116 : decode cX7_keeps 116 = .ok (.aload_n 0, 1) := by decide +kernel
theorem dX7_keeps_117 : decode cX7_keeps 117 = .ok (.bipush 16, 2) := by decide +kernel
theorem dX7_keeps_119 : decode cX7_keeps 119 = .ok (.putfield 139, 3) := by decide +kernel
theorem dX7_keeps_122 : decode cX7_keeps 122 = .ok (.return_, 1) := by decide +kernel
set_option maxRecDepth 20000 in
theorem ggX7_comes_X7_walled : GoodIn wsX7_comes wsX7_walled := goodIn_r _ [8, 9, 10, 11, 12, 7, 13, 14, 15, 16, 17, 18, 19, 20, 21, 22, 23, 24, 70, 71, 72, 73, 74, 75, 76, 77, 78, 79, 80, 81, 82, 83, 84, 85, 86] (by decide +kernel) (by decide +kernel)
set_option maxRecDepth 20000 in
theorem gX7_comes_X7_walled : GoodIn wsX7_comes (wsV RX7 142 RX7 yX7_walled wsX7_walled) := goodIn_app (goodIn_of _ (by decide +kernel)) ggX7_comes_X7_walled
set_option maxRecDepth 20000 in
theorem ggX7_comes_X7_railed : GoodIn wsX7_comes wsX7_railed := goodIn_r _ [28, 29, 30, 31, 32, 7, 33, 34, 35, 36, 37, 38, 39, 40, 41, 42, 43, 70, 71, 72, 73, 74, 75, 76, 77, 78, 79, 80, 81, 82, 83, 84, 85, 86] (by decide +kernel) (by decide +kernel)
set_option maxRecDepth 20000 in
theorem gX7_comes_X7_railed : GoodIn wsX7_comes (wsV RX7 145 RX7 yX7_railed wsX7_railed) := goodIn_app (goodIn_of _ (by decide +kernel)) ggX7_comes_X7_railed
set_option maxRecDepth 20000 in
theorem ggX7_comes_X7_isInfinite : GoodIn wsX7_comes wsX7_isInfinite := goodIn_r _ [46, 47, 18, 19, 7, 20, 21] (by decide +kernel) (by decide +kernel)
set_option maxRecDepth 20000 in
theorem gX7_comes_X7_isInfinite : GoodIn wsX7_comes (va_wsS RX7 148 yX7_isInfinite wsX7_isInfinite) := goodIn_app (goodIn_of _ (by decide +kernel)) ggX7_comes_X7_isInfinite
set_option maxRecDepth 20000 in
theorem ggX7_comes_X7_isInfinite4 : GoodIn wsX7_comes wsX7_isInfinite4 := goodIn_r _ [50, 51, 37, 38, 7, 39, 40] (by decide +kernel) (by decide +kernel)
set_option maxRecDepth 20000 in
theorem gX7_comes_X7_isInfinite4 : GoodIn wsX7_comes (va_wsS RX7 152 yX7_isInfinite4 wsX7_isInfinite4) := goodIn_app (goodIn_of _ (by decide +kernel)) ggX7_comes_X7_isInfinite4
set_option maxRecDepth 20000 in
theorem ggX7_comes_X7_refuses : GoodIn wsX7_comes wsX7_refuses := goodIn_r _ [55, 56, 70, 71, 72, 73, 74, 75, 76, 77, 78, 79, 80, 81, 82, 83, 84, 85, 86] (by decide +kernel) (by decide +kernel)
set_option maxRecDepth 20000 in
theorem gX7_comes_X7_refuses : GoodIn wsX7_comes (wsV RX7 156 RX7 yX7_refuses wsX7_refuses) := goodIn_app (goodIn_of _ (by decide +kernel)) ggX7_comes_X7_refuses
set_option maxRecDepth 20000 in
theorem ggX7_comes_X7_keeps : GoodIn wsX7_comes wsX7_keeps := goodIn_r _ [60, 61, 62, 63, 2, 64, 3, 70, 71, 72, 73, 74, 75, 76, 77, 78, 79, 80, 81, 82, 83, 84, 85, 86] (by decide +kernel) (by decide +kernel)
set_option maxRecDepth 20000 in
theorem gX7_comes_X7_keeps : GoodIn wsX7_comes (wsV RX7 159 RX7 yX7_keeps wsX7_keeps) := goodIn_app (goodIn_of _ (by decide +kernel)) ggX7_comes_X7_keeps
set_option maxRecDepth 20000 in
theorem ggX7_comes_X7_does : GoodIn wsX7_comes wsX7_does := goodIn_r _ [68, 69, 70, 71, 72, 73, 74, 75, 76, 77, 78, 79, 80, 81, 82, 83, 84, 85, 86] (by decide +kernel) (by decide +kernel)
set_option maxRecDepth 20000 in
theorem gX7_comes_X7_does : GoodIn wsX7_comes (wsV RX7 166 RX7 yX7_does wsX7_does) := goodIn_app (goodIn_of _ (by decide +kernel)) ggX7_comes_X7_does
theorem dX7_comes_0 : decode cX7_comes 0 = .ok (.aload_n 0, 1) := by decide +kernel
theorem dX7_comes_1 : decode cX7_comes 1 = .ok (.lload_n 2, 1) := by decide +kernel
theorem dX7_comes_2 : decode cX7_comes 2 = .ok (.invokevirtual 142, 3) := by decide +kernel
theorem dX7_comes_5 : decode cX7_comes 5 = .ok (.lstore 5, 2) := by decide +kernel
theorem dX7_comes_7 : decode cX7_comes 7 = .ok (.aload_n 0, 1) := by decide +kernel
theorem dX7_comes_8 : decode cX7_comes 8 = .ok (.iload 4, 2) := by decide +kernel
theorem dX7_comes_10 : decode cX7_comes 10 = .ok (.invokevirtual 145, 3) := by decide +kernel
theorem dX7_comes_13 : decode cX7_comes 13 = .ok (.istore 7, 2) := by decide +kernel
theorem dX7_comes_15 : decode cX7_comes 15 = .ok (.lload 5, 2) := by decide +kernel
theorem dX7_comes_17 : decode cX7_comes 17 = .ok (.invokestatic 148, 3) := by decide +kernel
theorem dX7_comes_20 : decode cX7_comes 20 = .ok (.ifCond .ne 11, 3) := by decide +kernel
theorem dX7_comes_23 : decode cX7_comes 23 = .ok (.iload 7, 2) := by decide +kernel
theorem dX7_comes_25 : decode cX7_comes 25 = .ok (.invokestatic 152, 3) := by decide +kernel
theorem dX7_comes_28 : decode cX7_comes 28 = .ok (.ifCond .eq 9, 3) := by decide +kernel
theorem dX7_comes_31 : decode cX7_comes 31 = .ok (.aload_n 0, 1) := by decide +kernel
theorem dX7_comes_32 : decode cX7_comes 32 = .ok (.iconst 5, 1) := by decide +kernel
theorem dX7_comes_33 : decode cX7_comes 33 = .ok (.invokevirtual 156, 3) := by decide +kernel
theorem dX7_comes_36 : decode cX7_comes 36 = .ok (.ireturn, 1) := by decide +kernel
theorem dX7_comes_37 : decode cX7_comes 37 = .ok (.aload_n 0, 1) := by decide +kernel
theorem dX7_comes_38 : decode cX7_comes 38 = .ok (.iload_n 1, 1) := by decide +kernel
theorem dX7_comes_39 : decode cX7_comes 39 = .ok (.invokevirtual 159, 3) := by decide +kernel
theorem dX7_comes_42 : decode cX7_comes 42 = .ok (.aload_n 0, 1) := by decide +kernel
theorem dX7_comes_43 : decode cX7_comes 43 = .ok (.dup, 1) := by decide +kernel
theorem dX7_comes_44 : decode cX7_comes 44 = .ok (.getfield 163, 3) := by decide +kernel
theorem dX7_comes_47 : decode cX7_comes 47 = .ok (.lload 5, 2) := by decide +kernel
theorem dX7_comes_49 : decode cX7_comes 49 = .ok (.lload_n 2, 1) := by decide +kernel
theorem dX7_comes_50 : decode cX7_comes 50 = .ok (.lcmp, 1) := by decide +kernel
theorem dX7_comes_51 : decode cX7_comes 51 = .ok (.ifCond .eq 7, 3) := by decide +kernel
theorem dX7_comes_54 : decode cX7_comes 54 = .ok (.iconst 1, 1) := by decide +kernel
theorem dX7_comes_55 : decode cX7_comes 55 = .ok (.goto 4, 3) := by decide +kernel
theorem dX7_comes_58 : decode cX7_comes 58 = .ok (.iconst 0, 1) := by decide +kernel
theorem dX7_comes_59 : decode cX7_comes 59 = .ok (.iload 7, 2) := by decide +kernel
theorem dX7_comes_61 : decode cX7_comes 61 = .ok (.iload 4, 2) := by decide +kernel
theorem dX7_comes_63 : decode cX7_comes 63 = .ok (.if_icmp .eq 7, 3) := by decide +kernel
theorem dX7_comes_66 : decode cX7_comes 66 = .ok (.iconst 1, 1) := by decide +kernel
theorem dX7_comes_67 : decode cX7_comes 67 = .ok (.goto 4, 3) := by decide +kernel
theorem dX7_comes_70 : decode cX7_comes 70 = .ok (.iconst 0, 1) := by decide +kernel
theorem dX7_comes_71 : decode cX7_comes 71 = .ok (.iadd, 1) := by decide +kernel
theorem dX7_comes_72 : decode cX7_comes 72 = .ok (.iadd, 1) := by decide +kernel
theorem dX7_comes_73 : decode cX7_comes 73 = .ok (.putfield 163, 3) := by decide +kernel
theorem dX7_comes_76 : decode cX7_comes 76 = .ok (.aload_n 0, 1) := by decide +kernel
theorem dX7_comes_77 : decode cX7_comes 77 = .ok (.getfield 7, 3) := by decide +kernel
theorem dX7_comes_80 : decode cX7_comes 80 = .ok (.iload_n 1, 1) := by decide +kernel
theorem dX7_comes_81 : decode cX7_comes 81 = .ok (.lload 5, 2) := by decide +kernel
theorem dX7_comes_83 : decode cX7_comes 83 = .ok (.lastore, 1) := by decide +kernel
theorem dX7_comes_84 : decode cX7_comes 84 = .ok (.aload_n 0, 1) := by decide +kernel
theorem dX7_comes_85 : decode cX7_comes 85 = .ok (.getfield 13, 3) := by decide +kernel
theorem dX7_comes_88 : decode cX7_comes 88 = .ok (.iload_n 1, 1) := by decide +kernel
theorem dX7_comes_89 : decode cX7_comes 89 = .ok (.iload 7, 2) := by decide +kernel
theorem dX7_comes_91 : decode cX7_comes 91 = .ok (.iastore, 1) := by decide +kernel
theorem dX7_comes_92 : decode cX7_comes 92 = .ok (.aload_n 0, 1) := by decide +kernel
theorem dX7_comes_93 : decode cX7_comes 93 = .ok (.invokevirtual 166, 3) := by decide +kernel
theorem dX7_comes_96 : decode cX7_comes 96 = .ok (.ireturn, 1) := by decide +kernel
set_option maxRecDepth 20000 in
theorem ggX7_place_X7_isPoint : GoodIn wsX7_place wsX7_isPoint := goodIn_r _ [4] (by decide +kernel) (by decide +kernel)
set_option maxRecDepth 20000 in
theorem gX7_place_X7_isPoint : GoodIn wsX7_place (va_wsS RX7 170 yX7_isPoint wsX7_isPoint) := goodIn_app (goodIn_of _ (by decide +kernel)) ggX7_place_X7_isPoint
set_option maxRecDepth 20000 in
theorem ggX7_place_X7_refuses : GoodIn wsX7_place wsX7_refuses := goodIn_r _ [8, 9, 83, 84, 85, 86, 87, 88, 89, 90, 91, 92, 93, 94, 95, 96, 97, 98, 99] (by decide +kernel) (by decide +kernel)
set_option maxRecDepth 20000 in
theorem gX7_place_X7_refuses : GoodIn wsX7_place (wsV RX7 156 RX7 yX7_refuses wsX7_refuses) := goodIn_app (goodIn_of _ (by decide +kernel)) ggX7_place_X7_refuses
set_option maxRecDepth 20000 in
theorem ggX7_place_X7_isNone : GoodIn wsX7_place wsX7_isNone := goodIn_r _ [12, 13, 14, 15, 3, 16, 17] (by decide +kernel) (by decide +kernel)
set_option maxRecDepth 20000 in
theorem gX7_place_X7_isNone : GoodIn wsX7_place (va_wsS RX7 173 yX7_isNone wsX7_isNone) := goodIn_app (goodIn_of _ (by decide +kernel)) ggX7_place_X7_isNone
set_option maxRecDepth 20000 in
theorem ggX7_place_X7_isNone4 : GoodIn wsX7_place wsX7_isNone4 := goodIn_r _ [20, 21, 22, 23, 3, 24, 25] (by decide +kernel) (by decide +kernel)
set_option maxRecDepth 20000 in
theorem gX7_place_X7_isNone4 : GoodIn wsX7_place (va_wsS RX7 176 yX7_isNone4 wsX7_isNone4) := goodIn_app (goodIn_of _ (by decide +kernel)) ggX7_place_X7_isNone4
set_option maxRecDepth 20000 in
theorem ggX7_place_X7_isInfinite : GoodIn wsX7_place wsX7_isInfinite := goodIn_r _ [28, 13, 14, 15, 3, 16, 17] (by decide +kernel) (by decide +kernel)
set_option maxRecDepth 20000 in
theorem gX7_place_X7_isInfinite : GoodIn wsX7_place (va_wsS RX7 148 yX7_isInfinite wsX7_isInfinite) := goodIn_app (goodIn_of _ (by decide +kernel)) ggX7_place_X7_isInfinite
set_option maxRecDepth 20000 in
theorem ggX7_place_X7_isInfinite4 : GoodIn wsX7_place wsX7_isInfinite4 := goodIn_r _ [31, 21, 22, 23, 3, 24, 25] (by decide +kernel) (by decide +kernel)
set_option maxRecDepth 20000 in
theorem gX7_place_X7_isInfinite4 : GoodIn wsX7_place (va_wsS RX7 152 yX7_isInfinite4 wsX7_isInfinite4) := goodIn_app (goodIn_of _ (by decide +kernel)) ggX7_place_X7_isInfinite4
set_option maxRecDepth 20000 in
theorem ggX7_place_X7_comes : GoodIn wsX7_place wsX7_comes := goodIn_r _ [35, 36, 37, 38, 39, 40, 41, 3, 42, 43, 44, 45, 46, 47, 48, 49, 50, 51, 14, 15, 16, 17, 52, 53, 54, 55, 56, 57, 58, 59, 60, 61, 62, 63, 64, 65, 66, 22, 23, 24, 25, 67, 68, 69, 26, 27, 28, 13, 29, 30, 31, 21, 5, 6, 7, 8, 9, 70, 71, 72, 73, 74, 75, 76, 77, 78, 79, 80, 81, 82, 83, 84, 85, 86, 87, 88, 89, 90, 91, 92, 93, 94, 95, 96, 97, 98, 99] (by decide +kernel) (by decide +kernel)
set_option maxRecDepth 20000 in
theorem gX7_place_X7_comes : GoodIn wsX7_place (wsV RX7 179 RX7 yX7_comes wsX7_comes) := goodIn_app (goodIn_of _ (by decide +kernel)) ggX7_place_X7_comes
theorem dX7_place_0 : decode cX7_place 0 = .ok (.iload_n 1, 1) := by decide +kernel
theorem dX7_place_1 : decode cX7_place 1 = .ok (.invokestatic 170, 3) := by decide +kernel
theorem dX7_place_4 : decode cX7_place 4 = .ok (.ifCond .ne 9, 3) := by decide +kernel
theorem dX7_place_7 : decode cX7_place 7 = .ok (.aload_n 0, 1) := by decide +kernel
theorem dX7_place_8 : decode cX7_place 8 = .ok (.iconst 1, 1) := by decide +kernel
theorem dX7_place_9 : decode cX7_place 9 = .ok (.invokevirtual 156, 3) := by decide +kernel
theorem dX7_place_12 : decode cX7_place 12 = .ok (.ireturn, 1) := by decide +kernel
theorem dX7_place_13 : decode cX7_place 13 = .ok (.lload_n 2, 1) := by decide +kernel
theorem dX7_place_14 : decode cX7_place 14 = .ok (.invokestatic 173, 3) := by decide +kernel
theorem dX7_place_17 : decode cX7_place 17 = .ok (.ifCond .ne 11, 3) := by decide +kernel
theorem dX7_place_20 : decode cX7_place 20 = .ok (.iload 4, 2) := by decide +kernel
theorem dX7_place_22 : decode cX7_place 22 = .ok (.invokestatic 176, 3) := by decide +kernel
theorem dX7_place_25 : decode cX7_place 25 = .ok (.ifCond .eq 9, 3) := by decide +kernel
theorem dX7_place_28 : decode cX7_place 28 = .ok (.aload_n 0, 1) := by decide +kernel
theorem dX7_place_29 : decode cX7_place 29 = .ok (.iconst 2, 1) := by decide +kernel
theorem dX7_place_30 : decode cX7_place 30 = .ok (.invokevirtual 156, 3) := by decide +kernel
theorem dX7_place_33 : decode cX7_place 33 = .ok (.ireturn, 1) := by decide +kernel
theorem dX7_place_34 : decode cX7_place 34 = .ok (.lload_n 2, 1) := by decide +kernel
theorem dX7_place_35 : decode cX7_place 35 = .ok (.invokestatic 148, 3) := by decide +kernel
theorem dX7_place_38 : decode cX7_place 38 = .ok (.ifCond .ne 11, 3) := by decide +kernel
theorem dX7_place_41 : decode cX7_place 41 = .ok (.iload 4, 2) := by decide +kernel
theorem dX7_place_43 : decode cX7_place 43 = .ok (.invokestatic 152, 3) := by decide +kernel
theorem dX7_place_46 : decode cX7_place 46 = .ok (.ifCond .eq 9, 3) := by decide +kernel
theorem dX7_place_49 : decode cX7_place 49 = .ok (.aload_n 0, 1) := by decide +kernel
theorem dX7_place_50 : decode cX7_place 50 = .ok (.iconst 3, 1) := by decide +kernel
theorem dX7_place_51 : decode cX7_place 51 = .ok (.invokevirtual 156, 3) := by decide +kernel
theorem dX7_place_54 : decode cX7_place 54 = .ok (.ireturn, 1) := by decide +kernel
theorem dX7_place_55 : decode cX7_place 55 = .ok (.aload_n 0, 1) := by decide +kernel
theorem dX7_place_56 : decode cX7_place 56 = .ok (.iload_n 1, 1) := by decide +kernel
theorem dX7_place_57 : decode cX7_place 57 = .ok (.lload_n 2, 1) := by decide +kernel
theorem dX7_place_58 : decode cX7_place 58 = .ok (.iload 4, 2) := by decide +kernel
theorem dX7_place_60 : decode cX7_place 60 = .ok (.invokevirtual 179, 3) := by decide +kernel
theorem dX7_place_63 : decode cX7_place 63 = .ok (.ireturn, 1) := by decide +kernel
set_option maxRecDepth 20000 in
theorem ggX7_walls_X7_isNone : GoodIn wsX7_walls wsX7_isNone := goodIn_r _ [9, 10, 11, 12, 8, 13, 14] (by decide +kernel) (by decide +kernel)
set_option maxRecDepth 20000 in
theorem gX7_walls_X7_isNone : GoodIn wsX7_walls (va_wsS RX7 173 yX7_isNone wsX7_isNone) := goodIn_app (goodIn_of _ (by decide +kernel)) ggX7_walls_X7_isNone
set_option maxRecDepth 20000 in
theorem ggX7_walls_X7_refuses : GoodIn wsX7_walls wsX7_refuses := goodIn_r _ [18, 19, 42, 43, 44, 45, 46, 47, 48, 49, 50, 51, 52, 53, 54, 55, 56, 57, 58] (by decide +kernel) (by decide +kernel)
set_option maxRecDepth 20000 in
theorem gX7_walls_X7_refuses : GoodIn wsX7_walls (wsV RX7 156 RX7 yX7_refuses wsX7_refuses) := goodIn_app (goodIn_of _ (by decide +kernel)) ggX7_walls_X7_refuses
set_option maxRecDepth 20000 in
theorem ggX7_walls_X7_isBelow : GoodIn wsX7_walls wsX7_isBelow := goodIn_r _ [22, 23, 24, 8, 25, 26, 11, 12, 13, 14] (by decide +kernel) (by decide +kernel)
set_option maxRecDepth 20000 in
theorem gX7_walls_X7_isBelow : GoodIn wsX7_walls (va_wsS RX7 183 yX7_isBelow wsX7_isBelow) := goodIn_app (goodIn_of _ (by decide +kernel)) ggX7_walls_X7_isBelow
set_option maxRecDepth 20000 in
theorem ggX7_walls_X7_walled : GoodIn wsX7_walls wsX7_walled := goodIn_r _ [30, 2, 1, 31, 32, 8, 33, 23, 24, 25, 26, 11, 12, 13, 14, 34, 35, 36, 42, 43, 44, 45, 46, 47, 48, 49, 50, 51, 52, 53, 54, 55, 56, 57, 58] (by decide +kernel) (by decide +kernel)
set_option maxRecDepth 20000 in
theorem gX7_walls_X7_walled : GoodIn wsX7_walls (wsV RX7 142 RX7 yX7_walled wsX7_walled) := goodIn_app (goodIn_of _ (by decide +kernel)) ggX7_walls_X7_walled
set_option maxRecDepth 20000 in
theorem ggX7_walls_X7_does : GoodIn wsX7_walls wsX7_does := goodIn_r _ [40, 41, 42, 43, 44, 45, 46, 47, 48, 49, 50, 51, 52, 53, 54, 55, 56, 57, 58] (by decide +kernel) (by decide +kernel)
set_option maxRecDepth 20000 in
theorem gX7_walls_X7_does : GoodIn wsX7_walls (wsV RX7 166 RX7 yX7_does wsX7_does) := goodIn_app (goodIn_of _ (by decide +kernel)) ggX7_walls_X7_does
theorem dX7_walls_0 : decode cX7_walls 0 = .ok (.lload_n 1, 1) := by decide +kernel
theorem dX7_walls_1 : decode cX7_walls 1 = .ok (.invokestatic 173, 3) := by decide +kernel
theorem dX7_walls_4 : decode cX7_walls 4 = .ok (.ifCond .ne 10, 3) := by decide +kernel
theorem dX7_walls_7 : decode cX7_walls 7 = .ok (.lload_n 3, 1) := by decide +kernel
theorem dX7_walls_8 : decode cX7_walls 8 = .ok (.invokestatic 173, 3) := by decide +kernel
theorem dX7_walls_11 : decode cX7_walls 11 = .ok (.ifCond .eq 9, 3) := by decide +kernel
theorem dX7_walls_14 : decode cX7_walls 14 = .ok (.aload_n 0, 1) := by decide +kernel
theorem dX7_walls_15 : decode cX7_walls 15 = .ok (.iconst 2, 1) := by decide +kernel
theorem dX7_walls_16 : decode cX7_walls 16 = .ok (.invokevirtual 156, 3) := by decide +kernel
theorem dX7_walls_19 : decode cX7_walls 19 = .ok (.ireturn, 1) := by decide +kernel
theorem dX7_walls_20 : decode cX7_walls 20 = .ok (.lload_n 1, 1) := by decide +kernel
theorem dX7_walls_21 : decode cX7_walls 21 = .ok (.lload_n 3, 1) := by decide +kernel
theorem dX7_walls_22 : decode cX7_walls 22 = .ok (.invokestatic 183, 3) := by decide +kernel
theorem dX7_walls_25 : decode cX7_walls 25 = .ok (.ifCond .ne 9, 3) := by decide +kernel
theorem dX7_walls_28 : decode cX7_walls 28 = .ok (.aload_n 0, 1) := by decide +kernel
theorem dX7_walls_29 : decode cX7_walls 29 = .ok (.iconst 4, 1) := by decide +kernel
theorem dX7_walls_30 : decode cX7_walls 30 = .ok (.invokevirtual 156, 3) := by decide +kernel
theorem dX7_walls_33 : decode cX7_walls 33 = .ok (.ireturn, 1) := by decide +kernel
theorem dX7_walls_34 : decode cX7_walls 34 = .ok (.aload_n 0, 1) := by decide +kernel
theorem dX7_walls_35 : decode cX7_walls 35 = .ok (.lload_n 1, 1) := by decide +kernel
theorem dX7_walls_36 : decode cX7_walls 36 = .ok (.putfield 19, 3) := by decide +kernel
theorem dX7_walls_39 : decode cX7_walls 39 = .ok (.aload_n 0, 1) := by decide +kernel
theorem dX7_walls_40 : decode cX7_walls 40 = .ok (.lload_n 3, 1) := by decide +kernel
theorem dX7_walls_41 : decode cX7_walls 41 = .ok (.putfield 25, 3) := by decide +kernel
theorem dX7_walls_44 : decode cX7_walls 44 = .ok (.iconst 0, 1) := by decide +kernel
theorem dX7_walls_45 : decode cX7_walls 45 = .ok (.istore 5, 2) := by decide +kernel
theorem dX7_walls_47 : decode cX7_walls 47 = .ok (.iload 5, 2) := by decide +kernel
theorem dX7_walls_49 : decode cX7_walls 49 = .ok (.bipush 8, 2) := by decide +kernel
theorem dX7_walls_51 : decode cX7_walls 51 = .ok (.if_icmp .ge 54, 3) := by decide +kernel
theorem dX7_walls_54 : decode cX7_walls 54 = .ok (.aload_n 0, 1) := by decide +kernel
theorem dX7_walls_55 : decode cX7_walls 55 = .ok (.aload_n 0, 1) := by decide +kernel
theorem dX7_walls_56 : decode cX7_walls 56 = .ok (.getfield 7, 3) := by decide +kernel
theorem dX7_walls_59 : decode cX7_walls 59 = .ok (.iload 5, 2) := by decide +kernel
theorem dX7_walls_61 : decode cX7_walls 61 = .ok (.laload, 1) := by decide +kernel
theorem dX7_walls_62 : decode cX7_walls 62 = .ok (.invokevirtual 142, 3) := by decide +kernel
theorem dX7_walls_65 : decode cX7_walls 65 = .ok (.lstore 6, 2) := by decide +kernel
theorem dX7_walls_67 : decode cX7_walls 67 = .ok (.lload 6, 2) := by decide +kernel
theorem dX7_walls_69 : decode cX7_walls 69 = .ok (.aload_n 0, 1) := by decide +kernel
theorem dX7_walls_70 : decode cX7_walls 70 = .ok (.getfield 7, 3) := by decide +kernel
theorem dX7_walls_73 : decode cX7_walls 73 = .ok (.iload 5, 2) := by decide +kernel
theorem dX7_walls_75 : decode cX7_walls 75 = .ok (.laload, 1) := by decide +kernel
theorem dX7_walls_76 : decode cX7_walls 76 = .ok (.lcmp, 1) := by decide +kernel
theorem dX7_walls_77 : decode cX7_walls 77 = .ok (.ifCond .eq 13, 3) := by decide +kernel
theorem dX7_walls_80 : decode cX7_walls 80 = .ok (.aload_n 0, 1) := by decide +kernel
theorem dX7_walls_81 : decode cX7_walls 81 = .ok (.dup, 1) := by decide +kernel
theorem dX7_walls_82 : decode cX7_walls 82 = .ok (.getfield 163, 3) := by decide +kernel
theorem dX7_walls_85 : decode cX7_walls 85 = .ok (.iconst 1, 1) := by decide +kernel
theorem dX7_walls_86 : decode cX7_walls 86 = .ok (.iadd, 1) := by decide +kernel
theorem dX7_walls_87 : decode cX7_walls 87 = .ok (.putfield 163, 3) := by decide +kernel
theorem dX7_walls_90 : decode cX7_walls 90 = .ok (.aload_n 0, 1) := by decide +kernel
theorem dX7_walls_91 : decode cX7_walls 91 = .ok (.getfield 7, 3) := by decide +kernel
theorem dX7_walls_94 : decode cX7_walls 94 = .ok (.iload 5, 2) := by decide +kernel
theorem dX7_walls_96 : decode cX7_walls 96 = .ok (.lload 6, 2) := by decide +kernel
theorem dX7_walls_98 : decode cX7_walls 98 = .ok (.lastore, 1) := by decide +kernel
theorem dX7_walls_99 : decode cX7_walls 99 = .ok (.iinc 5 1, 3) := by decide +kernel
theorem dX7_walls_102 : decode cX7_walls 102 = .ok (.goto (-55), 3) := by decide +kernel
theorem dX7_walls_105 : decode cX7_walls 105 = .ok (.aload_n 0, 1) := by decide +kernel
theorem dX7_walls_106 : decode cX7_walls 106 = .ok (.iconst 0, 1) := by decide +kernel
theorem dX7_walls_107 : decode cX7_walls 107 = .ok (.putfield 139, 3) := by decide +kernel
theorem dX7_walls_110 : decode cX7_walls 110 = .ok (.aload_n 0, 1) := by decide +kernel
theorem dX7_walls_111 : decode cX7_walls 111 = .ok (.invokevirtual 166, 3) := by decide +kernel
theorem dX7_walls_114 : decode cX7_walls 114 = .ok (.ireturn, 1) := by decide +kernel
set_option maxRecDepth 20000 in
theorem ggX7_rails_X7_isNone4 : GoodIn wsX7_rails wsX7_isNone4 := goodIn_r _ [9, 10, 11, 12, 8, 13, 14] (by decide +kernel) (by decide +kernel)
set_option maxRecDepth 20000 in
theorem gX7_rails_X7_isNone4 : GoodIn wsX7_rails (va_wsS RX7 176 yX7_isNone4 wsX7_isNone4) := goodIn_app (goodIn_of _ (by decide +kernel)) ggX7_rails_X7_isNone4
set_option maxRecDepth 20000 in
theorem ggX7_rails_X7_refuses : GoodIn wsX7_rails wsX7_refuses := goodIn_r _ [18, 19, 41, 42, 43, 44, 45, 46, 47, 48, 49, 50, 51, 52, 53, 54, 55, 56, 57] (by decide +kernel) (by decide +kernel)
set_option maxRecDepth 20000 in
theorem gX7_rails_X7_refuses : GoodIn wsX7_rails (wsV RX7 156 RX7 yX7_refuses wsX7_refuses) := goodIn_app (goodIn_of _ (by decide +kernel)) ggX7_rails_X7_refuses
set_option maxRecDepth 20000 in
theorem ggX7_rails_X7_isBelow4 : GoodIn wsX7_rails wsX7_isBelow4 := goodIn_r _ [22, 23, 24, 8, 25, 11, 12, 13, 14] (by decide +kernel) (by decide +kernel)
set_option maxRecDepth 20000 in
theorem gX7_rails_X7_isBelow4 : GoodIn wsX7_rails (va_wsS RX7 187 yX7_isBelow4 wsX7_isBelow4) := goodIn_app (goodIn_of _ (by decide +kernel)) ggX7_rails_X7_isBelow4
set_option maxRecDepth 20000 in
theorem ggX7_rails_X7_railed : GoodIn wsX7_rails wsX7_railed := goodIn_r _ [29, 2, 1, 30, 31, 8, 32, 23, 24, 25, 11, 12, 13, 14, 33, 34, 35, 41, 42, 43, 44, 45, 46, 47, 48, 49, 50, 51, 52, 53, 54, 55, 56, 57] (by decide +kernel) (by decide +kernel)
set_option maxRecDepth 20000 in
theorem gX7_rails_X7_railed : GoodIn wsX7_rails (wsV RX7 145 RX7 yX7_railed wsX7_railed) := goodIn_app (goodIn_of _ (by decide +kernel)) ggX7_rails_X7_railed
set_option maxRecDepth 20000 in
theorem ggX7_rails_X7_does : GoodIn wsX7_rails wsX7_does := goodIn_r _ [39, 40, 41, 42, 43, 44, 45, 46, 47, 48, 49, 50, 51, 52, 53, 54, 55, 56, 57] (by decide +kernel) (by decide +kernel)
set_option maxRecDepth 20000 in
theorem gX7_rails_X7_does : GoodIn wsX7_rails (wsV RX7 166 RX7 yX7_does wsX7_does) := goodIn_app (goodIn_of _ (by decide +kernel)) ggX7_rails_X7_does
theorem dX7_rails_0 : decode cX7_rails 0 = .ok (.iload_n 1, 1) := by decide +kernel
theorem dX7_rails_1 : decode cX7_rails 1 = .ok (.invokestatic 176, 3) := by decide +kernel
theorem dX7_rails_4 : decode cX7_rails 4 = .ok (.ifCond .ne 10, 3) := by decide +kernel
theorem dX7_rails_7 : decode cX7_rails 7 = .ok (.iload_n 2, 1) := by decide +kernel
theorem dX7_rails_8 : decode cX7_rails 8 = .ok (.invokestatic 176, 3) := by decide +kernel
theorem dX7_rails_11 : decode cX7_rails 11 = .ok (.ifCond .eq 9, 3) := by decide +kernel
theorem dX7_rails_14 : decode cX7_rails 14 = .ok (.aload_n 0, 1) := by decide +kernel
theorem dX7_rails_15 : decode cX7_rails 15 = .ok (.iconst 2, 1) := by decide +kernel
theorem dX7_rails_16 : decode cX7_rails 16 = .ok (.invokevirtual 156, 3) := by decide +kernel
theorem dX7_rails_19 : decode cX7_rails 19 = .ok (.ireturn, 1) := by decide +kernel
theorem dX7_rails_20 : decode cX7_rails 20 = .ok (.iload_n 1, 1) := by decide +kernel
theorem dX7_rails_21 : decode cX7_rails 21 = .ok (.iload_n 2, 1) := by decide +kernel
theorem dX7_rails_22 : decode cX7_rails 22 = .ok (.invokestatic 187, 3) := by decide +kernel
theorem dX7_rails_25 : decode cX7_rails 25 = .ok (.ifCond .ne 9, 3) := by decide +kernel
theorem dX7_rails_28 : decode cX7_rails 28 = .ok (.aload_n 0, 1) := by decide +kernel
theorem dX7_rails_29 : decode cX7_rails 29 = .ok (.iconst 4, 1) := by decide +kernel
theorem dX7_rails_30 : decode cX7_rails 30 = .ok (.invokevirtual 156, 3) := by decide +kernel
theorem dX7_rails_33 : decode cX7_rails 33 = .ok (.ireturn, 1) := by decide +kernel
theorem dX7_rails_34 : decode cX7_rails 34 = .ok (.aload_n 0, 1) := by decide +kernel
theorem dX7_rails_35 : decode cX7_rails 35 = .ok (.iload_n 1, 1) := by decide +kernel
theorem dX7_rails_36 : decode cX7_rails 36 = .ok (.putfield 34, 3) := by decide +kernel
theorem dX7_rails_39 : decode cX7_rails 39 = .ok (.aload_n 0, 1) := by decide +kernel
theorem dX7_rails_40 : decode cX7_rails 40 = .ok (.iload_n 2, 1) := by decide +kernel
theorem dX7_rails_41 : decode cX7_rails 41 = .ok (.putfield 39, 3) := by decide +kernel
theorem dX7_rails_44 : decode cX7_rails 44 = .ok (.iconst 0, 1) := by decide +kernel
theorem dX7_rails_45 : decode cX7_rails 45 = .ok (.istore_n 3, 1) := by decide +kernel
theorem dX7_rails_46 : decode cX7_rails 46 = .ok (.iload_n 3, 1) := by decide +kernel
theorem dX7_rails_47 : decode cX7_rails 47 = .ok (.bipush 8, 2) := by decide +kernel
theorem dX7_rails_49 : decode cX7_rails 49 = .ok (.if_icmp .ge 50, 3) := by decide +kernel
theorem dX7_rails_52 : decode cX7_rails 52 = .ok (.aload_n 0, 1) := by decide +kernel
theorem dX7_rails_53 : decode cX7_rails 53 = .ok (.aload_n 0, 1) := by decide +kernel
theorem dX7_rails_54 : decode cX7_rails 54 = .ok (.getfield 13, 3) := by decide +kernel
theorem dX7_rails_57 : decode cX7_rails 57 = .ok (.iload_n 3, 1) := by decide +kernel
theorem dX7_rails_58 : decode cX7_rails 58 = .ok (.iaload, 1) := by decide +kernel
theorem dX7_rails_59 : decode cX7_rails 59 = .ok (.invokevirtual 145, 3) := by decide +kernel
theorem dX7_rails_62 : decode cX7_rails 62 = .ok (.istore 4, 2) := by decide +kernel
theorem dX7_rails_64 : decode cX7_rails 64 = .ok (.iload 4, 2) := by decide +kernel
theorem dX7_rails_66 : decode cX7_rails 66 = .ok (.aload_n 0, 1) := by decide +kernel
theorem dX7_rails_67 : decode cX7_rails 67 = .ok (.getfield 13, 3) := by decide +kernel
theorem dX7_rails_70 : decode cX7_rails 70 = .ok (.iload_n 3, 1) := by decide +kernel
theorem dX7_rails_71 : decode cX7_rails 71 = .ok (.iaload, 1) := by decide +kernel
theorem dX7_rails_72 : decode cX7_rails 72 = .ok (.if_icmp .eq 13, 3) := by decide +kernel
theorem dX7_rails_75 : decode cX7_rails 75 = .ok (.aload_n 0, 1) := by decide +kernel
theorem dX7_rails_76 : decode cX7_rails 76 = .ok (.dup, 1) := by decide +kernel
theorem dX7_rails_77 : decode cX7_rails 77 = .ok (.getfield 163, 3) := by decide +kernel
theorem dX7_rails_80 : decode cX7_rails 80 = .ok (.iconst 1, 1) := by decide +kernel
theorem dX7_rails_81 : decode cX7_rails 81 = .ok (.iadd, 1) := by decide +kernel
theorem dX7_rails_82 : decode cX7_rails 82 = .ok (.putfield 163, 3) := by decide +kernel
theorem dX7_rails_85 : decode cX7_rails 85 = .ok (.aload_n 0, 1) := by decide +kernel
theorem dX7_rails_86 : decode cX7_rails 86 = .ok (.getfield 13, 3) := by decide +kernel
theorem dX7_rails_89 : decode cX7_rails 89 = .ok (.iload_n 3, 1) := by decide +kernel
theorem dX7_rails_90 : decode cX7_rails 90 = .ok (.iload 4, 2) := by decide +kernel
theorem dX7_rails_92 : decode cX7_rails 92 = .ok (.iastore, 1) := by decide +kernel
theorem dX7_rails_93 : decode cX7_rails 93 = .ok (.iinc 3 1, 3) := by decide +kernel
theorem dX7_rails_96 : decode cX7_rails 96 = .ok (.goto (-50), 3) := by decide +kernel
theorem dX7_rails_99 : decode cX7_rails 99 = .ok (.aload_n 0, 1) := by decide +kernel
theorem dX7_rails_100 : decode cX7_rails 100 = .ok (.iconst 0, 1) := by decide +kernel
theorem dX7_rails_101 : decode cX7_rails 101 = .ok (.putfield 139, 3) := by decide +kernel
theorem dX7_rails_104 : decode cX7_rails 104 = .ok (.aload_n 0, 1) := by decide +kernel
theorem dX7_rails_105 : decode cX7_rails 105 = .ok (.invokevirtual 166, 3) := by decide +kernel
theorem dX7_rails_108 : decode cX7_rails 108 = .ok (.ireturn, 1) := by decide +kernel
set_option maxRecDepth 20000 in
theorem ggX7_steps_X7_isNone : GoodIn wsX7_steps wsX7_isNone := goodIn_r _ [6, 7, 8, 9, 5, 10, 11] (by decide +kernel) (by decide +kernel)
set_option maxRecDepth 20000 in
theorem gX7_steps_X7_isNone : GoodIn wsX7_steps (va_wsS RX7 173 yX7_isNone wsX7_isNone) := goodIn_app (goodIn_of _ (by decide +kernel)) ggX7_steps_X7_isNone
set_option maxRecDepth 20000 in
theorem ggX7_steps_X7_isNone4 : GoodIn wsX7_steps wsX7_isNone4 := goodIn_r _ [14, 15, 16, 17, 5, 18, 19] (by decide +kernel) (by decide +kernel)
set_option maxRecDepth 20000 in
theorem gX7_steps_X7_isNone4 : GoodIn wsX7_steps (va_wsS RX7 176 yX7_isNone4 wsX7_isNone4) := goodIn_app (goodIn_of _ (by decide +kernel)) ggX7_steps_X7_isNone4
set_option maxRecDepth 20000 in
theorem ggX7_steps_X7_refuses : GoodIn wsX7_steps wsX7_refuses := goodIn_r _ [23, 24, 49, 50, 51, 52, 53, 54, 55, 56, 57, 58, 59, 60, 61, 62, 63, 64, 65] (by decide +kernel) (by decide +kernel)
set_option maxRecDepth 20000 in
theorem gX7_steps_X7_refuses : GoodIn wsX7_steps (wsV RX7 156 RX7 yX7_refuses wsX7_refuses) := goodIn_app (goodIn_of _ (by decide +kernel)) ggX7_steps_X7_refuses
set_option maxRecDepth 20000 in
theorem ggX7_steps_X7_isInfinite : GoodIn wsX7_steps wsX7_isInfinite := goodIn_r _ [27, 7, 8, 9, 5, 10, 11] (by decide +kernel) (by decide +kernel)
set_option maxRecDepth 20000 in
theorem gX7_steps_X7_isInfinite : GoodIn wsX7_steps (va_wsS RX7 148 yX7_isInfinite wsX7_isInfinite) := goodIn_app (goodIn_of _ (by decide +kernel)) ggX7_steps_X7_isInfinite
set_option maxRecDepth 20000 in
theorem ggX7_steps_X7_isInfinite4 : GoodIn wsX7_steps wsX7_isInfinite4 := goodIn_r _ [30, 15, 16, 17, 5, 18, 19] (by decide +kernel) (by decide +kernel)
set_option maxRecDepth 20000 in
theorem gX7_steps_X7_isInfinite4 : GoodIn wsX7_steps (va_wsS RX7 152 yX7_isInfinite4 wsX7_isInfinite4) := goodIn_app (goodIn_of _ (by decide +kernel)) ggX7_steps_X7_isInfinite4
set_option maxRecDepth 20000 in
theorem ggX7_steps_X7_isBelow : GoodIn wsX7_steps wsX7_isBelow := goodIn_r _ [33, 34, 35, 5, 36, 37, 8, 9, 10, 11] (by decide +kernel) (by decide +kernel)
set_option maxRecDepth 20000 in
theorem gX7_steps_X7_isBelow : GoodIn wsX7_steps (va_wsS RX7 183 yX7_isBelow wsX7_isBelow) := goodIn_app (goodIn_of _ (by decide +kernel)) ggX7_steps_X7_isBelow
set_option maxRecDepth 20000 in
theorem ggX7_steps_X7_isBelow4 : GoodIn wsX7_steps wsX7_isBelow4 := goodIn_r _ [40, 41, 42, 5, 43, 16, 17, 18, 19] (by decide +kernel) (by decide +kernel)
set_option maxRecDepth 20000 in
theorem gX7_steps_X7_isBelow4 : GoodIn wsX7_steps (va_wsS RX7 187 yX7_isBelow4 wsX7_isBelow4) := goodIn_app (goodIn_of _ (by decide +kernel)) ggX7_steps_X7_isBelow4
set_option maxRecDepth 20000 in
theorem ggX7_steps_X7_does : GoodIn wsX7_steps wsX7_does := goodIn_r _ [47, 48, 49, 50, 51, 52, 53, 54, 55, 56, 57, 58, 59, 60, 61, 62, 63, 64, 65] (by decide +kernel) (by decide +kernel)
set_option maxRecDepth 20000 in
theorem gX7_steps_X7_does : GoodIn wsX7_steps (wsV RX7 166 RX7 yX7_does wsX7_does) := goodIn_app (goodIn_of _ (by decide +kernel)) ggX7_steps_X7_does
theorem dX7_steps_0 : decode cX7_steps 0 = .ok (.lload_n 1, 1) := by decide +kernel
theorem dX7_steps_1 : decode cX7_steps 1 = .ok (.invokestatic 173, 3) := by decide +kernel
theorem dX7_steps_4 : decode cX7_steps 4 = .ok (.ifCond .ne 10, 3) := by decide +kernel
theorem dX7_steps_7 : decode cX7_steps 7 = .ok (.iload_n 3, 1) := by decide +kernel
theorem dX7_steps_8 : decode cX7_steps 8 = .ok (.invokestatic 176, 3) := by decide +kernel
theorem dX7_steps_11 : decode cX7_steps 11 = .ok (.ifCond .eq 9, 3) := by decide +kernel
theorem dX7_steps_14 : decode cX7_steps 14 = .ok (.aload_n 0, 1) := by decide +kernel
theorem dX7_steps_15 : decode cX7_steps 15 = .ok (.iconst 2, 1) := by decide +kernel
theorem dX7_steps_16 : decode cX7_steps 16 = .ok (.invokevirtual 156, 3) := by decide +kernel
theorem dX7_steps_19 : decode cX7_steps 19 = .ok (.ireturn, 1) := by decide +kernel
theorem dX7_steps_20 : decode cX7_steps 20 = .ok (.lload_n 1, 1) := by decide +kernel
theorem dX7_steps_21 : decode cX7_steps 21 = .ok (.invokestatic 148, 3) := by decide +kernel
theorem dX7_steps_24 : decode cX7_steps 24 = .ok (.ifCond .ne 10, 3) := by decide +kernel
theorem dX7_steps_27 : decode cX7_steps 27 = .ok (.iload_n 3, 1) := by decide +kernel
theorem dX7_steps_28 : decode cX7_steps 28 = .ok (.invokestatic 152, 3) := by decide +kernel
theorem dX7_steps_31 : decode cX7_steps 31 = .ok (.ifCond .eq 9, 3) := by decide +kernel
theorem dX7_steps_34 : decode cX7_steps 34 = .ok (.aload_n 0, 1) := by decide +kernel
theorem dX7_steps_35 : decode cX7_steps 35 = .ok (.iconst 3, 1) := by decide +kernel
theorem dX7_steps_36 : decode cX7_steps 36 = .ok (.invokevirtual 156, 3) := by decide +kernel
theorem dX7_steps_39 : decode cX7_steps 39 = .ok (.ireturn, 1) := by decide +kernel
theorem dX7_steps_40 : decode cX7_steps 40 = .ok (.lconst 0, 1) := by decide +kernel
theorem dX7_steps_41 : decode cX7_steps 41 = .ok (.lload_n 1, 1) := by decide +kernel
theorem dX7_steps_42 : decode cX7_steps 42 = .ok (.invokestatic 183, 3) := by decide +kernel
theorem dX7_steps_45 : decode cX7_steps 45 = .ok (.ifCond .eq 11, 3) := by decide +kernel
theorem dX7_steps_48 : decode cX7_steps 48 = .ok (.iconst 0, 1) := by decide +kernel
theorem dX7_steps_49 : decode cX7_steps 49 = .ok (.iload_n 3, 1) := by decide +kernel
theorem dX7_steps_50 : decode cX7_steps 50 = .ok (.invokestatic 187, 3) := by decide +kernel
theorem dX7_steps_53 : decode cX7_steps 53 = .ok (.ifCond .ne 9, 3) := by decide +kernel
theorem dX7_steps_56 : decode cX7_steps 56 = .ok (.aload_n 0, 1) := by decide +kernel
theorem dX7_steps_57 : decode cX7_steps 57 = .ok (.iconst 4, 1) := by decide +kernel
theorem dX7_steps_58 : decode cX7_steps 58 = .ok (.invokevirtual 156, 3) := by decide +kernel
theorem dX7_steps_61 : decode cX7_steps 61 = .ok (.ireturn, 1) := by decide +kernel
theorem dX7_steps_62 : decode cX7_steps 62 = .ok (.aload_n 0, 1) := by decide +kernel
theorem dX7_steps_63 : decode cX7_steps 63 = .ok (.lload_n 1, 1) := by decide +kernel
theorem dX7_steps_64 : decode cX7_steps 64 = .ok (.putfield 30, 3) := by decide +kernel
theorem dX7_steps_67 : decode cX7_steps 67 = .ok (.aload_n 0, 1) := by decide +kernel
theorem dX7_steps_68 : decode cX7_steps 68 = .ok (.iload_n 3, 1) := by decide +kernel
theorem dX7_steps_69 : decode cX7_steps 69 = .ok (.putfield 43, 3) := by decide +kernel
theorem dX7_steps_72 : decode cX7_steps 72 = .ok (.aload_n 0, 1) := by decide +kernel
theorem dX7_steps_73 : decode cX7_steps 73 = .ok (.invokevirtual 166, 3) := by decide +kernel
theorem dX7_steps_76 : decode cX7_steps 76 = .ok (.ireturn, 1) := by decide +kernel
set_option maxRecDepth 20000 in
theorem ggX7_move_X7_isPoint : GoodIn wsX7_move wsX7_isPoint := goodIn_r _ [6] (by decide +kernel) (by decide +kernel)
set_option maxRecDepth 20000 in
theorem gX7_move_X7_isPoint : GoodIn wsX7_move (va_wsS RX7 170 yX7_isPoint wsX7_isPoint) := goodIn_app (goodIn_of _ (by decide +kernel)) ggX7_move_X7_isPoint
set_option maxRecDepth 20000 in
theorem ggX7_move_X7_refuses : GoodIn wsX7_move wsX7_refuses := goodIn_r _ [10, 11, 125, 126, 127, 128, 129, 130, 131, 132, 133, 134, 135, 136, 137, 138, 139, 140, 141] (by decide +kernel) (by decide +kernel)
set_option maxRecDepth 20000 in
theorem gX7_move_X7_refuses : GoodIn wsX7_move (wsV RX7 156 RX7 yX7_refuses wsX7_refuses) := goodIn_app (goodIn_of _ (by decide +kernel)) ggX7_move_X7_refuses
set_option maxRecDepth 20000 in
theorem ggX7_move_X7_isNone : GoodIn wsX7_move wsX7_isNone := goodIn_r _ [14, 15, 16, 17, 5, 18, 19] (by decide +kernel) (by decide +kernel)
set_option maxRecDepth 20000 in
theorem gX7_move_X7_isNone : GoodIn wsX7_move (va_wsS RX7 173 yX7_isNone wsX7_isNone) := goodIn_app (goodIn_of _ (by decide +kernel)) ggX7_move_X7_isNone
set_option maxRecDepth 20000 in
theorem ggX7_move_X7_isNone4 : GoodIn wsX7_move wsX7_isNone4 := goodIn_r _ [22, 23, 24, 25, 5, 26, 27] (by decide +kernel) (by decide +kernel)
set_option maxRecDepth 20000 in
theorem gX7_move_X7_isNone4 : GoodIn wsX7_move (va_wsS RX7 176 yX7_isNone4 wsX7_isNone4) := goodIn_app (goodIn_of _ (by decide +kernel)) ggX7_move_X7_isNone4
set_option maxRecDepth 20000 in
theorem ggX7_move_X7_of : GoodIn wsX7_move wsX7_of := goodIn_r _ [30, 31, 32, 33, 34] (by decide +kernel) (by decide +kernel)
set_option maxRecDepth 20000 in
theorem gX7_move_X7_of : GoodIn wsX7_move (va_wsS RX7 191 yX7_of wsX7_of) := goodIn_app (goodIn_of _ (by decide +kernel)) ggX7_move_X7_of
set_option maxRecDepth 20000 in
theorem ggX7_move_X7_bits : GoodIn wsX7_move wsX7_bits := goodIn_r _ [37, 38, 39, 40, 41, 42, 43, 44, 34, 45, 46, 47, 48] (by decide +kernel) (by decide +kernel)
set_option maxRecDepth 20000 in
theorem gX7_move_X7_bits : GoodIn wsX7_move (va_wsS RX7 194 yX7_bits wsX7_bits) := goodIn_app (goodIn_of _ (by decide +kernel)) ggX7_move_X7_bits
set_option maxRecDepth 20000 in
theorem ggX7_move_X7_of4 : GoodIn wsX7_move wsX7_of4 := goodIn_r _ [51, 52, 53, 54, 55] (by decide +kernel) (by decide +kernel)
set_option maxRecDepth 20000 in
theorem gX7_move_X7_of4 : GoodIn wsX7_move (va_wsS RX7 197 yX7_of4 wsX7_of4) := goodIn_app (goodIn_of _ (by decide +kernel)) ggX7_move_X7_of4
set_option maxRecDepth 20000 in
theorem ggX7_move_X7_bits4 : GoodIn wsX7_move wsX7_bits4 := goodIn_r _ [58, 59, 60, 61, 62, 63, 64, 65, 55, 66, 67, 68, 69] (by decide +kernel) (by decide +kernel)
set_option maxRecDepth 20000 in
theorem gX7_move_X7_bits4 : GoodIn wsX7_move (va_wsS RX7 200 yX7_bits4 wsX7_bits4) := goodIn_app (goodIn_of _ (by decide +kernel)) ggX7_move_X7_bits4
set_option maxRecDepth 20000 in
theorem ggX7_move_X7_comes : GoodIn wsX7_move wsX7_comes := goodIn_r _ [73, 74, 1, 2, 75, 76, 77, 5, 78, 79, 80, 81, 82, 83, 84, 85, 86, 87, 16, 17, 18, 19, 88, 89, 90, 91, 92, 93, 94, 95, 96, 97, 98, 99, 100, 101, 102, 24, 25, 26, 27, 103, 104, 105, 106, 107, 108, 15, 109, 110, 111, 23, 7, 8, 9, 10, 11, 112, 113, 114, 115, 116, 117, 118, 119, 120, 121, 122, 123, 124, 125, 126, 127, 128, 129, 130, 131, 132, 133, 134, 135, 136, 137, 138, 139, 140, 141] (by decide +kernel) (by decide +kernel)
set_option maxRecDepth 20000 in
theorem gX7_move_X7_comes : GoodIn wsX7_move (wsV RX7 179 RX7 yX7_comes wsX7_comes) := goodIn_app (goodIn_of _ (by decide +kernel)) ggX7_move_X7_comes
theorem dX7_move_0 : decode cX7_move 0 = .ok (.iload_n 1, 1) := by decide +kernel
theorem dX7_move_1 : decode cX7_move 1 = .ok (.invokestatic 170, 3) := by decide +kernel
theorem dX7_move_4 : decode cX7_move 4 = .ok (.ifCond .ne 9, 3) := by decide +kernel
theorem dX7_move_7 : decode cX7_move 7 = .ok (.aload_n 0, 1) := by decide +kernel
theorem dX7_move_8 : decode cX7_move 8 = .ok (.iconst 1, 1) := by decide +kernel
theorem dX7_move_9 : decode cX7_move 9 = .ok (.invokevirtual 156, 3) := by decide +kernel
theorem dX7_move_12 : decode cX7_move 12 = .ok (.ireturn, 1) := by decide +kernel
theorem dX7_move_13 : decode cX7_move 13 = .ok (.lload_n 2, 1) := by decide +kernel
theorem dX7_move_14 : decode cX7_move 14 = .ok (.invokestatic 173, 3) := by decide +kernel
theorem dX7_move_17 : decode cX7_move 17 = .ok (.ifCond .ne 11, 3) := by decide +kernel
theorem dX7_move_20 : decode cX7_move 20 = .ok (.iload 4, 2) := by decide +kernel
theorem dX7_move_22 : decode cX7_move 22 = .ok (.invokestatic 176, 3) := by decide +kernel
theorem dX7_move_25 : decode cX7_move 25 = .ok (.ifCond .eq 9, 3) := by decide +kernel
theorem dX7_move_28 : decode cX7_move 28 = .ok (.aload_n 0, 1) := by decide +kernel
theorem dX7_move_29 : decode cX7_move 29 = .ok (.iconst 2, 1) := by decide +kernel
theorem dX7_move_30 : decode cX7_move 30 = .ok (.invokevirtual 156, 3) := by decide +kernel
theorem dX7_move_33 : decode cX7_move 33 = .ok (.ireturn, 1) := by decide +kernel
theorem dX7_move_34 : decode cX7_move 34 = .ok (.aload_n 0, 1) := by decide +kernel
theorem dX7_move_35 : decode cX7_move 35 = .ok (.iload_n 1, 1) := by decide +kernel
theorem dX7_move_36 : decode cX7_move 36 = .ok (.aload_n 0, 1) := by decide +kernel
theorem dX7_move_37 : decode cX7_move 37 = .ok (.getfield 7, 3) := by decide +kernel
theorem dX7_move_40 : decode cX7_move 40 = .ok (.iload_n 1, 1) := by decide +kernel
theorem dX7_move_41 : decode cX7_move 41 = .ok (.laload, 1) := by decide +kernel
theorem dX7_move_42 : decode cX7_move 42 = .ok (.invokestatic 191, 3) := by decide +kernel
theorem dX7_move_45 : decode cX7_move 45 = .ok (.lload_n 2, 1) := by decide +kernel
theorem dX7_move_46 : decode cX7_move 46 = .ok (.invokestatic 191, 3) := by decide +kernel
theorem dX7_move_49 : decode cX7_move 49 = .ok (.dadd, 1) := by decide +kernel
theorem dX7_move_50 : decode cX7_move 50 = .ok (.invokestatic 194, 3) := by decide +kernel
theorem dX7_move_53 : decode cX7_move 53 = .ok (.aload_n 0, 1) := by decide +kernel
theorem dX7_move_54 : decode cX7_move 54 = .ok (.getfield 13, 3) := by decide +kernel
theorem dX7_move_57 : decode cX7_move 57 = .ok (.iload_n 1, 1) := by decide +kernel
theorem dX7_move_58 : decode cX7_move 58 = .ok (.iaload, 1) := by decide +kernel
theorem dX7_move_59 : decode cX7_move 59 = .ok (.invokestatic 197, 3) := by decide +kernel
theorem dX7_move_62 : decode cX7_move 62 = .ok (.iload 4, 2) := by decide +kernel
theorem dX7_move_64 : decode cX7_move 64 = .ok (.invokestatic 197, 3) := by decide +kernel
theorem dX7_move_67 : decode cX7_move 67 = .ok (.fadd, 1) := by decide +kernel
theorem dX7_move_68 : decode cX7_move 68 = .ok (.invokestatic 200, 3) := by decide +kernel
theorem dX7_move_71 : decode cX7_move 71 = .ok (.invokevirtual 179, 3) := by decide +kernel
theorem dX7_move_74 : decode cX7_move 74 = .ok (.ireturn, 1) := by decide +kernel
set_option maxRecDepth 20000 in
theorem ggX7_snap_X7_isPoint : GoodIn wsX7_snap wsX7_isPoint := goodIn_r _ [8] (by decide +kernel) (by decide +kernel)
set_option maxRecDepth 20000 in
theorem gX7_snap_X7_isPoint : GoodIn wsX7_snap (va_wsS RX7 170 yX7_isPoint wsX7_isPoint) := goodIn_app (goodIn_of _ (by decide +kernel)) ggX7_snap_X7_isPoint
set_option maxRecDepth 20000 in
theorem ggX7_snap_X7_refuses : GoodIn wsX7_snap wsX7_refuses := goodIn_r _ [12, 13, 137, 138, 139, 140, 141, 142, 143, 144, 145, 146, 147, 148, 149, 150, 151, 152, 153] (by decide +kernel) (by decide +kernel)
set_option maxRecDepth 20000 in
theorem gX7_snap_X7_refuses : GoodIn wsX7_snap (wsV RX7 156 RX7 yX7_refuses wsX7_refuses) := goodIn_app (goodIn_of _ (by decide +kernel)) ggX7_snap_X7_refuses
set_option maxRecDepth 20000 in
theorem ggX7_snap_X7_of : GoodIn wsX7_snap wsX7_of := goodIn_r _ [16, 17, 18, 19, 20] (by decide +kernel) (by decide +kernel)
set_option maxRecDepth 20000 in
theorem gX7_snap_X7_of : GoodIn wsX7_snap (va_wsS RX7 191 yX7_of wsX7_of) := goodIn_app (goodIn_of _ (by decide +kernel)) ggX7_snap_X7_of
set_option maxRecDepth 20000 in
theorem ggX7_snap_X7_bits : GoodIn wsX7_snap wsX7_bits := goodIn_r _ [23, 24, 25, 26, 27, 28, 29, 30, 20, 31, 32, 33, 34] (by decide +kernel) (by decide +kernel)
set_option maxRecDepth 20000 in
theorem gX7_snap_X7_bits : GoodIn wsX7_snap (va_wsS RX7 194 yX7_bits wsX7_bits) := goodIn_app (goodIn_of _ (by decide +kernel)) ggX7_snap_X7_bits
set_option maxRecDepth 20000 in
theorem ggX7_snap_X7_whole : GoodIn wsX7_snap wsX7_whole := goodIn_r _ [37, 38, 39, 40, 41, 42, 43, 7, 44, 45, 46, 47, 48] (by decide +kernel) (by decide +kernel)
set_option maxRecDepth 20000 in
theorem gX7_snap_X7_whole : GoodIn wsX7_snap (va_wsS RX7 203 yX7_whole wsX7_whole) := goodIn_app (goodIn_of _ (by decide +kernel)) ggX7_snap_X7_whole
set_option maxRecDepth 20000 in
theorem ggX7_snap_X7_of4 : GoodIn wsX7_snap wsX7_of4 := goodIn_r _ [51, 52, 53, 54, 55] (by decide +kernel) (by decide +kernel)
set_option maxRecDepth 20000 in
theorem gX7_snap_X7_of4 : GoodIn wsX7_snap (va_wsS RX7 197 yX7_of4 wsX7_of4) := goodIn_app (goodIn_of _ (by decide +kernel)) ggX7_snap_X7_of4
set_option maxRecDepth 20000 in
theorem ggX7_snap_X7_bits4 : GoodIn wsX7_snap wsX7_bits4 := goodIn_r _ [58, 59, 60, 61, 62, 63, 64, 65, 55, 66, 67, 68, 69] (by decide +kernel) (by decide +kernel)
set_option maxRecDepth 20000 in
theorem gX7_snap_X7_bits4 : GoodIn wsX7_snap (va_wsS RX7 200 yX7_bits4 wsX7_bits4) := goodIn_app (goodIn_of _ (by decide +kernel)) ggX7_snap_X7_bits4
set_option maxRecDepth 20000 in
theorem ggX7_snap_X7_whole4 : GoodIn wsX7_snap wsX7_whole4 := goodIn_r _ [72, 73, 74, 75, 76, 77, 7, 78, 79] (by decide +kernel) (by decide +kernel)
set_option maxRecDepth 20000 in
theorem gX7_snap_X7_whole4 : GoodIn wsX7_snap (va_wsS RX7 207 yX7_whole4 wsX7_whole4) := goodIn_app (goodIn_of _ (by decide +kernel)) ggX7_snap_X7_whole4
set_option maxRecDepth 20000 in
theorem ggX7_snap_X7_comes : GoodIn wsX7_snap wsX7_comes := goodIn_r _ [83, 84, 1, 3, 85, 86, 87, 7, 88, 89, 90, 91, 92, 93, 94, 95, 96, 97, 42, 43, 44, 45, 98, 99, 100, 101, 102, 103, 104, 105, 106, 107, 108, 109, 110, 111, 112, 76, 77, 78, 79, 113, 114, 115, 116, 117, 118, 119, 120, 121, 122, 123, 9, 10, 11, 12, 13, 124, 125, 126, 127, 128, 129, 130, 131, 132, 133, 134, 135, 136, 137, 138, 139, 140, 141, 142, 143, 144, 145, 146, 147, 148, 149, 150, 151, 152, 153] (by decide +kernel) (by decide +kernel)
set_option maxRecDepth 20000 in
theorem gX7_snap_X7_comes : GoodIn wsX7_snap (wsV RX7 179 RX7 yX7_comes wsX7_comes) := goodIn_app (goodIn_of _ (by decide +kernel)) ggX7_snap_X7_comes
theorem dX7_snap_0 : decode cX7_snap 0 = .ok (.iload_n 1, 1) := by decide +kernel
theorem dX7_snap_1 : decode cX7_snap 1 = .ok (.invokestatic 170, 3) := by decide +kernel
theorem dX7_snap_4 : decode cX7_snap 4 = .ok (.ifCond .eq 12, 3) := by decide +kernel
theorem dX7_snap_7 : decode cX7_snap 7 = .ok (.iload_n 2, 1) := by decide +kernel
theorem dX7_snap_8 : decode cX7_snap 8 = .ok (.ifCond .lt 8, 3) := by decide +kernel
theorem dX7_snap_11 : decode cX7_snap 11 = .ok (.iload_n 2, 1) := by decide +kernel
theorem dX7_snap_12 : decode cX7_snap 12 = .ok (.iconst 3, 1) := by decide +kernel
theorem dX7_snap_13 : decode cX7_snap 13 = .ok (.if_icmp .le 9, 3) := by decide +kernel
theorem dX7_snap_16 : decode cX7_snap 16 = .ok (.aload_n 0, 1) := by decide +kernel
theorem dX7_snap_17 : decode cX7_snap 17 = .ok (.iconst 1, 1) := by decide +kernel
theorem dX7_snap_18 : decode cX7_snap 18 = .ok (.invokevirtual 156, 3) := by decide +kernel
theorem dX7_snap_21 : decode cX7_snap 21 = .ok (.ireturn, 1) := by decide +kernel
theorem dX7_snap_22 : decode cX7_snap 22 = .ok (.aload_n 0, 1) := by decide +kernel
theorem dX7_snap_23 : decode cX7_snap 23 = .ok (.getfield 7, 3) := by decide +kernel
theorem dX7_snap_26 : decode cX7_snap 26 = .ok (.iload_n 1, 1) := by decide +kernel
theorem dX7_snap_27 : decode cX7_snap 27 = .ok (.laload, 1) := by decide +kernel
theorem dX7_snap_28 : decode cX7_snap 28 = .ok (.invokestatic 191, 3) := by decide +kernel
theorem dX7_snap_31 : decode cX7_snap 31 = .ok (.aload_n 0, 1) := by decide +kernel
theorem dX7_snap_32 : decode cX7_snap 32 = .ok (.getfield 30, 3) := by decide +kernel
theorem dX7_snap_35 : decode cX7_snap 35 = .ok (.invokestatic 191, 3) := by decide +kernel
theorem dX7_snap_38 : decode cX7_snap 38 = .ok (.ddiv, 1) := by decide +kernel
theorem dX7_snap_39 : decode cX7_snap 39 = .ok (.invokestatic 194, 3) := by decide +kernel
theorem dX7_snap_42 : decode cX7_snap 42 = .ok (.iload_n 2, 1) := by decide +kernel
theorem dX7_snap_43 : decode cX7_snap 43 = .ok (.invokestatic 203, 3) := by decide +kernel
theorem dX7_snap_46 : decode cX7_snap 46 = .ok (.lstore_n 3, 1) := by decide +kernel
theorem dX7_snap_47 : decode cX7_snap 47 = .ok (.aload_n 0, 1) := by decide +kernel
theorem dX7_snap_48 : decode cX7_snap 48 = .ok (.getfield 13, 3) := by decide +kernel
theorem dX7_snap_51 : decode cX7_snap 51 = .ok (.iload_n 1, 1) := by decide +kernel
theorem dX7_snap_52 : decode cX7_snap 52 = .ok (.iaload, 1) := by decide +kernel
theorem dX7_snap_53 : decode cX7_snap 53 = .ok (.invokestatic 197, 3) := by decide +kernel
theorem dX7_snap_56 : decode cX7_snap 56 = .ok (.aload_n 0, 1) := by decide +kernel
theorem dX7_snap_57 : decode cX7_snap 57 = .ok (.getfield 43, 3) := by decide +kernel
theorem dX7_snap_60 : decode cX7_snap 60 = .ok (.invokestatic 197, 3) := by decide +kernel
theorem dX7_snap_63 : decode cX7_snap 63 = .ok (.fdiv, 1) := by decide +kernel
theorem dX7_snap_64 : decode cX7_snap 64 = .ok (.invokestatic 200, 3) := by decide +kernel
theorem dX7_snap_67 : decode cX7_snap 67 = .ok (.iload_n 2, 1) := by decide +kernel
theorem dX7_snap_68 : decode cX7_snap 68 = .ok (.invokestatic 207, 3) := by decide +kernel
theorem dX7_snap_71 : decode cX7_snap 71 = .ok (.istore 5, 2) := by decide +kernel
theorem dX7_snap_73 : decode cX7_snap 73 = .ok (.aload_n 0, 1) := by decide +kernel
theorem dX7_snap_74 : decode cX7_snap 74 = .ok (.iload_n 1, 1) := by decide +kernel
theorem dX7_snap_75 : decode cX7_snap 75 = .ok (.lload_n 3, 1) := by decide +kernel
theorem dX7_snap_76 : decode cX7_snap 76 = .ok (.invokestatic 191, 3) := by decide +kernel
theorem dX7_snap_79 : decode cX7_snap 79 = .ok (.aload_n 0, 1) := by decide +kernel
theorem dX7_snap_80 : decode cX7_snap 80 = .ok (.getfield 30, 3) := by decide +kernel
theorem dX7_snap_83 : decode cX7_snap 83 = .ok (.invokestatic 191, 3) := by decide +kernel
theorem dX7_snap_86 : decode cX7_snap 86 = .ok (.dmul, 1) := by decide +kernel
theorem dX7_snap_87 : decode cX7_snap 87 = .ok (.invokestatic 194, 3) := by decide +kernel
theorem dX7_snap_90 : decode cX7_snap 90 = .ok (.iload 5, 2) := by decide +kernel
theorem dX7_snap_92 : decode cX7_snap 92 = .ok (.invokestatic 197, 3) := by decide +kernel
theorem dX7_snap_95 : decode cX7_snap 95 = .ok (.aload_n 0, 1) := by decide +kernel
theorem dX7_snap_96 : decode cX7_snap 96 = .ok (.getfield 43, 3) := by decide +kernel
theorem dX7_snap_99 : decode cX7_snap 99 = .ok (.invokestatic 197, 3) := by decide +kernel
theorem dX7_snap_102 : decode cX7_snap 102 = .ok (.fmul, 1) := by decide +kernel
theorem dX7_snap_103 : decode cX7_snap 103 = .ok (.invokestatic 200, 3) := by decide +kernel
theorem dX7_snap_106 : decode cX7_snap 106 = .ok (.invokevirtual 179, 3) := by decide +kernel
theorem dX7_snap_109 : decode cX7_snap 109 = .ok (.ireturn, 1) := by decide +kernel
set_option maxRecDepth 20000 in
theorem ggX7_lean_X7_isPoint : GoodIn wsX7_lean wsX7_isPoint := goodIn_r _ [8] (by decide +kernel) (by decide +kernel)
set_option maxRecDepth 20000 in
theorem gX7_lean_X7_isPoint : GoodIn wsX7_lean (va_wsS RX7 170 yX7_isPoint wsX7_isPoint) := goodIn_app (goodIn_of _ (by decide +kernel)) ggX7_lean_X7_isPoint
set_option maxRecDepth 20000 in
theorem ggX7_lean_X7_refuses : GoodIn wsX7_lean wsX7_refuses := goodIn_r _ [12, 13, 79, 80, 81, 82, 83, 84, 85, 86, 87, 88, 89, 90, 91, 92, 93, 94, 95] (by decide +kernel) (by decide +kernel)
set_option maxRecDepth 20000 in
theorem gX7_lean_X7_refuses : GoodIn wsX7_lean (wsV RX7 156 RX7 yX7_refuses wsX7_refuses) := goodIn_app (goodIn_of _ (by decide +kernel)) ggX7_lean_X7_refuses
set_option maxRecDepth 20000 in
theorem ggX7_lean_X7_size : GoodIn wsX7_lean wsX7_size := goodIn_r _ [16, 17] (by decide +kernel) (by decide +kernel)
set_option maxRecDepth 20000 in
theorem gX7_lean_X7_size : GoodIn wsX7_lean (va_wsS RX7 74 yX7_size wsX7_size) := goodIn_app (goodIn_of _ (by decide +kernel)) ggX7_lean_X7_size
set_option maxRecDepth 20000 in
theorem ggX7_lean_X7_size4 : GoodIn wsX7_lean wsX7_size4 := goodIn_r _ [20, 21] (by decide +kernel) (by decide +kernel)
set_option maxRecDepth 20000 in
theorem gX7_lean_X7_size4 : GoodIn wsX7_lean (va_wsS RX7 109 yX7_size4 wsX7_size4) := goodIn_app (goodIn_of _ (by decide +kernel)) ggX7_lean_X7_size4
set_option maxRecDepth 20000 in
theorem ggX7_lean_X7_comes : GoodIn wsX7_lean wsX7_comes := goodIn_r _ [25, 26, 1, 3, 27, 28, 29, 7, 30, 31, 32, 33, 34, 35, 36, 37, 38, 39, 14, 15, 16, 17, 40, 41, 42, 43, 44, 45, 46, 47, 48, 49, 50, 51, 52, 53, 54, 18, 19, 20, 21, 55, 56, 57, 58, 59, 60, 61, 62, 63, 64, 65, 9, 10, 11, 12, 13, 66, 67, 68, 69, 70, 71, 72, 73, 74, 75, 76, 77, 78, 79, 80, 81, 82, 83, 84, 85, 86, 87, 88, 89, 90, 91, 92, 93, 94, 95] (by decide +kernel) (by decide +kernel)
set_option maxRecDepth 20000 in
theorem gX7_lean_X7_comes : GoodIn wsX7_lean (wsV RX7 179 RX7 yX7_comes wsX7_comes) := goodIn_app (goodIn_of _ (by decide +kernel)) ggX7_lean_X7_comes
theorem dX7_lean_0 : decode cX7_lean 0 = .ok (.iload_n 1, 1) := by decide +kernel
theorem dX7_lean_1 : decode cX7_lean 1 = .ok (.invokestatic 170, 3) := by decide +kernel
theorem dX7_lean_4 : decode cX7_lean 4 = .ok (.ifCond .eq 10, 3) := by decide +kernel
theorem dX7_lean_7 : decode cX7_lean 7 = .ok (.iload_n 2, 1) := by decide +kernel
theorem dX7_lean_8 : decode cX7_lean 8 = .ok (.invokestatic 170, 3) := by decide +kernel
theorem dX7_lean_11 : decode cX7_lean 11 = .ok (.ifCond .ne 9, 3) := by decide +kernel
theorem dX7_lean_14 : decode cX7_lean 14 = .ok (.aload_n 0, 1) := by decide +kernel
theorem dX7_lean_15 : decode cX7_lean 15 = .ok (.iconst 1, 1) := by decide +kernel
theorem dX7_lean_16 : decode cX7_lean 16 = .ok (.invokevirtual 156, 3) := by decide +kernel
theorem dX7_lean_19 : decode cX7_lean 19 = .ok (.ireturn, 1) := by decide +kernel
theorem dX7_lean_20 : decode cX7_lean 20 = .ok (.aload_n 0, 1) := by decide +kernel
theorem dX7_lean_21 : decode cX7_lean 21 = .ok (.iload_n 1, 1) := by decide +kernel
theorem dX7_lean_22 : decode cX7_lean 22 = .ok (.aload_n 0, 1) := by decide +kernel
theorem dX7_lean_23 : decode cX7_lean 23 = .ok (.getfield 7, 3) := by decide +kernel
theorem dX7_lean_26 : decode cX7_lean 26 = .ok (.iload_n 1, 1) := by decide +kernel
theorem dX7_lean_27 : decode cX7_lean 27 = .ok (.laload, 1) := by decide +kernel
theorem dX7_lean_28 : decode cX7_lean 28 = .ok (.invokestatic 74, 3) := by decide +kernel
theorem dX7_lean_31 : decode cX7_lean 31 = .ok (.aload_n 0, 1) := by decide +kernel
theorem dX7_lean_32 : decode cX7_lean 32 = .ok (.getfield 7, 3) := by decide +kernel
theorem dX7_lean_35 : decode cX7_lean 35 = .ok (.iload_n 2, 1) := by decide +kernel
theorem dX7_lean_36 : decode cX7_lean 36 = .ok (.laload, 1) := by decide +kernel
theorem dX7_lean_37 : decode cX7_lean 37 = .ok (.ldc2_w 83, 3) := by decide +kernel
theorem dX7_lean_40 : decode cX7_lean 40 = .ok (.land, 1) := by decide +kernel
theorem dX7_lean_41 : decode cX7_lean 41 = .ok (.lor, 1) := by decide +kernel
theorem dX7_lean_42 : decode cX7_lean 42 = .ok (.aload_n 0, 1) := by decide +kernel
theorem dX7_lean_43 : decode cX7_lean 43 = .ok (.getfield 13, 3) := by decide +kernel
theorem dX7_lean_46 : decode cX7_lean 46 = .ok (.iload_n 1, 1) := by decide +kernel
theorem dX7_lean_47 : decode cX7_lean 47 = .ok (.iaload, 1) := by decide +kernel
theorem dX7_lean_48 : decode cX7_lean 48 = .ok (.invokestatic 109, 3) := by decide +kernel
theorem dX7_lean_51 : decode cX7_lean 51 = .ok (.aload_n 0, 1) := by decide +kernel
theorem dX7_lean_52 : decode cX7_lean 52 = .ok (.getfield 13, 3) := by decide +kernel
theorem dX7_lean_55 : decode cX7_lean 55 = .ok (.iload_n 2, 1) := by decide +kernel
theorem dX7_lean_56 : decode cX7_lean 56 = .ok (.iaload, 1) := by decide +kernel
theorem dX7_lean_57 : decode cX7_lean 57 = .ok (.ldc 98, 2) := by decide +kernel
theorem dX7_lean_59 : decode cX7_lean 59 = .ok (.iand, 1) := by decide +kernel
theorem dX7_lean_60 : decode cX7_lean 60 = .ok (.ior, 1) := by decide +kernel
theorem dX7_lean_61 : decode cX7_lean 61 = .ok (.invokevirtual 179, 3) := by decide +kernel
theorem dX7_lean_64 : decode cX7_lean 64 = .ok (.ireturn, 1) := by decide +kernel
set_option maxRecDepth 20000 in
theorem ggX7_pull_X7_isPoint : GoodIn wsX7_pull wsX7_isPoint := goodIn_r _ [6] (by decide +kernel) (by decide +kernel)
set_option maxRecDepth 20000 in
theorem gX7_pull_X7_isPoint : GoodIn wsX7_pull (va_wsS RX7 170 yX7_isPoint wsX7_isPoint) := goodIn_app (goodIn_of _ (by decide +kernel)) ggX7_pull_X7_isPoint
set_option maxRecDepth 20000 in
theorem ggX7_pull_X7_refuses : GoodIn wsX7_pull wsX7_refuses := goodIn_r _ [10, 11, 52, 53, 54, 55, 56, 57, 58, 59, 60, 61, 62, 63, 64, 65, 66, 67, 68] (by decide +kernel) (by decide +kernel)
set_option maxRecDepth 20000 in
theorem gX7_pull_X7_refuses : GoodIn wsX7_pull (wsV RX7 156 RX7 yX7_refuses wsX7_refuses) := goodIn_app (goodIn_of _ (by decide +kernel)) ggX7_pull_X7_refuses
set_option maxRecDepth 20000 in
theorem ggX7_pull_X7_keeps : GoodIn wsX7_pull wsX7_keeps := goodIn_r _ [15, 16, 17, 18, 1, 19, 2, 52, 53, 54, 55, 56, 57, 58, 59, 60, 61, 62, 63, 64, 65, 66, 67, 68] (by decide +kernel) (by decide +kernel)
set_option maxRecDepth 20000 in
theorem gX7_pull_X7_keeps : GoodIn wsX7_pull (wsV RX7 159 RX7 yX7_keeps wsX7_keeps) := goodIn_app (goodIn_of _ (by decide +kernel)) ggX7_pull_X7_keeps
set_option maxRecDepth 20000 in
theorem ggX7_pull_X7_greater : GoodIn wsX7_pull wsX7_greater := goodIn_r _ [22, 23, 24, 5, 25, 26, 27, 28, 29, 30] (by decide +kernel) (by decide +kernel)
set_option maxRecDepth 20000 in
theorem gX7_pull_X7_greater : GoodIn wsX7_pull (va_wsS RX7 129 yX7_greater wsX7_greater) := goodIn_app (goodIn_of _ (by decide +kernel)) ggX7_pull_X7_greater
set_option maxRecDepth 20000 in
theorem ggX7_pull_X7_lesser : GoodIn wsX7_pull wsX7_lesser := goodIn_r _ [33, 23, 24, 5, 25, 26, 27, 28, 29, 30] (by decide +kernel) (by decide +kernel)
set_option maxRecDepth 20000 in
theorem gX7_pull_X7_lesser : GoodIn wsX7_pull (va_wsS RX7 125 yX7_lesser wsX7_lesser) := goodIn_app (goodIn_of _ (by decide +kernel)) ggX7_pull_X7_lesser
set_option maxRecDepth 20000 in
theorem ggX7_pull_X7_greater4 : GoodIn wsX7_pull wsX7_greater4 := goodIn_r _ [36, 37, 38, 5, 39, 40, 41, 42, 43] (by decide +kernel) (by decide +kernel)
