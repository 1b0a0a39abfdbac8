theorem dX5_digestTo_118 : decode cX5_digestTo 118 = .ok (.aload_n 0, 1) := by decide +kernel
theorem dX5_digestTo_119 : decode cX5_digestTo 119 = .ok (.getfield 139, 3) := by decide +kernel
theorem dX5_digestTo_122 : decode cX5_digestTo 122 = .ok (.bipush 6, 2) := by decide +kernel
theorem dX5_digestTo_124 : decode cX5_digestTo 124 = .ok (.ldc 177, 2) := by decide +kernel
theorem dX5_digestTo_126 : decode cX5_digestTo 126 = .ok (.iastore, 1) := by decide +kernel
theorem dX5_digestTo_127 : decode cX5_digestTo 127 = .ok (.aload_n 0, 1) := by decide +kernel
theorem dX5_digestTo_128 : decode cX5_digestTo 128 = .ok (.getfield 139, 3) := by decide +kernel
theorem dX5_digestTo_131 : decode cX5_digestTo 131 = .ok (.bipush 7, 2) := by decide +kernel
theorem dX5_digestTo_133 : decode cX5_digestTo 133 = .ok (.ldc 178, 2) := by decide +kernel
theorem dX5_digestTo_135 : decode cX5_digestTo 135 = .ok (.iastore, 1) := by decide +kernel
theorem dX5_digestTo_136 : decode cX5_digestTo 136 = .ok (.iconst 0, 1) := by decide +kernel
theorem dX5_digestTo_137 : decode cX5_digestTo 137 = .ok (.istore_n 3, 1) := by decide +kernel
theorem dX5_digestTo_138 : decode cX5_digestTo 138 = .ok (.iload_n 3, 1) := by decide +kernel
theorem dX5_digestTo_139 : decode cX5_digestTo 139 = .ok (.aload_n 0, 1) := by decide +kernel
theorem dX5_digestTo_140 : decode cX5_digestTo 140 = .ok (.getfield 156, 3) := by decide +kernel
theorem dX5_digestTo_143 : decode cX5_digestTo 143 = .ok (.if_icmp .ge 14, 3) := by decide +kernel
theorem dX5_digestTo_146 : decode cX5_digestTo 146 = .ok (.aload_n 0, 1) := by decide +kernel
theorem dX5_digestTo_147 : decode cX5_digestTo 147 = .ok (.iload_n 3, 1) := by decide +kernel
theorem dX5_digestTo_148 : decode cX5_digestTo 148 = .ok (.invokevirtual 179, 3) := by decide +kernel
theorem dX5_digestTo_151 : decode cX5_digestTo 151 = .ok (.iinc 3 64, 3) := by decide +kernel
theorem dX5_digestTo_154 : decode cX5_digestTo 154 = .ok (.goto (-16), 3) := by decide +kernel
theorem dX5_digestTo_157 : decode cX5_digestTo 157 = .ok (.iconst 0, 1) := by decide +kernel
theorem dX5_digestTo_158 : decode cX5_digestTo 158 = .ok (.istore_n 3, 1) := by decide +kernel
theorem dX5_digestTo_159 : decode cX5_digestTo 159 = .ok (.iload_n 3, 1) := by decide +kernel
theorem dX5_digestTo_160 : decode cX5_digestTo 160 = .ok (.bipush 32, 2) := by decide +kernel
theorem dX5_digestTo_162 : decode cX5_digestTo 162 = .ok (.if_icmp .ge 39, 3) := by decide +kernel
theorem dX5_digestTo_165 : decode cX5_digestTo 165 = .ok (.aload_n 0, 1) := by decide +kernel
theorem dX5_digestTo_166 : decode cX5_digestTo 166 = .ok (.getfield 29, 3) := by decide +kernel
theorem dX5_digestTo_169 : decode cX5_digestTo 169 = .ok (.iload_n 1, 1) := by decide +kernel
theorem dX5_digestTo_170 : decode cX5_digestTo 170 = .ok (.iload_n 3, 1) := by decide +kernel
theorem dX5_digestTo_171 : decode cX5_digestTo 171 = .ok (.iadd, 1) := by decide +kernel
theorem dX5_digestTo_172 : decode cX5_digestTo 172 = .ok (.aload_n 0, 1) := by decide +kernel
theorem dX5_digestTo_173 : decode cX5_digestTo 173 = .ok (.getfield 139, 3) := by decide +kernel
theorem dX5_digestTo_176 : decode cX5_digestTo 176 = .ok (.iload_n 3, 1) := by decide +kernel
theorem dX5_digestTo_177 : decode cX5_digestTo 177 = .ok (.iconst 4, 1) := by decide +kernel
theorem dX5_digestTo_178 : decode cX5_digestTo 178 = .ok (.idiv, 1) := by decide +kernel
theorem dX5_digestTo_179 : decode cX5_digestTo 179 = .ok (.iaload, 1) := by decide +kernel
theorem dX5_digestTo_180 : decode cX5_digestTo 180 = .ok (.bipush 24, 2) := by decide +kernel
theorem dX5_digestTo_182 : decode cX5_digestTo 182 = .ok (.bipush 8, 2) := by decide +kernel
theorem dX5_digestTo_184 : decode cX5_digestTo 184 = .ok (.iload_n 3, 1) := by decide +kernel
theorem dX5_digestTo_185 : decode cX5_digestTo 185 = .ok (.iconst 4, 1) := by decide +kernel
theorem dX5_digestTo_186 : decode cX5_digestTo 186 = .ok (.irem, 1) := by decide +kernel
theorem dX5_digestTo_187 : decode cX5_digestTo 187 = .ok (.imul, 1) := by decide +kernel
theorem dX5_digestTo_188 : decode cX5_digestTo 188 = .ok (.isub, 1) := by decide +kernel
theorem dX5_digestTo_189 : decode cX5_digestTo 189 = .ok (.ishr, 1) := by decide +kernel
theorem dX5_digestTo_190 : decode cX5_digestTo 190 = .ok (.sipush 255, 3) := by decide +kernel
theorem dX5_digestTo_193 : decode cX5_digestTo 193 = .ok (.iand, 1) := by decide +kernel
theorem dX5_digestTo_194 : decode cX5_digestTo 194 = .ok (.iastore, 1) := by decide +kernel
theorem dX5_digestTo_195 : decode cX5_digestTo 195 = .ok (.iinc 3 1, 3) := by decide +kernel
theorem dX5_digestTo_198 : decode cX5_digestTo 198 = .ok (.goto (-39), 3) := by decide +kernel
theorem dX5_digestTo_201 : decode cX5_digestTo 201 = .ok (.return_, 1) := by decide +kernel
theorem dX5_firstLeaf_0 : decode cX5_firstLeaf 0 = .ok (.iload_n 0, 1) := by decide +kernel
theorem dX5_firstLeaf_1 : decode cX5_firstLeaf 1 = .ok (.istore_n 1, 1) := by decide +kernel
theorem dX5_firstLeaf_2 : decode cX5_firstLeaf 2 = .ok (.iload_n 1, 1) := by decide +kernel
theorem dX5_firstLeaf_3 : decode cX5_firstLeaf 3 = .ok (.bipush 32, 2) := by decide +kernel
theorem dX5_firstLeaf_5 : decode cX5_firstLeaf 5 = .ok (.if_icmp .ge 10, 3) := by decide +kernel
theorem dX5_firstLeaf_8 : decode cX5_firstLeaf 8 = .ok (.iconst 2, 1) := by decide +kernel
theorem dX5_firstLeaf_9 : decode cX5_firstLeaf 9 = .ok (.iload_n 1, 1) := by decide +kernel
theorem dX5_firstLeaf_10 : decode cX5_firstLeaf 10 = .ok (.imul, 1) := by decide +kernel
theorem dX5_firstLeaf_11 : decode cX5_firstLeaf 11 = .ok (.istore_n 1, 1) := by decide +kernel
theorem dX5_firstLeaf_12 : decode cX5_firstLeaf 12 = .ok (.goto (-10), 3) := by decide +kernel
theorem dX5_firstLeaf_15 : decode cX5_firstLeaf 15 = .ok (.iload_n 1, 1) := by decide +kernel
theorem dX5_firstLeaf_16 : decode cX5_firstLeaf 16 = .ok (.ireturn, 1) := by decide +kernel
theorem dX5_lastLeaf_0 : decode cX5_lastLeaf 0 = .ok (.iload_n 0, 1) := by decide +kernel
theorem dX5_lastLeaf_1 : decode cX5_lastLeaf 1 = .ok (.istore_n 1, 1) := by decide +kernel
theorem dX5_lastLeaf_2 : decode cX5_lastLeaf 2 = .ok (.iload_n 1, 1) := by decide +kernel
theorem dX5_lastLeaf_3 : decode cX5_lastLeaf 3 = .ok (.bipush 32, 2) := by decide +kernel
theorem dX5_lastLeaf_5 : decode cX5_lastLeaf 5 = .ok (.if_icmp .ge 12, 3) := by decide +kernel
theorem dX5_lastLeaf_8 : decode cX5_lastLeaf 8 = .ok (.iconst 2, 1) := by decide +kernel
theorem dX5_lastLeaf_9 : decode cX5_lastLeaf 9 = .ok (.iload_n 1, 1) := by decide +kernel
theorem dX5_lastLeaf_10 : decode cX5_lastLeaf 10 = .ok (.imul, 1) := by decide +kernel
theorem dX5_lastLeaf_11 : decode cX5_lastLeaf 11 = .ok (.iconst 1, 1) := by decide +kernel
theorem dX5_lastLeaf_12 : decode cX5_lastLeaf 12 = .ok (.iadd, 1) := by decide +kernel
theorem dX5_lastLeaf_13 : decode cX5_lastLeaf 13 = .ok (.istore_n 1, 1) := by decide +kernel
theorem dX5_lastLeaf_14 : decode cX5_lastLeaf 14 = .ok (.goto (-12), 3) := by decide +kernel
theorem dX5_lastLeaf_17 : decode cX5_lastLeaf 17 = .ok (.iload_n 1, 1) := by decide +kernel
theorem dX5_lastLeaf_18 : decode cX5_lastLeaf 18 = .ok (.ireturn, 1) := by decide +kernel
set_option maxRecDepth 20000 in
theorem ggX5_many_X5_firstLeaf : GoodIn wsX5_many wsX5_firstLeaf := goodIn_r _ [6] rfl (by decide +kernel)
set_option maxRecDepth 20000 in
theorem gX5_many_X5_firstLeaf : GoodIn wsX5_many (va_wsS RX5 182 yX5_firstLeaf wsX5_firstLeaf) := goodIn_app (goodIn_of _ (by decide +kernel)) ggX5_many_X5_firstLeaf
set_option maxRecDepth 20000 in
theorem ggX5_many_X5_lastLeaf : GoodIn wsX5_many wsX5_lastLeaf := goodIn_r _ [9] rfl (by decide +kernel)
set_option maxRecDepth 20000 in
theorem gX5_many_X5_lastLeaf : GoodIn wsX5_many (va_wsS RX5 186 yX5_lastLeaf wsX5_lastLeaf) := goodIn_app (goodIn_of _ (by decide +kernel)) ggX5_many_X5_lastLeaf
set_option maxRecDepth 20000 in
theorem ggX5_many_X5_counts : GoodIn wsX5_many wsX5_counts := goodIn_r _ [13, 14, 15, 16, 17, 18, 19, 20, 21, 22, 23, 24, 25, 26, 27, 28, 29, 30, 31, 32, 33, 34, 35, 36, 37, 38, 39, 40, 41, 42, 43, 44, 45, 46, 47, 48] rfl (by decide +kernel)
set_option maxRecDepth 20000 in
theorem gX5_many_X5_counts : GoodIn wsX5_many (wsV RX5 189 RX5 yX5_counts wsX5_counts) := goodIn_app (goodIn_of _ (by decide +kernel)) ggX5_many_X5_counts
theorem dX5_many_0 : decode cX5_many 0 = .ok (.iconst 0, 1) := by decide +kernel
theorem dX5_many_1 : decode cX5_many 1 = .ok (.istore 4, 2) := by decide +kernel
theorem dX5_many_3 : decode cX5_many 3 = .ok (.bipush 8, 2) := by decide +kernel
theorem dX5_many_5 : decode cX5_many 5 = .ok (.iload_n 2, 1) := by decide +kernel
theorem dX5_many_6 : decode cX5_many 6 = .ok (.invokestatic 182, 3) := by decide +kernel
theorem dX5_many_9 : decode cX5_many 9 = .ok (.bipush 32, 2) := by decide +kernel
theorem dX5_many_11 : decode cX5_many 11 = .ok (.isub, 1) := by decide +kernel
theorem dX5_many_12 : decode cX5_many 12 = .ok (.imul, 1) := by decide +kernel
theorem dX5_many_13 : decode cX5_many 13 = .ok (.istore 5, 2) := by decide +kernel
theorem dX5_many_15 : decode cX5_many 15 = .ok (.iload 5, 2) := by decide +kernel
theorem dX5_many_17 : decode cX5_many 17 = .ok (.bipush 8, 2) := by decide +kernel
theorem dX5_many_19 : decode cX5_many 19 = .ok (.iload_n 2, 1) := by decide +kernel
theorem dX5_many_20 : decode cX5_many 20 = .ok (.invokestatic 186, 3) := by decide +kernel
theorem dX5_many_23 : decode cX5_many 23 = .ok (.bipush 32, 2) := by decide +kernel
theorem dX5_many_25 : decode cX5_many 25 = .ok (.isub, 1) := by decide +kernel
theorem dX5_many_26 : decode cX5_many 26 = .ok (.imul, 1) := by decide +kernel
theorem dX5_many_27 : decode cX5_many 27 = .ok (.bipush 8, 2) := by decide +kernel
theorem dX5_many_29 : decode cX5_many 29 = .ok (.iadd, 1) := by decide +kernel
theorem dX5_many_30 : decode cX5_many 30 = .ok (.if_icmp .ge 71, 3) := by decide +kernel
theorem dX5_many_33 : decode cX5_many 33 = .ok (.iload_n 3, 1) := by decide +kernel
theorem dX5_many_34 : decode cX5_many 34 = .ok (.ifCond .eq 19, 3) := by decide +kernel
theorem dX5_many_37 : decode cX5_many 37 = .ok (.aload_n 0, 1) := by decide +kernel
theorem dX5_many_38 : decode cX5_many 38 = .ok (.getfield 20, 3) := by decide +kernel
theorem dX5_many_41 : decode cX5_many 41 = .ok (.sipush 256, 3) := by decide +kernel
theorem dX5_many_44 : decode cX5_many 44 = .ok (.iload_n 1, 1) := by decide +kernel
theorem dX5_many_45 : decode cX5_many 45 = .ok (.imul, 1) := by decide +kernel
theorem dX5_many_46 : decode cX5_many 46 = .ok (.iload 5, 2) := by decide +kernel
theorem dX5_many_48 : decode cX5_many 48 = .ok (.iadd, 1) := by decide +kernel
theorem dX5_many_49 : decode cX5_many 49 = .ok (.baload, 1) := by decide +kernel
theorem dX5_many_50 : decode cX5_many 50 = .ok (.goto 16, 3) := by decide +kernel
theorem dX5_many_53 : decode cX5_many 53 = .ok (.aload_n 0, 1) := by decide +kernel
theorem dX5_many_54 : decode cX5_many 54 = .ok (.getfield 13, 3) := by decide +kernel
theorem dX5_many_57 : decode cX5_many 57 = .ok (.sipush 256, 3) := by decide +kernel
theorem dX5_many_60 : decode cX5_many 60 = .ok (.iload_n 1, 1) := by decide +kernel
theorem dX5_many_61 : decode cX5_many 61 = .ok (.imul, 1) := by decide +kernel
theorem dX5_many_62 : decode cX5_many 62 = .ok (.iload 5, 2) := by decide +kernel
theorem dX5_many_64 : decode cX5_many 64 = .ok (.iadd, 1) := by decide +kernel
theorem dX5_many_65 : decode cX5_many 65 = .ok (.baload, 1) := by decide +kernel
theorem dX5_many_66 : decode cX5_many 66 = .ok (.istore 6, 2) := by decide +kernel
theorem dX5_many_68 : decode cX5_many 68 = .ok (.iload 4, 2) := by decide +kernel
theorem dX5_many_70 : decode cX5_many 70 = .ok (.iload 6, 2) := by decide +kernel
theorem dX5_many_72 : decode cX5_many 72 = .ok (.ifCond .eq 19, 3) := by decide +kernel
theorem dX5_many_75 : decode cX5_many 75 = .ok (.aload_n 0, 1) := by decide +kernel
theorem dX5_many_76 : decode cX5_many 76 = .ok (.iload 5, 2) := by decide +kernel
theorem dX5_many_78 : decode cX5_many 78 = .ok (.bipush 64, 2) := by decide +kernel
theorem dX5_many_80 : decode cX5_many 80 = .ok (.idiv, 1) := by decide +kernel
theorem dX5_many_81 : decode cX5_many 81 = .ok (.invokevirtual 189, 3) := by decide +kernel
theorem dX5_many_84 : decode cX5_many 84 = .ok (.ifCond .eq 7, 3) := by decide +kernel
theorem dX5_many_87 : decode cX5_many 87 = .ok (.iconst 1, 1) := by decide +kernel
theorem dX5_many_88 : decode cX5_many 88 = .ok (.goto 4, 3) := by decide +kernel
theorem dX5_many_91 : decode cX5_many 91 = .ok (.iconst 0, 1) := by decide +kernel
theorem dX5_many_92 : decode cX5_many 92 = .ok (.iadd, 1) := by decide +kernel
theorem dX5_many_93 : decode cX5_many 93 = .ok (.istore 4, 2) := by decide +kernel
theorem dX5_many_95 : decode cX5_many 95 = .ok (.iinc 5 1, 3) := by decide +kernel
theorem dX5_many_98 : decode cX5_many 98 = .ok (.goto (-83), 3) := by decide +kernel
theorem dX5_many_101 : decode cX5_many 101 = .ok (.iload 4, 2) := by decide +kernel
theorem dX5_many_103 : decode cX5_many 103 = .ok (.ireturn, 1) := by decide +kernel
set_option maxRecDepth 20000 in
theorem ggX5_makeLeaf_X5_counts : GoodIn wsX5_makeLeaf wsX5_counts := goodIn_r _ [10, 11, 45, 46, 47, 48, 49, 50, 51, 52, 53, 54, 55, 56, 57, 58, 59, 60, 61, 62, 63, 64, 65, 66, 67, 68, 69, 70, 71, 72, 73, 74, 75, 76, 77, 78] rfl (by decide +kernel)
set_option maxRecDepth 20000 in
theorem gX5_makeLeaf_X5_counts : GoodIn wsX5_makeLeaf (wsV RX5 189 RX5 yX5_counts wsX5_counts) := goodIn_app (goodIn_of _ (by decide +kernel)) ggX5_makeLeaf_X5_counts
set_option maxRecDepth 20000 in
theorem ggX5_makeLeaf_X5_putRow : GoodIn wsX5_makeLeaf wsX5_putRow := goodIn_r _ [15, 16, 17, 18, 9, 19, 20, 1, 45, 46, 47, 48, 49, 50, 51, 52, 53, 54, 55, 56, 57, 58, 59, 60, 61, 62, 63, 64, 65, 66, 67, 68, 69, 70, 71, 72, 73, 74, 75, 76, 77, 78] rfl (by decide +kernel)
set_option maxRecDepth 20000 in
theorem gX5_makeLeaf_X5_putRow : GoodIn wsX5_makeLeaf (wsV RX5 193 RX5 yX5_putRow wsX5_putRow) := goodIn_app (goodIn_of _ (by decide +kernel)) ggX5_makeLeaf_X5_putRow
set_option maxRecDepth 20000 in
theorem ggX5_makeLeaf_X5_digestTo : GoodIn wsX5_makeLeaf wsX5_digestTo := goodIn_r _ [24, 1, 25, 26, 27, 28, 29, 30, 31, 32, 33, 34, 16, 17, 18, 9, 19, 20, 35, 36, 37, 38, 39, 40, 41, 42, 43, 44, 45, 46, 47, 48, 49, 50, 51, 52, 53, 54, 55, 56, 57, 58, 59, 60, 61, 62, 63, 64, 65, 66, 67, 68, 69, 70, 71, 72, 73, 74, 75, 76, 77, 78] rfl (by decide +kernel)
set_option maxRecDepth 20000 in
theorem gX5_makeLeaf_X5_digestTo : GoodIn wsX5_makeLeaf (wsV RX5 197 RX5 yX5_digestTo wsX5_digestTo) := goodIn_app (goodIn_of _ (by decide +kernel)) ggX5_makeLeaf_X5_digestTo
theorem dX5_makeLeaf_0 : decode cX5_makeLeaf 0 = .ok (.aload_n 0, 1) := by decide +kernel
theorem dX5_makeLeaf_1 : decode cX5_makeLeaf 1 = .ok (.iconst 0, 1) := by decide +kernel
theorem dX5_makeLeaf_2 : decode cX5_makeLeaf 2 = .ok (.putfield 156, 3) := by decide +kernel
theorem dX5_makeLeaf_5 : decode cX5_makeLeaf 5 = .ok (.bipush 8, 2) := by decide +kernel
theorem dX5_makeLeaf_7 : decode cX5_makeLeaf 7 = .ok (.iload_n 2, 1) := by decide +kernel
theorem dX5_makeLeaf_8 : decode cX5_makeLeaf 8 = .ok (.bipush 32, 2) := by decide +kernel
theorem dX5_makeLeaf_10 : decode cX5_makeLeaf 10 = .ok (.isub, 1) := by decide +kernel
theorem dX5_makeLeaf_11 : decode cX5_makeLeaf 11 = .ok (.imul, 1) := by decide +kernel
theorem dX5_makeLeaf_12 : decode cX5_makeLeaf 12 = .ok (.istore 5, 2) := by decide +kernel
theorem dX5_makeLeaf_14 : decode cX5_makeLeaf 14 = .ok (.iload 5, 2) := by decide +kernel
theorem dX5_makeLeaf_16 : decode cX5_makeLeaf 16 = .ok (.bipush 8, 2) := by decide +kernel
theorem dX5_makeLeaf_18 : decode cX5_makeLeaf 18 = .ok (.iload_n 2, 1) := by decide +kernel
theorem dX5_makeLeaf_19 : decode cX5_makeLeaf 19 = .ok (.bipush 32, 2) := by decide +kernel
theorem dX5_makeLeaf_21 : decode cX5_makeLeaf 21 = .ok (.isub, 1) := by decide +kernel
theorem dX5_makeLeaf_22 : decode cX5_makeLeaf 22 = .ok (.imul, 1) := by decide +kernel
theorem dX5_makeLeaf_23 : decode cX5_makeLeaf 23 = .ok (.bipush 8, 2) := by decide +kernel
theorem dX5_makeLeaf_25 : decode cX5_makeLeaf 25 = .ok (.iadd, 1) := by decide +kernel
theorem dX5_makeLeaf_26 : decode cX5_makeLeaf 26 = .ok (.if_icmp .ge 100, 3) := by decide +kernel
theorem dX5_makeLeaf_29 : decode cX5_makeLeaf 29 = .ok (.iload_n 3, 1) := by decide +kernel
theorem dX5_makeLeaf_30 : decode cX5_makeLeaf 30 = .ok (.ifCond .eq 19, 3) := by decide +kernel
theorem dX5_makeLeaf_33 : decode cX5_makeLeaf 33 = .ok (.aload_n 0, 1) := by decide +kernel
theorem dX5_makeLeaf_34 : decode cX5_makeLeaf 34 = .ok (.getfield 20, 3) := by decide +kernel
theorem dX5_makeLeaf_37 : decode cX5_makeLeaf 37 = .ok (.sipush 256, 3) := by decide +kernel
theorem dX5_makeLeaf_40 : decode cX5_makeLeaf 40 = .ok (.iload_n 1, 1) := by decide +kernel
theorem dX5_makeLeaf_41 : decode cX5_makeLeaf 41 = .ok (.imul, 1) := by decide +kernel
theorem dX5_makeLeaf_42 : decode cX5_makeLeaf 42 = .ok (.iload 5, 2) := by decide +kernel
theorem dX5_makeLeaf_44 : decode cX5_makeLeaf 44 = .ok (.iadd, 1) := by decide +kernel
theorem dX5_makeLeaf_45 : decode cX5_makeLeaf 45 = .ok (.baload, 1) := by decide +kernel
theorem dX5_makeLeaf_46 : decode cX5_makeLeaf 46 = .ok (.goto 16, 3) := by decide +kernel
theorem dX5_makeLeaf_49 : decode cX5_makeLeaf 49 = .ok (.aload_n 0, 1) := by decide +kernel
theorem dX5_makeLeaf_50 : decode cX5_makeLeaf 50 = .ok (.getfield 13, 3) := by decide +kernel
theorem dX5_makeLeaf_53 : decode cX5_makeLeaf 53 = .ok (.sipush 256, 3) := by decide +kernel
theorem dX5_makeLeaf_56 : decode cX5_makeLeaf 56 = .ok (.iload_n 1, 1) := by decide +kernel
theorem dX5_makeLeaf_57 : decode cX5_makeLeaf 57 = .ok (.imul, 1) := by decide +kernel
theorem dX5_makeLeaf_58 : decode cX5_makeLeaf 58 = .ok (.iload 5, 2) := by decide +kernel
theorem dX5_makeLeaf_60 : decode cX5_makeLeaf 60 = .ok (.iadd, 1) := by decide +kernel
theorem dX5_makeLeaf_61 : decode cX5_makeLeaf 61 = .ok (.baload, 1) := by decide +kernel
theorem dX5_makeLeaf_62 : decode cX5_makeLeaf 62 = .ok (.istore 6, 2) := by decide +kernel
theorem dX5_makeLeaf_64 : decode cX5_makeLeaf 64 = .ok (.iload 6, 2) := by decide +kernel
theorem dX5_makeLeaf_66 : decode cX5_makeLeaf 66 = .ok (.ifCond .eq 54, 3) := by decide +kernel
theorem dX5_makeLeaf_69 : decode cX5_makeLeaf 69 = .ok (.aload_n 0, 1) := by decide +kernel
theorem dX5_makeLeaf_70 : decode cX5_makeLeaf 70 = .ok (.iload 5, 2) := by decide +kernel
theorem dX5_makeLeaf_72 : decode cX5_makeLeaf 72 = .ok (.bipush 64, 2) := by decide +kernel
theorem dX5_makeLeaf_74 : decode cX5_makeLeaf 74 = .ok (.idiv, 1) := by decide +kernel
theorem dX5_makeLeaf_75 : decode cX5_makeLeaf 75 = .ok (.invokevirtual 189, 3) := by decide +kernel
theorem dX5_makeLeaf_78 : decode cX5_makeLeaf 78 = .ok (.ifCond .eq 42, 3) := by decide +kernel
theorem dX5_makeLeaf_81 : decode cX5_makeLeaf 81 = .ok (.aload_n 0, 1) := by decide +kernel
theorem dX5_makeLeaf_82 : decode cX5_makeLeaf 82 = .ok (.iload 5, 2) := by decide +kernel
theorem dX5_makeLeaf_84 : decode cX5_makeLeaf 84 = .ok (.iload_n 3, 1) := by decide +kernel
theorem dX5_makeLeaf_85 : decode cX5_makeLeaf 85 = .ok (.ifCond .eq 19, 3) := by decide +kernel
theorem dX5_makeLeaf_88 : decode cX5_makeLeaf 88 = .ok (.aload_n 0, 1) := by decide +kernel
theorem dX5_makeLeaf_89 : decode cX5_makeLeaf 89 = .ok (.getfield 23, 3) := by decide +kernel
theorem dX5_makeLeaf_92 : decode cX5_makeLeaf 92 = .ok (.sipush 256, 3) := by decide +kernel
theorem dX5_makeLeaf_95 : decode cX5_makeLeaf 95 = .ok (.iload_n 1, 1) := by decide +kernel
theorem dX5_makeLeaf_96 : decode cX5_makeLeaf 96 = .ok (.imul, 1) := by decide +kernel
theorem dX5_makeLeaf_97 : decode cX5_makeLeaf 97 = .ok (.iload 5, 2) := by decide +kernel
theorem dX5_makeLeaf_99 : decode cX5_makeLeaf 99 = .ok (.iadd, 1) := by decide +kernel
theorem dX5_makeLeaf_100 : decode cX5_makeLeaf 100 = .ok (.laload, 1) := by decide +kernel
theorem dX5_makeLeaf_101 : decode cX5_makeLeaf 101 = .ok (.goto 16, 3) := by decide +kernel
theorem dX5_makeLeaf_104 : decode cX5_makeLeaf 104 = .ok (.aload_n 0, 1) := by decide +kernel
theorem dX5_makeLeaf_105 : decode cX5_makeLeaf 105 = .ok (.getfield 16, 3) := by decide +kernel
theorem dX5_makeLeaf_108 : decode cX5_makeLeaf 108 = .ok (.sipush 256, 3) := by decide +kernel
theorem dX5_makeLeaf_111 : decode cX5_makeLeaf 111 = .ok (.iload_n 1, 1) := by decide +kernel
theorem dX5_makeLeaf_112 : decode cX5_makeLeaf 112 = .ok (.imul, 1) := by decide +kernel
theorem dX5_makeLeaf_113 : decode cX5_makeLeaf 113 = .ok (.iload 5, 2) := by decide +kernel
theorem dX5_makeLeaf_115 : decode cX5_makeLeaf 115 = .ok (.iadd, 1) := by decide +kernel
theorem dX5_makeLeaf_116 : decode cX5_makeLeaf 116 = .ok (.laload, 1) := by decide +kernel
theorem dX5_makeLeaf_117 : decode cX5_makeLeaf 117 = .ok (.invokevirtual 193, 3) := by decide +kernel
theorem dX5_makeLeaf_120 : decode cX5_makeLeaf 120 = .ok (.iinc 5 1, 3) := by decide +kernel
theorem dX5_makeLeaf_123 : decode cX5_makeLeaf 123 = .ok (.goto (-109), 3) := by decide +kernel
theorem dX5_makeLeaf_126 : decode cX5_makeLeaf 126 = .ok (.aload_n 0, 1) := by decide +kernel
theorem dX5_makeLeaf_127 : decode cX5_makeLeaf 127 = .ok (.iload 4, 2) := by decide +kernel
theorem dX5_makeLeaf_129 : decode cX5_makeLeaf 129 = .ok (.invokevirtual 197, 3) := by decide +kernel
theorem dX5_makeLeaf_132 : decode cX5_makeLeaf 132 = .ok (.return_, 1) := by decide +kernel
set_option maxRecDepth 20000 in
theorem ggX5_make_X5_many : GoodIn wsX5_make wsX5_many := goodIn_r _ [8, 9, 10, 11, 12, 7, 13, 14, 15, 16, 17, 18, 19, 20, 21, 68, 69, 70, 71, 72, 73, 74, 75, 76, 77, 78, 79, 80, 81, 82, 83, 84, 85, 86, 87, 88, 89, 90, 91, 92, 93, 94, 95, 96, 97, 98, 99, 100, 101] rfl (by decide +kernel)
set_option maxRecDepth 20000 in
theorem gX5_make_X5_many : GoodIn wsX5_make (wsV RX5 200 RX5 yX5_many wsX5_many) := goodIn_app (goodIn_of _ (by decide +kernel)) ggX5_make_X5_many
set_option maxRecDepth 20000 in
theorem ggX5_make_X5_makeLeaf : GoodIn wsX5_make wsX5_makeLeaf := goodIn_r _ [25, 3, 9, 10, 26, 27, 17, 18, 19, 7, 20, 21, 28, 29, 30, 31, 32, 33, 34, 35, 36, 37, 38, 39, 40, 41, 42, 43, 44, 45, 46, 47, 48, 49, 2, 50, 51, 52, 53, 54, 55, 56, 57, 58, 59, 68, 69, 70, 71, 72, 73, 74, 75, 76, 77, 78, 79, 80, 81, 82, 83, 84, 85, 86, 87, 88, 89, 90, 91, 92, 93, 94, 95, 96, 97, 98, 99, 100, 101] rfl (by decide +kernel)
set_option maxRecDepth 20000 in
theorem gX5_make_X5_makeLeaf : GoodIn wsX5_make (wsV RX5 204 RX5 yX5_makeLeaf wsX5_makeLeaf) := goodIn_app (goodIn_of _ (by decide +kernel)) ggX5_make_X5_makeLeaf
set_option maxRecDepth 20000 in
theorem ggX5_make_X5_fold : GoodIn wsX5_make wsX5_fold := goodIn_r _ [63, 3, 36, 64, 65, 66, 7, 67, 68, 69, 70, 71, 72, 73, 74, 75, 76, 77, 78, 79, 80, 81, 82, 83, 84, 85, 86, 87, 88, 89, 90, 91, 92, 93, 94, 95, 96, 97, 98, 99, 100, 101] rfl (by decide +kernel)
set_option maxRecDepth 20000 in
theorem gX5_make_X5_fold : GoodIn wsX5_make (wsV RX5 208 RX5 yX5_fold wsX5_fold) := goodIn_app (goodIn_of _ (by decide +kernel)) ggX5_make_X5_fold
set_option maxRecDepth 20000 in
theorem ggX5_make_X5_put : GoodIn wsX5_make wsX5_put := goodIn_r _ [35, 36, 3, 68, 69, 70, 71, 72, 73, 74, 75, 76, 77, 78, 79, 80, 81, 82, 83, 84, 85, 86, 87, 88, 89, 90, 91, 92, 93, 94, 95, 96, 97, 98, 99, 100, 101] rfl (by decide +kernel)
set_option maxRecDepth 20000 in
theorem gX5_make_X5_put : GoodIn wsX5_make (wsV RX5 159 RX5 yX5_put wsX5_put) := goodIn_app (goodIn_of _ (by decide +kernel)) ggX5_make_X5_put
set_option maxRecDepth 20000 in
theorem ggX5_make_X5_digestTo : GoodIn wsX5_make wsX5_digestTo := goodIn_r _ [40, 3, 41, 42, 43, 44, 45, 46, 47, 48, 49, 2, 32, 33, 34, 7, 35, 36, 50, 51, 52, 53, 54, 55, 56, 57, 58, 59, 68, 69, 70, 71, 72, 73, 74, 75, 76, 77, 78, 79, 80, 81, 82, 83, 84, 85, 86, 87, 88, 89, 90, 91, 92, 93, 94, 95, 96, 97, 98, 99, 100, 101] rfl (by decide +kernel)
set_option maxRecDepth 20000 in
theorem gX5_make_X5_digestTo : GoodIn wsX5_make (wsV RX5 197 RX5 yX5_digestTo wsX5_digestTo) := goodIn_app (goodIn_of _ (by decide +kernel)) ggX5_make_X5_digestTo
theorem dX5_make_0 : decode cX5_make 0 = .ok (.bipush 64, 2) := by decide +kernel
theorem dX5_make_2 : decode cX5_make 2 = .ok (.iload_n 1, 1) := by decide +kernel
theorem dX5_make_3 : decode cX5_make 3 = .ok (.imul, 1) := by decide +kernel
theorem dX5_make_4 : decode cX5_make 4 = .ok (.iload_n 2, 1) := by decide +kernel
theorem dX5_make_5 : decode cX5_make 5 = .ok (.iadd, 1) := by decide +kernel
theorem dX5_make_6 : decode cX5_make 6 = .ok (.istore_n 3, 1) := by decide +kernel
theorem dX5_make_7 : decode cX5_make 7 = .ok (.aload_n 0, 1) := by decide +kernel
theorem dX5_make_8 : decode cX5_make 8 = .ok (.getfield 33, 3) := by decide +kernel
theorem dX5_make_11 : decode cX5_make 11 = .ok (.iload_n 3, 1) := by decide +kernel
theorem dX5_make_12 : decode cX5_make 12 = .ok (.iconst 0, 1) := by decide +kernel
theorem dX5_make_13 : decode cX5_make 13 = .ok (.iastore, 1) := by decide +kernel
theorem dX5_make_14 : decode cX5_make 14 = .ok (.iconst 0, 1) := by decide +kernel
theorem dX5_make_15 : decode cX5_make 15 = .ok (.istore 4, 2) := by decide +kernel
theorem dX5_make_17 : decode cX5_make 17 = .ok (.iload 4, 2) := by decide +kernel
theorem dX5_make_19 : decode cX5_make 19 = .ok (.bipush 32, 2) := by decide +kernel
theorem dX5_make_21 : decode cX5_make 21 = .ok (.if_icmp .ge 22, 3) := by decide +kernel
theorem dX5_make_24 : decode cX5_make 24 = .ok (.aload_n 0, 1) := by decide +kernel
theorem dX5_make_25 : decode cX5_make 25 = .ok (.getfield 29, 3) := by decide +kernel
theorem dX5_make_28 : decode cX5_make 28 = .ok (.bipush 32, 2) := by decide +kernel
theorem dX5_make_30 : decode cX5_make 30 = .ok (.iload_n 3, 1) := by decide +kernel
theorem dX5_make_31 : decode cX5_make 31 = .ok (.imul, 1) := by decide +kernel
theorem dX5_make_32 : decode cX5_make 32 = .ok (.iload 4, 2) := by decide +kernel
theorem dX5_make_34 : decode cX5_make 34 = .ok (.iadd, 1) := by decide +kernel
theorem dX5_make_35 : decode cX5_make 35 = .ok (.iconst 0, 1) := by decide +kernel
theorem dX5_make_36 : decode cX5_make 36 = .ok (.iastore, 1) := by decide +kernel
theorem dX5_make_37 : decode cX5_make 37 = .ok (.iinc 4 1, 3) := by decide +kernel
theorem dX5_make_40 : decode cX5_make 40 = .ok (.goto (-23), 3) := by decide +kernel
theorem dX5_make_43 : decode cX5_make 43 = .ok (.aload_n 0, 1) := by decide +kernel
theorem dX5_make_44 : decode cX5_make 44 = .ok (.iload_n 1, 1) := by decide +kernel
theorem dX5_make_45 : decode cX5_make 45 = .ok (.iload_n 2, 1) := by decide +kernel
theorem dX5_make_46 : decode cX5_make 46 = .ok (.iconst 1, 1) := by decide +kernel
theorem dX5_make_47 : decode cX5_make 47 = .ok (.invokevirtual 200, 3) := by decide +kernel
theorem dX5_make_50 : decode cX5_make 50 = .ok (.ifCond .ne 4, 3) := by decide +kernel
theorem dX5_make_53 : decode cX5_make 53 = .ok (.return_, 1) := by decide +kernel
theorem dX5_make_54 : decode cX5_make 54 = .ok (.iload_n 2, 1) := by decide +kernel
theorem dX5_make_55 : decode cX5_make 55 = .ok (.bipush 32, 2) := by decide +kernel
theorem dX5_make_57 : decode cX5_make 57 = .ok (.if_icmp .lt 39, 3) := by decide +kernel
theorem dX5_make_60 : decode cX5_make 60 = .ok (.aload_n 0, 1) := by decide +kernel
theorem dX5_make_61 : decode cX5_make 61 = .ok (.iload_n 1, 1) := by decide +kernel
theorem dX5_make_62 : decode cX5_make 62 = .ok (.iload_n 2, 1) := by decide +kernel
theorem dX5_make_63 : decode cX5_make 63 = .ok (.iconst 1, 1) := by decide +kernel
theorem dX5_make_64 : decode cX5_make 64 = .ok (.bipush 32, 2) := by decide +kernel
theorem dX5_make_66 : decode cX5_make 66 = .ok (.iload_n 3, 1) := by decide +kernel
theorem dX5_make_67 : decode cX5_make 67 = .ok (.imul, 1) := by decide +kernel
theorem dX5_make_68 : decode cX5_make 68 = .ok (.invokevirtual 204, 3) := by decide +kernel
theorem dX5_make_71 : decode cX5_make 71 = .ok (.aload_n 0, 1) := by decide +kernel
theorem dX5_make_72 : decode cX5_make 72 = .ok (.bipush 10, 2) := by decide +kernel
theorem dX5_make_74 : decode cX5_make 74 = .ok (.aload_n 0, 1) := by decide +kernel
theorem dX5_make_75 : decode cX5_make 75 = .ok (.iload_n 1, 1) := by decide +kernel
theorem dX5_make_76 : decode cX5_make 76 = .ok (.iload_n 2, 1) := by decide +kernel
theorem dX5_make_77 : decode cX5_make 77 = .ok (.iconst 1, 1) := by decide +kernel
theorem dX5_make_78 : decode cX5_make 78 = .ok (.invokevirtual 200, 3) := by decide +kernel
theorem dX5_make_81 : decode cX5_make 81 = .ok (.imul, 1) := by decide +kernel
theorem dX5_make_82 : decode cX5_make 82 = .ok (.putfield 156, 3) := by decide +kernel
theorem dX5_make_85 : decode cX5_make 85 = .ok (.aload_n 0, 1) := by decide +kernel
theorem dX5_make_86 : decode cX5_make 86 = .ok (.getfield 33, 3) := by decide +kernel
theorem dX5_make_89 : decode cX5_make 89 = .ok (.iload_n 3, 1) := by decide +kernel
theorem dX5_make_90 : decode cX5_make 90 = .ok (.aload_n 0, 1) := by decide +kernel
theorem dX5_make_91 : decode cX5_make 91 = .ok (.invokevirtual 208, 3) := by decide +kernel
theorem dX5_make_94 : decode cX5_make 94 = .ok (.iastore, 1) := by decide +kernel
theorem dX5_make_95 : decode cX5_make 95 = .ok (.return_, 1) := by decide +kernel
theorem dX5_make_96 : decode cX5_make 96 = .ok (.aload_n 0, 1) := by decide +kernel
theorem dX5_make_97 : decode cX5_make 97 = .ok (.iconst 0, 1) := by decide +kernel
theorem dX5_make_98 : decode cX5_make 98 = .ok (.putfield 156, 3) := by decide +kernel
theorem dX5_make_101 : decode cX5_make 101 = .ok (.bipush 64, 2) := by decide +kernel
theorem dX5_make_103 : decode cX5_make 103 = .ok (.iload_n 1, 1) := by decide +kernel
theorem dX5_make_104 : decode cX5_make 104 = .ok (.imul, 1) := by decide +kernel
theorem dX5_make_105 : decode cX5_make 105 = .ok (.iconst 2, 1) := by decide +kernel
theorem dX5_make_106 : decode cX5_make 106 = .ok (.iload_n 2, 1) := by decide +kernel
theorem dX5_make_107 : decode cX5_make 107 = .ok (.imul, 1) := by decide +kernel
theorem dX5_make_108 : decode cX5_make 108 = .ok (.iadd, 1) := by decide +kernel
theorem dX5_make_109 : decode cX5_make 109 = .ok (.istore 4, 2) := by decide +kernel
theorem dX5_make_111 : decode cX5_make 111 = .ok (.iconst 0, 1) := by decide +kernel
theorem dX5_make_112 : decode cX5_make 112 = .ok (.istore 5, 2) := by decide +kernel
theorem dX5_make_114 : decode cX5_make 114 = .ok (.iload 5, 2) := by decide +kernel
theorem dX5_make_116 : decode cX5_make 116 = .ok (.bipush 64, 2) := by decide +kernel
theorem dX5_make_118 : decode cX5_make 118 = .ok (.if_icmp .ge 26, 3) := by decide +kernel
theorem dX5_make_121 : decode cX5_make 121 = .ok (.aload_n 0, 1) := by decide +kernel
theorem dX5_make_122 : decode cX5_make 122 = .ok (.aload_n 0, 1) := by decide +kernel
theorem dX5_make_123 : decode cX5_make 123 = .ok (.getfield 29, 3) := by decide +kernel
theorem dX5_make_126 : decode cX5_make 126 = .ok (.bipush 32, 2) := by decide +kernel
theorem dX5_make_128 : decode cX5_make 128 = .ok (.iload 4, 2) := by decide +kernel
theorem dX5_make_130 : decode cX5_make 130 = .ok (.imul, 1) := by decide +kernel
theorem dX5_make_131 : decode cX5_make 131 = .ok (.iload 5, 2) := by decide +kernel
theorem dX5_make_133 : decode cX5_make 133 = .ok (.iadd, 1) := by decide +kernel
theorem dX5_make_134 : decode cX5_make 134 = .ok (.iaload, 1) := by decide +kernel
theorem dX5_make_135 : decode cX5_make 135 = .ok (.invokevirtual 159, 3) := by decide +kernel
theorem dX5_make_138 : decode cX5_make 138 = .ok (.iinc 5 1, 3) := by decide +kernel
theorem dX5_make_141 : decode cX5_make 141 = .ok (.goto (-27), 3) := by decide +kernel
theorem dX5_make_144 : decode cX5_make 144 = .ok (.aload_n 0, 1) := by decide +kernel
theorem dX5_make_145 : decode cX5_make 145 = .ok (.bipush 32, 2) := by decide +kernel
theorem dX5_make_147 : decode cX5_make 147 = .ok (.iload_n 3, 1) := by decide +kernel
theorem dX5_make_148 : decode cX5_make 148 = .ok (.imul, 1) := by decide +kernel
theorem dX5_make_149 : decode cX5_make 149 = .ok (.invokevirtual 197, 3) := by decide +kernel
theorem dX5_make_152 : decode cX5_make 152 = .ok (.aload_n 0, 1) := by decide +kernel
theorem dX5_make_153 : decode cX5_make 153 = .ok (.iconst 0, 1) := by decide +kernel
theorem dX5_make_154 : decode cX5_make 154 = .ok (.putfield 156, 3) := by decide +kernel
theorem dX5_make_157 : decode cX5_make 157 = .ok (.iload 4, 2) := by decide +kernel
theorem dX5_make_159 : decode cX5_make 159 = .ok (.istore 5, 2) := by decide +kernel
theorem dX5_make_161 : decode cX5_make 161 = .ok (.iload 5, 2) := by decide +kernel
theorem dX5_make_163 : decode cX5_make 163 = .ok (.iload 4, 2) := by decide +kernel
theorem dX5_make_165 : decode cX5_make 165 = .ok (.iconst 2, 1) := by decide +kernel
theorem dX5_make_166 : decode cX5_make 166 = .ok (.iadd, 1) := by decide +kernel
theorem dX5_make_167 : decode cX5_make 167 = .ok (.if_icmp .ge 38, 3) := by decide +kernel
theorem dX5_make_170 : decode cX5_make 170 = .ok (.bipush 24, 2) := by decide +kernel
theorem dX5_make_172 : decode cX5_make 172 = .ok (.istore 6, 2) := by decide +kernel
theorem dX5_make_174 : decode cX5_make 174 = .ok (.iload 6, 2) := by decide +kernel
theorem dX5_make_176 : decode cX5_make 176 = .ok (.ifCond .lt 23, 3) := by decide +kernel
theorem dX5_make_179 : decode cX5_make 179 = .ok (.aload_n 0, 1) := by decide +kernel
theorem dX5_make_180 : decode cX5_make 180 = .ok (.aload_n 0, 1) := by decide +kernel
theorem dX5_make_181 : decode cX5_make 181 = .ok (.getfield 33, 3) := by decide +kernel
theorem dX5_make_184 : decode cX5_make 184 = .ok (.iload 5, 2) := by decide +kernel
theorem dX5_make_186 : decode cX5_make 186 = .ok (.iaload, 1) := by decide +kernel
theorem dX5_make_187 : decode cX5_make 187 = .ok (.iload 6, 2) := by decide +kernel
theorem dX5_make_189 : decode cX5_make 189 = .ok (.ishr, 1) := by decide +kernel
theorem dX5_make_190 : decode cX5_make 190 = .ok (.invokevirtual 159, 3) := by decide +kernel
theorem dX5_make_193 : decode cX5_make 193 = .ok (.iinc 6 (-8), 3) := by decide +kernel
theorem dX5_make_196 : decode cX5_make 196 = .ok (.goto (-22), 3) := by decide +kernel
theorem dX5_make_199 : decode cX5_make 199 = .ok (.iinc 5 1, 3) := by decide +kernel
theorem dX5_make_202 : decode cX5_make 202 = .ok (.goto (-41), 3) := by decide +kernel
theorem dX5_make_205 : decode cX5_make 205 = .ok (.aload_n 0, 1) := by decide +kernel
theorem dX5_make_206 : decode cX5_make 206 = .ok (.getfield 33, 3) := by decide +kernel
theorem dX5_make_209 : decode cX5_make 209 = .ok (.iload_n 3, 1) := by decide +kernel
theorem dX5_make_210 : decode cX5_make 210 = .ok (.aload_n 0, 1) := by decide +kernel
theorem dX5_make_211 : decode cX5_make 211 = .ok (.invokevirtual 208, 3) := by decide +kernel
theorem dX5_make_214 : decode cX5_make 214 = .ok (.iastore, 1) := by decide +kernel
theorem dX5_make_215 : decode cX5_make 215 = .ok (.return_, 1) := by decide +kernel
set_option maxRecDepth 20000 in
theorem ggX5_refresh_X5_make : GoodIn wsX5_refresh wsX5_make := goodIn_r _ [6, 7, 8, 9, 10, 11, 12, 5, 13, 14, 15, 16, 17, 18, 19, 20, 21, 22, 23, 24, 25, 26, 27, 28, 29, 30, 31, 32, 33, 34, 35, 36, 37, 38, 39, 40, 41, 42, 43, 44, 45, 46, 47, 48, 49, 50, 51, 52, 53, 54, 55, 56, 57, 58, 59, 60, 61, 62, 63, 64, 65, 66, 67, 68, 69, 70, 71, 72, 73, 74, 75, 76, 77, 78, 79, 80, 81, 82, 83, 84, 85, 86, 87, 88, 89, 90, 91, 92, 93, 94, 95, 96, 97, 98, 99, 100, 101, 102, 103, 104, 105, 106] rfl (by decide +kernel)
set_option maxRecDepth 20000 in
theorem gX5_refresh_X5_make : GoodIn wsX5_refresh (wsV RX5 212 RX5 yX5_make wsX5_make) := goodIn_app (goodIn_of _ (by decide +kernel)) ggX5_refresh_X5_make
theorem dX5_refresh_0 : decode cX5_refresh 0 = .ok (.aload_n 0, 1) := by decide +kernel
theorem dX5_refresh_1 : decode cX5_refresh 1 = .ok (.getfield 26, 3) := by decide +kernel
theorem dX5_refresh_4 : decode cX5_refresh 4 = .ok (.iload_n 1, 1) := by decide +kernel
theorem dX5_refresh_5 : decode cX5_refresh 5 = .ok (.baload, 1) := by decide +kernel
theorem dX5_refresh_6 : decode cX5_refresh 6 = .ok (.ifCond .eq 4, 3) := by decide +kernel
theorem dX5_refresh_9 : decode cX5_refresh 9 = .ok (.return_, 1) := by decide +kernel
theorem dX5_refresh_10 : decode cX5_refresh 10 = .ok (.aload_n 0, 1) := by decide +kernel
theorem dX5_refresh_11 : decode cX5_refresh 11 = .ok (.getfield 26, 3) := by decide +kernel
theorem dX5_refresh_14 : decode cX5_refresh 14 = .ok (.iload_n 1, 1) := by decide +kernel
theorem dX5_refresh_15 : decode cX5_refresh 15 = .ok (.iconst 1, 1) := by decide +kernel
theorem dX5_refresh_16 : decode cX5_refresh 16 = .ok (.bastore, 1) := by decide +kernel
theorem dX5_refresh_17 : decode cX5_refresh 17 = .ok (.bipush 63, 2) := by decide +kernel
theorem dX5_refresh_19 : decode cX5_refresh 19 = .ok (.istore_n 2, 1) := by decide +kernel
theorem dX5_refresh_20 : decode cX5_refresh 20 = .ok (.iload_n 2, 1) := by decide +kernel
theorem dX5_refresh_21 : decode cX5_refresh 21 = .ok (.ifCond .le 15, 3) := by decide +kernel
theorem dX5_refresh_24 : decode cX5_refresh 24 = .ok (.aload_n 0, 1) := by decide +kernel
theorem dX5_refresh_25 : decode cX5_refresh 25 = .ok (.iload_n 1, 1) := by decide +kernel
theorem dX5_refresh_26 : decode cX5_refresh 26 = .ok (.iload_n 2, 1) := by decide +kernel
theorem dX5_refresh_27 : decode cX5_refresh 27 = .ok (.invokevirtual 212, 3) := by decide +kernel
theorem dX5_refresh_30 : decode cX5_refresh 30 = .ok (.iinc 2 (-1), 3) := by decide +kernel
theorem dX5_refresh_33 : decode cX5_refresh 33 = .ok (.goto (-13), 3) := by decide +kernel
theorem dX5_refresh_36 : decode cX5_refresh 36 = .ok (.return_, 1) := by decide +kernel
theorem dX5_learn_0 : decode cX5_learn 0 = .ok (.sipush 256, 3) := by decide +kernel
theorem dX5_learn_3 : decode cX5_learn 3 = .ok (.iload_n 1, 1) := by decide +kernel
theorem dX5_learn_4 : decode cX5_learn 4 = .ok (.imul, 1) := by decide +kernel
theorem dX5_learn_5 : decode cX5_learn 5 = .ok (.iload_n 2, 1) := by decide +kernel
theorem dX5_learn_6 : decode cX5_learn 6 = .ok (.iadd, 1) := by decide +kernel
theorem dX5_learn_7 : decode cX5_learn 7 = .ok (.istore 4, 2) := by decide +kernel
theorem dX5_learn_9 : decode cX5_learn 9 = .ok (.iload 4, 2) := by decide +kernel
theorem dX5_learn_11 : decode cX5_learn 11 = .ok (.sipush 256, 3) := by decide +kernel
theorem dX5_learn_14 : decode cX5_learn 14 = .ok (.iload_n 1, 1) := by decide +kernel
theorem dX5_learn_15 : decode cX5_learn 15 = .ok (.imul, 1) := by decide +kernel
theorem dX5_learn_16 : decode cX5_learn 16 = .ok (.iload_n 3, 1) := by decide +kernel
theorem dX5_learn_17 : decode cX5_learn 17 = .ok (.iadd, 1) := by decide +kernel
theorem dX5_learn_18 : decode cX5_learn 18 = .ok (.if_icmp .ge 37, 3) := by decide +kernel
theorem dX5_learn_21 : decode cX5_learn 21 = .ok (.aload_n 0, 1) := by decide +kernel
theorem dX5_learn_22 : decode cX5_learn 22 = .ok (.getfield 20, 3) := by decide +kernel
theorem dX5_learn_25 : decode cX5_learn 25 = .ok (.iload 4, 2) := by decide +kernel
theorem dX5_learn_27 : decode cX5_learn 27 = .ok (.aload_n 0, 1) := by decide +kernel
theorem dX5_learn_28 : decode cX5_learn 28 = .ok (.getfield 13, 3) := by decide +kernel
theorem dX5_learn_31 : decode cX5_learn 31 = .ok (.iload 4, 2) := by decide +kernel
theorem dX5_learn_33 : decode cX5_learn 33 = .ok (.baload, 1) := by decide +kernel
theorem dX5_learn_34 : decode cX5_learn 34 = .ok (.bastore, 1) := by decide +kernel
theorem dX5_learn_35 : decode cX5_learn 35 = .ok (.aload_n 0, 1) := by decide +kernel
theorem dX5_learn_36 : decode cX5_learn 36 = .ok (.getfield 23, 3) := by decide +kernel
theorem dX5_learn_39 : decode cX5_learn 39 = .ok (.iload 4, 2) := by decide +kernel
theorem dX5_learn_41 : decode cX5_learn 41 = .ok (.aload_n 0, 1) := by decide +kernel
theorem dX5_learn_42 : decode cX5_learn 42 = .ok (.getfield 16, 3) := by decide +kernel
theorem dX5_learn_45 : decode cX5_learn 45 = .ok (.iload 4, 2) := by decide +kernel
theorem dX5_learn_47 : decode cX5_learn 47 = .ok (.laload, 1) := by decide +kernel
theorem dX5_learn_48 : decode cX5_learn 48 = .ok (.lastore, 1) := by decide +kernel
theorem dX5_learn_49 : decode cX5_learn 49 = .ok (.iinc 4 1, 3) := by decide +kernel
theorem dX5_learn_52 : decode cX5_learn 52 = .ok (.goto (-43), 3) := by decide +kernel
theorem dX5_learn_55 : decode cX5_learn 55 = .ok (.aload_n 0, 1) := by decide +kernel
theorem dX5_learn_56 : decode cX5_learn 56 = .ok (.getfield 26, 3) := by decide +kernel
theorem dX5_learn_59 : decode cX5_learn 59 = .ok (.iload_n 1, 1) := by decide +kernel
theorem dX5_learn_60 : decode cX5_learn 60 = .ok (.iconst 0, 1) := by decide +kernel
theorem dX5_learn_61 : decode cX5_learn 61 = .ok (.bastore, 1) := by decide +kernel
theorem dX5_learn_62 : decode cX5_learn 62 = .ok (.return_, 1) := by decide +kernel
set_option maxRecDepth 20000 in
theorem ggX5_learnLeaf_X5_learn : GoodIn wsX5_learnLeaf wsX5_learn := goodIn_r _ [5, 6, 7, 8, 9, 10, 11, 12, 13, 14, 15, 16, 17, 18, 19, 20, 21, 22, 23, 24, 25, 26, 27, 28, 29, 30, 31, 32, 33, 34, 35, 36, 37, 38, 39, 40, 41, 42, 43, 44] rfl (by decide +kernel)
set_option maxRecDepth 20000 in
theorem gX5_learnLeaf_X5_learn : GoodIn wsX5_learnLeaf (wsV RX5 216 RX5 yX5_learn wsX5_learn) := goodIn_app (goodIn_of _ (by decide +kernel)) ggX5_learnLeaf_X5_learn
theorem dX5_learnLeaf_0 : decode cX5_learnLeaf 0 = .ok (.bipush 64, 2) := by decide +kernel
theorem dX5_learnLeaf_2 : decode cX5_learnLeaf 2 = .ok (.iload_n 2, 1) := by decide +kernel
theorem dX5_learnLeaf_3 : decode cX5_learnLeaf 3 = .ok (.imul, 1) := by decide +kernel
theorem dX5_learnLeaf_4 : decode cX5_learnLeaf 4 = .ok (.iload_n 3, 1) := by decide +kernel
theorem dX5_learnLeaf_5 : decode cX5_learnLeaf 5 = .ok (.iconst 1, 1) := by decide +kernel
theorem dX5_learnLeaf_6 : decode cX5_learnLeaf 6 = .ok (.isub, 1) := by decide +kernel
theorem dX5_learnLeaf_7 : decode cX5_learnLeaf 7 = .ok (.bipush 8, 2) := by decide +kernel
theorem dX5_learnLeaf_9 : decode cX5_learnLeaf 9 = .ok (.idiv, 1) := by decide +kernel
theorem dX5_learnLeaf_10 : decode cX5_learnLeaf 10 = .ok (.bipush 8, 2) := by decide +kernel
theorem dX5_learnLeaf_12 : decode cX5_learnLeaf 12 = .ok (.imul, 1) := by decide +kernel
theorem dX5_learnLeaf_13 : decode cX5_learnLeaf 13 = .ok (.iadd, 1) := by decide +kernel
theorem dX5_learnLeaf_14 : decode cX5_learnLeaf 14 = .ok (.istore 4, 2) := by decide +kernel
theorem dX5_learnLeaf_16 : decode cX5_learnLeaf 16 = .ok (.aload_n 0, 1) := by decide +kernel
theorem dX5_learnLeaf_17 : decode cX5_learnLeaf 17 = .ok (.iload_n 1, 1) := by decide +kernel
theorem dX5_learnLeaf_18 : decode cX5_learnLeaf 18 = .ok (.iload 4, 2) := by decide +kernel
theorem dX5_learnLeaf_20 : decode cX5_learnLeaf 20 = .ok (.iload 4, 2) := by decide +kernel
theorem dX5_learnLeaf_22 : decode cX5_learnLeaf 22 = .ok (.bipush 8, 2) := by decide +kernel
theorem dX5_learnLeaf_24 : decode cX5_learnLeaf 24 = .ok (.iadd, 1) := by decide +kernel
theorem dX5_learnLeaf_25 : decode cX5_learnLeaf 25 = .ok (.invokevirtual 216, 3) := by decide +kernel
theorem dX5_learnLeaf_28 : decode cX5_learnLeaf 28 = .ok (.return_, 1) := by decide +kernel
set_option maxRecDepth 20000 in
theorem ggX5_row_X5_isPlace : GoodIn wsX5_row wsX5_isPlace := goodIn_r _ [7, 8, 9, 6, 10] rfl (by decide +kernel)
set_option maxRecDepth 20000 in
theorem gX5_row_X5_isPlace : GoodIn wsX5_row (va_wsS RX5 220 yX5_isPlace wsX5_isPlace) := goodIn_app (goodIn_of _ (by decide +kernel)) ggX5_row_X5_isPlace
set_option maxRecDepth 20000 in
theorem ggX5_row_X5_raise : GoodIn wsX5_row wsX5_raise := goodIn_r _ [14, 1, 29, 30, 31, 32, 33, 34, 35, 36, 37, 38, 39, 40, 41, 42, 43, 44, 45, 46, 47, 48, 49, 50, 51, 52, 53, 54, 55, 56, 57, 58, 59, 60, 61, 62] rfl (by decide +kernel)
set_option maxRecDepth 20000 in
theorem gX5_row_X5_raise : GoodIn wsX5_row (wsV RX5 223 RX5 yX5_raise wsX5_raise) := goodIn_app (goodIn_of _ (by decide +kernel)) ggX5_row_X5_raise
set_option maxRecDepth 20000 in
theorem ggX5_row_X5_at : GoodIn wsX5_row wsX5_at := goodIn_r _ [17] rfl (by decide +kernel)
set_option maxRecDepth 20000 in
theorem gX5_row_X5_at : GoodIn wsX5_row (va_wsS RX5 226 yX5_at wsX5_at) := goodIn_app (goodIn_of _ (by decide +kernel)) ggX5_row_X5_at
set_option maxRecDepth 20000 in
theorem ggX5_row_X5_learnLeaf : GoodIn wsX5_row wsX5_learnLeaf := goodIn_r _ [21, 22, 23, 24, 6, 25, 26, 2, 27, 3, 28, 29, 30, 31, 32, 33, 34, 35, 36, 37, 38, 39, 40, 41, 42, 43, 44, 45, 46, 47, 48, 49, 50, 51, 52, 53, 54, 55, 56, 57, 58, 59, 60, 61, 62] rfl (by decide +kernel)
set_option maxRecDepth 20000 in
theorem gX5_row_X5_learnLeaf : GoodIn wsX5_row (wsV RX5 230 RX5 yX5_learnLeaf wsX5_learnLeaf) := goodIn_app (goodIn_of _ (by decide +kernel)) ggX5_row_X5_learnLeaf
theorem dX5_row_0 : decode cX5_row 0 = .ok (.iload_n 1, 1) := by decide +kernel
theorem dX5_row_1 : decode cX5_row 1 = .ok (.iload_n 2, 1) := by decide +kernel
theorem dX5_row_2 : decode cX5_row 2 = .ok (.iload_n 3, 1) := by decide +kernel
theorem dX5_row_3 : decode cX5_row 3 = .ok (.invokestatic 220, 3) := by decide +kernel
theorem dX5_row_6 : decode cX5_row 6 = .ok (.ifCond .ne 8, 3) := by decide +kernel
theorem dX5_row_9 : decode cX5_row 9 = .ok (.aload_n 0, 1) := by decide +kernel
theorem dX5_row_10 : decode cX5_row 10 = .ok (.invokevirtual 223, 3) := by decide +kernel
theorem dX5_row_13 : decode cX5_row 13 = .ok (.ireturn, 1) := by decide +kernel
theorem dX5_row_14 : decode cX5_row 14 = .ok (.aload_n 0, 1) := by decide +kernel
theorem dX5_row_15 : decode cX5_row 15 = .ok (.iconst 0, 1) := by decide +kernel
theorem dX5_row_16 : decode cX5_row 16 = .ok (.putfield 148, 3) := by decide +kernel
theorem dX5_row_19 : decode cX5_row 19 = .ok (.aload_n 0, 1) := by decide +kernel
theorem dX5_row_20 : decode cX5_row 20 = .ok (.getfield 13, 3) := by decide +kernel
theorem dX5_row_23 : decode cX5_row 23 = .ok (.iload_n 1, 1) := by decide +kernel
theorem dX5_row_24 : decode cX5_row 24 = .ok (.iload_n 2, 1) := by decide +kernel
theorem dX5_row_25 : decode cX5_row 25 = .ok (.iload_n 3, 1) := by decide +kernel
theorem dX5_row_26 : decode cX5_row 26 = .ok (.invokestatic 226, 3) := by decide +kernel
theorem dX5_row_29 : decode cX5_row 29 = .ok (.iconst 1, 1) := by decide +kernel
theorem dX5_row_30 : decode cX5_row 30 = .ok (.bastore, 1) := by decide +kernel
theorem dX5_row_31 : decode cX5_row 31 = .ok (.aload_n 0, 1) := by decide +kernel
theorem dX5_row_32 : decode cX5_row 32 = .ok (.getfield 16, 3) := by decide +kernel
theorem dX5_row_35 : decode cX5_row 35 = .ok (.iload_n 1, 1) := by decide +kernel
theorem dX5_row_36 : decode cX5_row 36 = .ok (.iload_n 2, 1) := by decide +kernel
theorem dX5_row_37 : decode cX5_row 37 = .ok (.iload_n 3, 1) := by decide +kernel
theorem dX5_row_38 : decode cX5_row 38 = .ok (.invokestatic 226, 3) := by decide +kernel
theorem dX5_row_41 : decode cX5_row 41 = .ok (.lload 4, 2) := by decide +kernel
theorem dX5_row_43 : decode cX5_row 43 = .ok (.lastore, 1) := by decide +kernel
theorem dX5_row_44 : decode cX5_row 44 = .ok (.aload_n 0, 1) := by decide +kernel
theorem dX5_row_45 : decode cX5_row 45 = .ok (.iload_n 1, 1) := by decide +kernel
theorem dX5_row_46 : decode cX5_row 46 = .ok (.iload_n 2, 1) := by decide +kernel
theorem dX5_row_47 : decode cX5_row 47 = .ok (.iload_n 3, 1) := by decide +kernel
theorem dX5_row_48 : decode cX5_row 48 = .ok (.invokevirtual 230, 3) := by decide +kernel
theorem dX5_row_51 : decode cX5_row 51 = .ok (.iconst 0, 1) := by decide +kernel
theorem dX5_row_52 : decode cX5_row 52 = .ok (.istore 6, 2) := by decide +kernel
theorem dX5_row_54 : decode cX5_row 54 = .ok (.iconst 0, 1) := by decide +kernel
theorem dX5_row_55 : decode cX5_row 55 = .ok (.istore 7, 2) := by decide +kernel
theorem dX5_row_57 : decode cX5_row 57 = .ok (.iload 7, 2) := by decide +kernel
theorem dX5_row_59 : decode cX5_row 59 = .ok (.sipush 256, 3) := by decide +kernel
theorem dX5_row_62 : decode cX5_row 62 = .ok (.if_icmp .ge 35, 3) := by decide +kernel
theorem dX5_row_65 : decode cX5_row 65 = .ok (.iload 6, 2) := by decide +kernel
theorem dX5_row_67 : decode cX5_row 67 = .ok (.aload_n 0, 1) := by decide +kernel
theorem dX5_row_68 : decode cX5_row 68 = .ok (.getfield 13, 3) := by decide +kernel
theorem dX5_row_71 : decode cX5_row 71 = .ok (.sipush 256, 3) := by decide +kernel
theorem dX5_row_74 : decode cX5_row 74 = .ok (.iload_n 1, 1) := by decide +kernel
theorem dX5_row_75 : decode cX5_row 75 = .ok (.imul, 1) := by decide +kernel
theorem dX5_row_76 : decode cX5_row 76 = .ok (.iload 7, 2) := by decide +kernel
theorem dX5_row_78 : decode cX5_row 78 = .ok (.iadd, 1) := by decide +kernel
theorem dX5_row_79 : decode cX5_row 79 = .ok (.baload, 1) := by decide +kernel
theorem dX5_row_80 : decode cX5_row 80 = .ok (.ifCond .eq 7, 3) := by decide +kernel
theorem dX5_row_83 : decode cX5_row 83 = .ok (.iconst 1, 1) := by decide +kernel
theorem dX5_row_84 : decode cX5_row 84 = .ok (.goto 4, 3) := by decide +kernel
theorem dX5_row_87 : decode cX5_row 87 = .ok (.iconst 0, 1) := by decide +kernel
theorem dX5_row_88 : decode cX5_row 88 = .ok (.iadd, 1) := by decide +kernel
theorem dX5_row_89 : decode cX5_row 89 = .ok (.istore 6, 2) := by decide +kernel
theorem dX5_row_91 : decode cX5_row 91 = .ok (.iinc 7 1, 3) := by decide +kernel
theorem dX5_row_94 : decode cX5_row 94 = .ok (.goto (-37), 3) := by decide +kernel
theorem dX5_row_97 : decode cX5_row 97 = .ok (.iload 6, 2) := by decide +kernel
theorem dX5_row_99 : decode cX5_row 99 = .ok (.ireturn, 1) := by decide +kernel
set_option maxRecDepth 20000 in
theorem ggX5_isRow_X5_isPlace : GoodIn wsX5_isRow wsX5_isPlace := goodIn_r _ [5, 6, 7, 4, 8] rfl (by decide +kernel)
set_option maxRecDepth 20000 in
theorem gX5_isRow_X5_isPlace : GoodIn wsX5_isRow (va_wsS RX5 220 yX5_isPlace wsX5_isPlace) := goodIn_app (goodIn_of _ (by decide +kernel)) ggX5_isRow_X5_isPlace
set_option maxRecDepth 20000 in
theorem ggX5_isRow_X5_at : GoodIn wsX5_isRow wsX5_at := goodIn_r _ [11] rfl (by decide +kernel)
set_option maxRecDepth 20000 in
theorem gX5_isRow_X5_at : GoodIn wsX5_isRow (va_wsS RX5 226 yX5_at wsX5_at) := goodIn_app (goodIn_of _ (by decide +kernel)) ggX5_isRow_X5_at
theorem dX5_isRow_0 : decode cX5_isRow 0 = .ok (.iload_n 1, 1) := by decide +kernel
theorem dX5_isRow_1 : decode cX5_isRow 1 = .ok (.iload_n 2, 1) := by decide +kernel
theorem dX5_isRow_2 : decode cX5_isRow 2 = .ok (.iload_n 3, 1) := by decide +kernel
theorem dX5_isRow_3 : decode cX5_isRow 3 = .ok (.invokestatic 220, 3) := by decide +kernel
theorem dX5_isRow_6 : decode cX5_isRow 6 = .ok (.ifCond .eq 21, 3) := by decide +kernel
theorem dX5_isRow_9 : decode cX5_isRow 9 = .ok (.aload_n 0, 1) := by decide +kernel
theorem dX5_isRow_10 : decode cX5_isRow 10 = .ok (.getfield 13, 3) := by decide +kernel
theorem dX5_isRow_13 : decode cX5_isRow 13 = .ok (.iload_n 1, 1) := by decide +kernel
theorem dX5_isRow_14 : decode cX5_isRow 14 = .ok (.iload_n 2, 1) := by decide +kernel
theorem dX5_isRow_15 : decode cX5_isRow 15 = .ok (.iload_n 3, 1) := by decide +kernel
theorem dX5_isRow_16 : decode cX5_isRow 16 = .ok (.invokestatic 226, 3) := by decide +kernel
theorem dX5_isRow_19 : decode cX5_isRow 19 = .ok (.baload, 1) := by decide +kernel
theorem dX5_isRow_20 : decode cX5_isRow 20 = .ok (.ifCond .eq 7, 3) := by decide +kernel
theorem dX5_isRow_23 : decode cX5_isRow 23 = .ok (.iconst 1, 1) := by decide +kernel
theorem dX5_isRow_24 : decode cX5_isRow 24 = .ok (.goto 4, 3) := by decide +kernel
theorem dX5_isRow_27 : decode cX5_isRow 27 = .ok (.iconst 0, 1) := by decide +kernel
theorem dX5_isRow_28 : decode cX5_isRow 28 = .ok (.ireturn, 1) := by decide +kernel
set_option maxRecDepth 20000 in
theorem ggX5_drop_X5_isRow : GoodIn wsX5_drop wsX5_isRow := goodIn_r _ [7, 2, 8, 9, 6, 10, 11, 12, 13, 14, 15, 16, 29, 30, 31, 32, 33, 34, 35, 36, 37, 38, 39, 40, 41, 42, 43, 44, 45, 46, 47, 48, 49, 50, 51, 52, 53, 54, 55, 56, 57, 58, 59, 60, 61, 62] rfl (by decide +kernel)
set_option maxRecDepth 20000 in
theorem gX5_drop_X5_isRow : GoodIn wsX5_drop (wsV RX5 233 RX5 yX5_isRow wsX5_isRow) := goodIn_app (goodIn_of _ (by decide +kernel)) ggX5_drop_X5_isRow
set_option maxRecDepth 20000 in
theorem ggX5_drop_X5_at : GoodIn wsX5_drop wsX5_at := goodIn_r _ [16] rfl (by decide +kernel)
set_option maxRecDepth 20000 in
theorem gX5_drop_X5_at : GoodIn wsX5_drop (va_wsS RX5 226 yX5_at wsX5_at) := goodIn_app (goodIn_of _ (by decide +kernel)) ggX5_drop_X5_at
set_option maxRecDepth 20000 in
theorem ggX5_drop_X5_learnLeaf : GoodIn wsX5_drop wsX5_learnLeaf := goodIn_r _ [20, 21, 22, 23, 6, 24, 25, 2, 26, 27, 28, 29, 30, 31, 32, 33, 34, 35, 36, 37, 38, 39, 40, 41, 42, 43, 44, 45, 46, 47, 48, 49, 50, 51, 52, 53, 54, 55, 56, 57, 58, 59, 60, 61, 62] rfl (by decide +kernel)
set_option maxRecDepth 20000 in
theorem gX5_drop_X5_learnLeaf : GoodIn wsX5_drop (wsV RX5 230 RX5 yX5_learnLeaf wsX5_learnLeaf) := goodIn_app (goodIn_of _ (by decide +kernel)) ggX5_drop_X5_learnLeaf
theorem dX5_drop_0 : decode cX5_drop 0 = .ok (.aload_n 0, 1) := by decide +kernel
theorem dX5_drop_1 : decode cX5_drop 1 = .ok (.iconst 0, 1) := by decide +kernel
theorem dX5_drop_2 : decode cX5_drop 2 = .ok (.putfield 148, 3) := by decide +kernel
theorem dX5_drop_5 : decode cX5_drop 5 = .ok (.aload_n 0, 1) := by decide +kernel
theorem dX5_drop_6 : decode cX5_drop 6 = .ok (.iload_n 1, 1) := by decide +kernel
theorem dX5_drop_7 : decode cX5_drop 7 = .ok (.iload_n 2, 1) := by decide +kernel
theorem dX5_drop_8 : decode cX5_drop 8 = .ok (.iload_n 3, 1) := by decide +kernel
theorem dX5_drop_9 : decode cX5_drop 9 = .ok (.invokevirtual 233, 3) := by decide +kernel
theorem dX5_drop_12 : decode cX5_drop 12 = .ok (.ifCond .ne 5, 3) := by decide +kernel
theorem dX5_drop_15 : decode cX5_drop 15 = .ok (.iconst 0, 1) := by decide +kernel
theorem dX5_drop_16 : decode cX5_drop 16 = .ok (.ireturn, 1) := by decide +kernel
theorem dX5_drop_17 : decode cX5_drop 17 = .ok (.aload_n 0, 1) := by decide +kernel
theorem dX5_drop_18 : decode cX5_drop 18 = .ok (.getfield 13, 3) := by decide +kernel
theorem dX5_drop_21 : decode cX5_drop 21 = .ok (.iload_n 1, 1) := by decide +kernel
theorem dX5_drop_22 : decode cX5_drop 22 = .ok (.iload_n 2, 1) := by decide +kernel
theorem dX5_drop_23 : decode cX5_drop 23 = .ok (.iload_n 3, 1) := by decide +kernel
theorem dX5_drop_24 : decode cX5_drop 24 = .ok (.invokestatic 226, 3) := by decide +kernel
theorem dX5_drop_27 : decode cX5_drop 27 = .ok (.iconst 0, 1) := by decide +kernel
theorem dX5_drop_28 : decode cX5_drop 28 = .ok (.bastore, 1) := by decide +kernel
theorem dX5_drop_29 : decode cX5_drop 29 = .ok (.aload_n 0, 1) := by decide +kernel
theorem dX5_drop_30 : decode cX5_drop 30 = .ok (.iload_n 1, 1) := by decide +kernel
theorem dX5_drop_31 : decode cX5_drop 31 = .ok (.iload_n 2, 1) := by decide +kernel
theorem dX5_drop_32 : decode cX5_drop 32 = .ok (.iload_n 3, 1) := by decide +kernel
theorem dX5_drop_33 : decode cX5_drop 33 = .ok (.invokevirtual 230, 3) := by decide +kernel
theorem dX5_drop_36 : decode cX5_drop 36 = .ok (.iconst 1, 1) := by decide +kernel
theorem dX5_drop_37 : decode cX5_drop 37 = .ok (.ireturn, 1) := by decide +kernel
set_option maxRecDepth 20000 in
theorem ggX5_hold_X5_within : GoodIn wsX5_hold wsX5_within := goodIn_r _ [6] rfl (by decide +kernel)
set_option maxRecDepth 20000 in
theorem gX5_hold_X5_within : GoodIn wsX5_hold (va_wsS RX5 152 yX5_within wsX5_within) := goodIn_app (goodIn_of _ (by decide +kernel)) ggX5_hold_X5_within
set_option maxRecDepth 20000 in
theorem ggX5_hold_X5_learn : GoodIn wsX5_hold wsX5_learn := goodIn_r _ [10, 11, 12, 13, 14, 15, 16, 17, 18, 19, 20, 21, 22, 23, 24, 25, 26, 27, 28, 29, 30, 31, 32, 33, 34, 35, 36, 37, 38, 39, 40, 41, 42, 43, 44, 45, 46, 47, 48, 49] rfl (by decide +kernel)
set_option maxRecDepth 20000 in
theorem gX5_hold_X5_learn : GoodIn wsX5_hold (wsV RX5 216 RX5 yX5_learn wsX5_learn) := goodIn_app (goodIn_of _ (by decide +kernel)) ggX5_hold_X5_learn
theorem dX5_hold_0 : decode cX5_hold 0 = .ok (.aload_n 0, 1) := by decide +kernel
theorem dX5_hold_1 : decode cX5_hold 1 = .ok (.iconst 0, 1) := by decide +kernel
theorem dX5_hold_2 : decode cX5_hold 2 = .ok (.putfield 148, 3) := by decide +kernel
theorem dX5_hold_5 : decode cX5_hold 5 = .ok (.iload_n 1, 1) := by decide +kernel
theorem dX5_hold_6 : decode cX5_hold 6 = .ok (.iconst 0, 1) := by decide +kernel
theorem dX5_hold_7 : decode cX5_hold 7 = .ok (.iconst 1, 1) := by decide +kernel
theorem dX5_hold_8 : decode cX5_hold 8 = .ok (.invokestatic 152, 3) := by decide +kernel
theorem dX5_hold_11 : decode cX5_hold 11 = .ok (.ifCond .eq 26, 3) := by decide +kernel
theorem dX5_hold_14 : decode cX5_hold 14 = .ok (.iload_n 2, 1) := by decide +kernel
theorem dX5_hold_15 : decode cX5_hold 15 = .ok (.iconst 0, 1) := by decide +kernel
theorem dX5_hold_16 : decode cX5_hold 16 = .ok (.iconst 3, 1) := by decide +kernel
theorem dX5_hold_17 : decode cX5_hold 17 = .ok (.invokestatic 152, 3) := by decide +kernel
theorem dX5_hold_20 : decode cX5_hold 20 = .ok (.ifCond .eq 17, 3) := by decide +kernel
theorem dX5_hold_23 : decode cX5_hold 23 = .ok (.aload_n 0, 1) := by decide +kernel
theorem dX5_hold_24 : decode cX5_hold 24 = .ok (.getfield 7, 3) := by decide +kernel
theorem dX5_hold_27 : decode cX5_hold 27 = .ok (.iconst 4, 1) := by decide +kernel
theorem dX5_hold_28 : decode cX5_hold 28 = .ok (.iload_n 1, 1) := by decide +kernel
theorem dX5_hold_29 : decode cX5_hold 29 = .ok (.imul, 1) := by decide +kernel
theorem dX5_hold_30 : decode cX5_hold 30 = .ok (.iload_n 2, 1) := by decide +kernel
theorem dX5_hold_31 : decode cX5_hold 31 = .ok (.iadd, 1) := by decide +kernel
theorem dX5_hold_32 : decode cX5_hold 32 = .ok (.baload, 1) := by decide +kernel
theorem dX5_hold_33 : decode cX5_hold 33 = .ok (.iload_n 3, 1) := by decide +kernel
theorem dX5_hold_34 : decode cX5_hold 34 = .ok (.if_icmp .ne 5, 3) := by decide +kernel
theorem dX5_hold_37 : decode cX5_hold 37 = .ok (.iconst 0, 1) := by decide +kernel
theorem dX5_hold_38 : decode cX5_hold 38 = .ok (.ireturn, 1) := by decide +kernel
theorem dX5_hold_39 : decode cX5_hold 39 = .ok (.aload_n 0, 1) := by decide +kernel
theorem dX5_hold_40 : decode cX5_hold 40 = .ok (.getfield 7, 3) := by decide +kernel
theorem dX5_hold_43 : decode cX5_hold 43 = .ok (.iconst 4, 1) := by decide +kernel
theorem dX5_hold_44 : decode cX5_hold 44 = .ok (.iload_n 1, 1) := by decide +kernel
theorem dX5_hold_45 : decode cX5_hold 45 = .ok (.imul, 1) := by decide +kernel
theorem dX5_hold_46 : decode cX5_hold 46 = .ok (.iload_n 2, 1) := by decide +kernel
theorem dX5_hold_47 : decode cX5_hold 47 = .ok (.iadd, 1) := by decide +kernel
theorem dX5_hold_48 : decode cX5_hold 48 = .ok (.iload_n 3, 1) := by decide +kernel
theorem dX5_hold_49 : decode cX5_hold 49 = .ok (.bastore, 1) := by decide +kernel
theorem dX5_hold_50 : decode cX5_hold 50 = .ok (.aload_n 0, 1) := by decide +kernel
theorem dX5_hold_51 : decode cX5_hold 51 = .ok (.iconst 0, 1) := by decide +kernel
theorem dX5_hold_52 : decode cX5_hold 52 = .ok (.bipush 64, 2) := by decide +kernel
theorem dX5_hold_54 : decode cX5_hold 54 = .ok (.iload_n 2, 1) := by decide +kernel
theorem dX5_hold_55 : decode cX5_hold 55 = .ok (.imul, 1) := by decide +kernel
theorem dX5_hold_56 : decode cX5_hold 56 = .ok (.bipush 64, 2) := by decide +kernel
theorem dX5_hold_58 : decode cX5_hold 58 = .ok (.iload_n 2, 1) := by decide +kernel
theorem dX5_hold_59 : decode cX5_hold 59 = .ok (.imul, 1) := by decide +kernel
theorem dX5_hold_60 : decode cX5_hold 60 = .ok (.bipush 64, 2) := by decide +kernel
theorem dX5_hold_62 : decode cX5_hold 62 = .ok (.iadd, 1) := by decide +kernel
theorem dX5_hold_63 : decode cX5_hold 63 = .ok (.invokevirtual 216, 3) := by decide +kernel
theorem dX5_hold_66 : decode cX5_hold 66 = .ok (.aload_n 0, 1) := by decide +kernel
theorem dX5_hold_67 : decode cX5_hold 67 = .ok (.iconst 1, 1) := by decide +kernel
theorem dX5_hold_68 : decode cX5_hold 68 = .ok (.bipush 64, 2) := by decide +kernel
theorem dX5_hold_70 : decode cX5_hold 70 = .ok (.iload_n 2, 1) := by decide +kernel
theorem dX5_hold_71 : decode cX5_hold 71 = .ok (.imul, 1) := by decide +kernel
theorem dX5_hold_72 : decode cX5_hold 72 = .ok (.bipush 64, 2) := by decide +kernel
theorem dX5_hold_74 : decode cX5_hold 74 = .ok (.iload_n 2, 1) := by decide +kernel
theorem dX5_hold_75 : decode cX5_hold 75 = .ok (.imul, 1) := by decide +kernel
theorem dX5_hold_76 : decode cX5_hold 76 = .ok (.bipush 64, 2) := by decide +kernel
theorem dX5_hold_78 : decode cX5_hold 78 = .ok (.iadd, 1) := by decide +kernel
theorem dX5_hold_79 : decode cX5_hold 79 = .ok (.invokevirtual 216, 3) := by decide +kernel
theorem dX5_hold_82 : decode cX5_hold 82 = .ok (.iconst 1, 1) := by decide +kernel
theorem dX5_hold_83 : decode cX5_hold 83 = .ok (.ireturn, 1) := by decide +kernel
set_option maxRecDepth 20000 in
theorem ggX5_poke_X5_isRow : GoodIn wsX5_poke wsX5_isRow := goodIn_r _ [7, 8, 9, 10, 6, 11, 12, 13, 14, 15, 16, 17, 18, 19, 20, 21, 22, 23, 24, 25, 26, 27, 28, 29, 30, 31, 32, 33, 34, 35, 36, 37, 38, 39, 40, 41, 42, 43, 44, 45, 46, 47, 48, 49, 50, 51] rfl (by decide +kernel)
set_option maxRecDepth 20000 in
theorem gX5_poke_X5_isRow : GoodIn wsX5_poke (wsV RX5 233 RX5 yX5_isRow wsX5_isRow) := goodIn_app (goodIn_of _ (by decide +kernel)) ggX5_poke_X5_isRow
set_option maxRecDepth 20000 in
theorem ggX5_poke_X5_at : GoodIn wsX5_poke wsX5_at := goodIn_r _ [17] rfl (by decide +kernel)
set_option maxRecDepth 20000 in
theorem gX5_poke_X5_at : GoodIn wsX5_poke (va_wsS RX5 226 yX5_at wsX5_at) := goodIn_app (goodIn_of _ (by decide +kernel)) ggX5_poke_X5_at
theorem dX5_poke_0 : decode cX5_poke 0 = .ok (.aload_n 0, 1) := by decide +kernel
theorem dX5_poke_1 : decode cX5_poke 1 = .ok (.iconst 0, 1) := by decide +kernel
theorem dX5_poke_2 : decode cX5_poke 2 = .ok (.putfield 148, 3) := by decide +kernel
theorem dX5_poke_5 : decode cX5_poke 5 = .ok (.aload_n 0, 1) := by decide +kernel
theorem dX5_poke_6 : decode cX5_poke 6 = .ok (.iload_n 1, 1) := by decide +kernel
theorem dX5_poke_7 : decode cX5_poke 7 = .ok (.iload_n 2, 1) := by decide +kernel
theorem dX5_poke_8 : decode cX5_poke 8 = .ok (.iload_n 3, 1) := by decide +kernel
theorem dX5_poke_9 : decode cX5_poke 9 = .ok (.invokevirtual 233, 3) := by decide +kernel
theorem dX5_poke_12 : decode cX5_poke 12 = .ok (.ifCond .eq 10, 3) := by decide +kernel
theorem dX5_poke_15 : decode cX5_poke 15 = .ok (.lload 4, 2) := by decide +kernel
theorem dX5_poke_17 : decode cX5_poke 17 = .ok (.lconst 0, 1) := by decide +kernel
theorem dX5_poke_18 : decode cX5_poke 18 = .ok (.lcmp, 1) := by decide +kernel
theorem dX5_poke_19 : decode cX5_poke 19 = .ok (.ifCond .ne 5, 3) := by decide +kernel
theorem dX5_poke_22 : decode cX5_poke 22 = .ok (.iconst 0, 1) := by decide +kernel
theorem dX5_poke_23 : decode cX5_poke 23 = .ok (.ireturn, 1) := by decide +kernel
theorem dX5_poke_24 : decode cX5_poke 24 = .ok (.aload_n 0, 1) := by decide +kernel
theorem dX5_poke_25 : decode cX5_poke 25 = .ok (.getfield 16, 3) := by decide +kernel
theorem dX5_poke_28 : decode cX5_poke 28 = .ok (.iload_n 1, 1) := by decide +kernel
theorem dX5_poke_29 : decode cX5_poke 29 = .ok (.iload_n 2, 1) := by decide +kernel
theorem dX5_poke_30 : decode cX5_poke 30 = .ok (.iload_n 3, 1) := by decide +kernel
theorem dX5_poke_31 : decode cX5_poke 31 = .ok (.invokestatic 226, 3) := by decide +kernel
theorem dX5_poke_34 : decode cX5_poke 34 = .ok (.dup2, 1) := by decide +kernel
theorem dX5_poke_35 : decode cX5_poke 35 = .ok (.laload, 1) := by decide +kernel
theorem dX5_poke_36 : decode cX5_poke 36 = .ok (.lload 4, 2) := by decide +kernel
theorem dX5_poke_38 : decode cX5_poke 38 = .ok (.lxor, 1) := by decide +kernel
theorem dX5_poke_39 : decode cX5_poke 39 = .ok (.lastore, 1) := by decide +kernel
theorem dX5_poke_40 : decode cX5_poke 40 = .ok (.iconst 1, 1) := by decide +kernel
theorem dX5_poke_41 : decode cX5_poke 41 = .ok (.ireturn, 1) := by decide +kernel
set_option maxRecDepth 20000 in
theorem ggX5_get_X5_isRow : GoodIn wsX5_get wsX5_isRow := goodIn_r _ [7, 8, 9, 10, 6, 11, 12, 13, 14, 15, 16, 17, 18, 19, 20, 21, 22, 23, 24, 25, 26, 27, 28, 29, 30, 31, 32, 33, 34, 35, 36, 37, 38, 39, 40, 41, 42, 43, 44, 45, 46, 47, 48, 49, 50, 51] rfl (by decide +kernel)
set_option maxRecDepth 20000 in
theorem gX5_get_X5_isRow : GoodIn wsX5_get (wsV RX5 233 RX5 yX5_isRow wsX5_isRow) := goodIn_app (goodIn_of _ (by decide +kernel)) ggX5_get_X5_isRow
set_option maxRecDepth 20000 in
theorem ggX5_get_X5_at : GoodIn wsX5_get wsX5_at := goodIn_r _ [17] rfl (by decide +kernel)
set_option maxRecDepth 20000 in
theorem gX5_get_X5_at : GoodIn wsX5_get (va_wsS RX5 226 yX5_at wsX5_at) := goodIn_app (goodIn_of _ (by decide +kernel)) ggX5_get_X5_at
theorem dX5_get_0 : decode cX5_get 0 = .ok (.aload_n 0, 1) := by decide +kernel
theorem dX5_get_1 : decode cX5_get 1 = .ok (.aload_n 0, 1) := by decide +kernel
theorem dX5_get_2 : decode cX5_get 2 = .ok (.iload_n 1, 1) := by decide +kernel
theorem dX5_get_3 : decode cX5_get 3 = .ok (.iload_n 2, 1) := by decide +kernel
theorem dX5_get_4 : decode cX5_get 4 = .ok (.iload_n 3, 1) := by decide +kernel
theorem dX5_get_5 : decode cX5_get 5 = .ok (.invokevirtual 233, 3) := by decide +kernel
theorem dX5_get_8 : decode cX5_get 8 = .ok (.ifCond .eq 7, 3) := by decide +kernel
theorem dX5_get_11 : decode cX5_get 11 = .ok (.iconst 0, 1) := by decide +kernel
theorem dX5_get_12 : decode cX5_get 12 = .ok (.goto 4, 3) := by decide +kernel
theorem dX5_get_15 : decode cX5_get 15 = .ok (.iconst 1, 1) := by decide +kernel
theorem dX5_get_16 : decode cX5_get 16 = .ok (.putfield 148, 3) := by decide +kernel
theorem dX5_get_19 : decode cX5_get 19 = .ok (.aload_n 0, 1) := by decide +kernel
theorem dX5_get_20 : decode cX5_get 20 = .ok (.getfield 148, 3) := by decide +kernel
theorem dX5_get_23 : decode cX5_get 23 = .ok (.ifCond .ne 17, 3) := by decide +kernel
theorem dX5_get_26 : decode cX5_get 26 = .ok (.aload_n 0, 1) := by decide +kernel
theorem dX5_get_27 : decode cX5_get 27 = .ok (.getfield 16, 3) := by decide +kernel
theorem dX5_get_30 : decode cX5_get 30 = .ok (.iload_n 1, 1) := by decide +kernel
theorem dX5_get_31 : decode cX5_get 31 = .ok (.iload_n 2, 1) := by decide +kernel
theorem dX5_get_32 : decode cX5_get 32 = .ok (.iload_n 3, 1) := by decide +kernel
theorem dX5_get_33 : decode cX5_get 33 = .ok (.invokestatic 226, 3) := by decide +kernel
theorem dX5_get_36 : decode cX5_get 36 = .ok (.laload, 1) := by decide +kernel
theorem dX5_get_37 : decode cX5_get 37 = .ok (.goto 4, 3) := by decide +kernel
theorem dX5_get_40 : decode cX5_get 40 = .ok (.lconst 0, 1) := by decide +kernel
theorem dX5_get_41 : decode cX5_get 41 = .ok (.lreturn, 1) := by decide +kernel
set_option maxRecDepth 20000 in
theorem ggX5_isAlike_X5_refresh : GoodIn wsX5_isAlike wsX5_refresh := goodIn_r _ [6, 7, 8, 9, 10, 5, 11, 12, 1, 13, 14, 15, 16, 17, 18, 19, 20, 21, 22, 23, 24, 25, 26, 27, 28, 29, 30, 31, 32, 33, 34, 35, 36, 37, 38, 39, 40, 41, 42, 43, 44, 45, 46, 47, 48, 49, 50, 51, 52, 53, 54, 55, 56, 57, 58, 59, 60, 61, 62, 63, 64, 65, 66, 67, 68, 69, 70, 71, 72, 73, 74, 75, 76, 77, 78, 79, 80, 81, 82, 83, 84, 85, 86, 87, 88, 89, 90, 91, 92, 93, 94, 95, 96, 97, 98, 99, 100, 101, 102, 103, 104, 105, 106, 107, 108, 109, 110] rfl (by decide +kernel)
set_option maxRecDepth 20000 in
theorem gX5_isAlike_X5_refresh : GoodIn wsX5_isAlike (wsV RX5 236 RX5 yX5_refresh wsX5_refresh) := goodIn_app (goodIn_of _ (by decide +kernel)) ggX5_isAlike_X5_refresh
theorem dX5_isAlike_0 : decode cX5_isAlike 0 = .ok (.aload_n 0, 1) := by decide +kernel
theorem dX5_isAlike_1 : decode cX5_isAlike 1 = .ok (.iconst 0, 1) := by decide +kernel
theorem dX5_isAlike_2 : decode cX5_isAlike 2 = .ok (.invokevirtual 236, 3) := by decide +kernel
theorem dX5_isAlike_5 : decode cX5_isAlike 5 = .ok (.aload_n 0, 1) := by decide +kernel
theorem dX5_isAlike_6 : decode cX5_isAlike 6 = .ok (.iconst 1, 1) := by decide +kernel
theorem dX5_isAlike_7 : decode cX5_isAlike 7 = .ok (.invokevirtual 236, 3) := by decide +kernel
theorem dX5_isAlike_10 : decode cX5_isAlike 10 = .ok (.iconst 0, 1) := by decide +kernel
theorem dX5_isAlike_11 : decode cX5_isAlike 11 = .ok (.istore_n 2, 1) := by decide +kernel
theorem dX5_isAlike_12 : decode cX5_isAlike 12 = .ok (.iload_n 2, 1) := by decide +kernel
theorem dX5_isAlike_13 : decode cX5_isAlike 13 = .ok (.bipush 32, 2) := by decide +kernel
theorem dX5_isAlike_15 : decode cX5_isAlike 15 = .ok (.if_icmp .ge 39, 3) := by decide +kernel
theorem dX5_isAlike_18 : decode cX5_isAlike 18 = .ok (.aload_n 0, 1) := by decide +kernel
theorem dX5_isAlike_19 : decode cX5_isAlike 19 = .ok (.getfield 29, 3) := by decide +kernel
theorem dX5_isAlike_22 : decode cX5_isAlike 22 = .ok (.bipush 32, 2) := by decide +kernel
theorem dX5_isAlike_24 : decode cX5_isAlike 24 = .ok (.iload_n 1, 1) := by decide +kernel
theorem dX5_isAlike_25 : decode cX5_isAlike 25 = .ok (.imul, 1) := by decide +kernel
theorem dX5_isAlike_26 : decode cX5_isAlike 26 = .ok (.iload_n 2, 1) := by decide +kernel
theorem dX5_isAlike_27 : decode cX5_isAlike 27 = .ok (.iadd, 1) := by decide +kernel
theorem dX5_isAlike_28 : decode cX5_isAlike 28 = .ok (.iaload, 1) := by decide +kernel
theorem dX5_isAlike_29 : decode cX5_isAlike 29 = .ok (.aload_n 0, 1) := by decide +kernel
theorem dX5_isAlike_30 : decode cX5_isAlike 30 = .ok (.getfield 29, 3) := by decide +kernel
theorem dX5_isAlike_33 : decode cX5_isAlike 33 = .ok (.bipush 32, 2) := by decide +kernel
theorem dX5_isAlike_35 : decode cX5_isAlike 35 = .ok (.bipush 64, 2) := by decide +kernel
theorem dX5_isAlike_37 : decode cX5_isAlike 37 = .ok (.iload_n 1, 1) := by decide +kernel
theorem dX5_isAlike_38 : decode cX5_isAlike 38 = .ok (.iadd, 1) := by decide +kernel
theorem dX5_isAlike_39 : decode cX5_isAlike 39 = .ok (.imul, 1) := by decide +kernel
theorem dX5_isAlike_40 : decode cX5_isAlike 40 = .ok (.iload_n 2, 1) := by decide +kernel
theorem dX5_isAlike_41 : decode cX5_isAlike 41 = .ok (.iadd, 1) := by decide +kernel
theorem dX5_isAlike_42 : decode cX5_isAlike 42 = .ok (.iaload, 1) := by decide +kernel
theorem dX5_isAlike_43 : decode cX5_isAlike 43 = .ok (.if_icmp .eq 5, 3) := by decide +kernel
theorem dX5_isAlike_46 : decode cX5_isAlike 46 = .ok (.iconst 0, 1) := by decide +kernel
theorem dX5_isAlike_47 : decode cX5_isAlike 47 = .ok (.ireturn, 1) := by decide +kernel
theorem dX5_isAlike_48 : decode cX5_isAlike 48 = .ok (.iinc 2 1, 3) := by decide +kernel
theorem dX5_isAlike_51 : decode cX5_isAlike 51 = .ok (.goto (-39), 3) := by decide +kernel
theorem dX5_isAlike_54 : decode cX5_isAlike 54 = .ok (.iconst 1, 1) := by decide +kernel
theorem dX5_isAlike_55 : decode cX5_isAlike 55 = .ok (.ireturn, 1) := by decide +kernel
theorem dX5_begin_0 : decode cX5_begin 0 = .ok (.aload_n 0, 1) := by decide +kernel
theorem dX5_begin_1 : decode cX5_begin 1 = .ok (.iconst 0, 1) := by decide +kernel
theorem dX5_begin_2 : decode cX5_begin 2 = .ok (.putfield 148, 3) := by decide +kernel
theorem dX5_begin_5 : decode cX5_begin 5 = .ok (.aload_n 0, 1) := by decide +kernel
theorem dX5_begin_6 : decode cX5_begin 6 = .ok (.iconst 1, 1) := by decide +kernel
theorem dX5_begin_7 : decode cX5_begin 7 = .ok (.putfield 239, 3) := by decide +kernel
theorem dX5_begin_10 : decode cX5_begin 10 = .ok (.aload_n 0, 1) := by decide +kernel
theorem dX5_begin_11 : decode cX5_begin 11 = .ok (.iconst 0, 1) := by decide +kernel
theorem dX5_begin_12 : decode cX5_begin 12 = .ok (.putfield 243, 3) := by decide +kernel
theorem dX5_begin_15 : decode cX5_begin 15 = .ok (.aload_n 0, 1) := by decide +kernel
theorem dX5_begin_16 : decode cX5_begin 16 = .ok (.iconst 1, 1) := by decide +kernel
theorem dX5_begin_17 : decode cX5_begin 17 = .ok (.putfield 246, 3) := by decide +kernel
theorem dX5_begin_20 : decode cX5_begin 20 = .ok (.aload_n 0, 1) := by decide +kernel
theorem dX5_begin_21 : decode cX5_begin 21 = .ok (.getfield 103, 3) := by decide +kernel
theorem dX5_begin_24 : decode cX5_begin 24 = .ok (.iconst 0, 1) := by decide +kernel
theorem dX5_begin_25 : decode cX5_begin 25 = .ok (.iconst 1, 1) := by decide +kernel
theorem dX5_begin_26 : decode cX5_begin 26 = .ok (.iastore, 1) := by decide +kernel
theorem dX5_begin_27 : decode cX5_begin 27 = .ok (.aload_n 0, 1) := by decide +kernel
theorem dX5_begin_28 : decode cX5_begin 28 = .ok (.iconst 0, 1) := by decide +kernel
theorem dX5_begin_29 : decode cX5_begin 29 = .ok (.putfield 249, 3) := by decide +kernel
theorem dX5_begin_32 : decode cX5_begin 32 = .ok (.return_, 1) := by decide +kernel
theorem dX5_tell_0 : decode cX5_tell 0 = .ok (.aload_n 0, 1) := by decide +kernel
theorem dX5_tell_1 : decode cX5_tell 1 = .ok (.getfield 109, 3) := by decide +kernel
theorem dX5_tell_4 : decode cX5_tell 4 = .ok (.iconst 3, 1) := by decide +kernel
theorem dX5_tell_5 : decode cX5_tell 5 = .ok (.aload_n 0, 1) := by decide +kernel
theorem dX5_tell_6 : decode cX5_tell 6 = .ok (.getfield 249, 3) := by decide +kernel
theorem dX5_tell_9 : decode cX5_tell 9 = .ok (.imul, 1) := by decide +kernel
theorem dX5_tell_10 : decode cX5_tell 10 = .ok (.iload_n 1, 1) := by decide +kernel
theorem dX5_tell_11 : decode cX5_tell 11 = .ok (.iastore, 1) := by decide +kernel
theorem dX5_tell_12 : decode cX5_tell 12 = .ok (.aload_n 0, 1) := by decide +kernel
theorem dX5_tell_13 : decode cX5_tell 13 = .ok (.getfield 109, 3) := by decide +kernel
theorem dX5_tell_16 : decode cX5_tell 16 = .ok (.iconst 3, 1) := by decide +kernel
theorem dX5_tell_17 : decode cX5_tell 17 = .ok (.aload_n 0, 1) := by decide +kernel
theorem dX5_tell_18 : decode cX5_tell 18 = .ok (.getfield 249, 3) := by decide +kernel
theorem dX5_tell_21 : decode cX5_tell 21 = .ok (.imul, 1) := by decide +kernel
theorem dX5_tell_22 : decode cX5_tell 22 = .ok (.iconst 1, 1) := by decide +kernel
theorem dX5_tell_23 : decode cX5_tell 23 = .ok (.iadd, 1) := by decide +kernel
theorem dX5_tell_24 : decode cX5_tell 24 = .ok (.iload_n 2, 1) := by decide +kernel
theorem dX5_tell_25 : decode cX5_tell 25 = .ok (.bipush 64, 2) := by decide +kernel
theorem dX5_tell_27 : decode cX5_tell 27 = .ok (.idiv, 1) := by decide +kernel
theorem dX5_tell_28 : decode cX5_tell 28 = .ok (.iastore, 1) := by decide +kernel
theorem dX5_tell_29 : decode cX5_tell 29 = .ok (.aload_n 0, 1) := by decide +kernel
theorem dX5_tell_30 : decode cX5_tell 30 = .ok (.getfield 109, 3) := by decide +kernel
theorem dX5_tell_33 : decode cX5_tell 33 = .ok (.iconst 3, 1) := by decide +kernel
theorem dX5_tell_34 : decode cX5_tell 34 = .ok (.aload_n 0, 1) := by decide +kernel
theorem dX5_tell_35 : decode cX5_tell 35 = .ok (.getfield 249, 3) := by decide +kernel
theorem dX5_tell_38 : decode cX5_tell 38 = .ok (.imul, 1) := by decide +kernel
theorem dX5_tell_39 : decode cX5_tell 39 = .ok (.iconst 2, 1) := by decide +kernel
theorem dX5_tell_40 : decode cX5_tell 40 = .ok (.iadd, 1) := by decide +kernel
theorem dX5_tell_41 : decode cX5_tell 41 = .ok (.iload_n 2, 1) := by decide +kernel
theorem dX5_tell_42 : decode cX5_tell 42 = .ok (.bipush 64, 2) := by decide +kernel
theorem dX5_tell_44 : decode cX5_tell 44 = .ok (.irem, 1) := by decide +kernel
theorem dX5_tell_45 : decode cX5_tell 45 = .ok (.iconst 1, 1) := by decide +kernel
theorem dX5_tell_46 : decode cX5_tell 46 = .ok (.iadd, 1) := by decide +kernel
theorem dX5_tell_47 : decode cX5_tell 47 = .ok (.iastore, 1) := by decide +kernel
theorem dX5_tell_48 : decode cX5_tell 48 = .ok (.aload_n 0, 1) := by decide +kernel
theorem dX5_tell_49 : decode cX5_tell 49 = .ok (.dup, 1) := by decide +kernel
theorem dX5_tell_50 : decode cX5_tell 50 = .ok (.getfield 249, 3) := by decide +kernel
theorem dX5_tell_53 : decode cX5_tell 53 = .ok (.iconst 1, 1) := by decide +kernel
theorem dX5_tell_54 : decode cX5_tell 54 = .ok (.iadd, 1) := by decide +kernel
theorem dX5_tell_55 : decode cX5_tell 55 = .ok (.putfield 249, 3) := by decide +kernel
theorem dX5_tell_58 : decode cX5_tell 58 = .ok (.return_, 1) := by decide +kernel
set_option maxRecDepth 20000 in
theorem ggX5_compare_X5_counts : GoodIn wsX5_compare wsX5_counts := goodIn_r _ [7, 8, 15, 16, 17, 18, 19, 20, 21, 22, 23, 24, 25, 26, 27, 28, 29, 30, 31, 32, 33, 34, 35, 36, 37, 38, 39, 40, 41, 42, 43, 44, 45, 46, 47, 48] rfl (by decide +kernel)
set_option maxRecDepth 20000 in
theorem gX5_compare_X5_counts : GoodIn wsX5_compare (wsV RX5 189 RX5 yX5_counts wsX5_counts) := goodIn_app (goodIn_of _ (by decide +kernel)) ggX5_compare_X5_counts
set_option maxRecDepth 20000 in
theorem ggX5_compare_X5_tell : GoodIn wsX5_compare wsX5_tell := goodIn_r _ [12, 13, 14, 15, 16, 17, 18, 19, 20, 21, 22, 23, 24, 25, 26, 27, 28, 29, 30, 31, 32, 33, 34, 35, 36, 37, 38, 39, 40, 41, 42, 43, 44, 45, 46, 47, 48] rfl (by decide +kernel)
set_option maxRecDepth 20000 in
theorem gX5_compare_X5_tell : GoodIn wsX5_compare (wsV RX5 252 RX5 yX5_tell wsX5_tell) := goodIn_app (goodIn_of _ (by decide +kernel)) ggX5_compare_X5_tell
theorem dX5_compare_0 : decode cX5_compare 0 = .ok (.bipush 8, 2) := by decide +kernel
theorem dX5_compare_2 : decode cX5_compare 2 = .ok (.iload_n 1, 1) := by decide +kernel
theorem dX5_compare_3 : decode cX5_compare 3 = .ok (.bipush 32, 2) := by decide +kernel
theorem dX5_compare_5 : decode cX5_compare 5 = .ok (.isub, 1) := by decide +kernel
theorem dX5_compare_6 : decode cX5_compare 6 = .ok (.imul, 1) := by decide +kernel
theorem dX5_compare_7 : decode cX5_compare 7 = .ok (.istore_n 2, 1) := by decide +kernel
theorem dX5_compare_8 : decode cX5_compare 8 = .ok (.iload_n 2, 1) := by decide +kernel
theorem dX5_compare_9 : decode cX5_compare 9 = .ok (.bipush 8, 2) := by decide +kernel
theorem dX5_compare_11 : decode cX5_compare 11 = .ok (.iload_n 1, 1) := by decide +kernel
theorem dX5_compare_12 : decode cX5_compare 12 = .ok (.bipush 32, 2) := by decide +kernel
theorem dX5_compare_14 : decode cX5_compare 14 = .ok (.isub, 1) := by decide +kernel
theorem dX5_compare_15 : decode cX5_compare 15 = .ok (.imul, 1) := by decide +kernel
theorem dX5_compare_16 : decode cX5_compare 16 = .ok (.bipush 8, 2) := by decide +kernel
theorem dX5_compare_18 : decode cX5_compare 18 = .ok (.iadd, 1) := by decide +kernel
theorem dX5_compare_19 : decode cX5_compare 19 = .ok (.if_icmp .ge 107, 3) := by decide +kernel
theorem dX5_compare_22 : decode cX5_compare 22 = .ok (.aload_n 0, 1) := by decide +kernel
theorem dX5_compare_23 : decode cX5_compare 23 = .ok (.iload_n 2, 1) := by decide +kernel
theorem dX5_compare_24 : decode cX5_compare 24 = .ok (.bipush 64, 2) := by decide +kernel
theorem dX5_compare_26 : decode cX5_compare 26 = .ok (.idiv, 1) := by decide +kernel
theorem dX5_compare_27 : decode cX5_compare 27 = .ok (.invokevirtual 189, 3) := by decide +kernel
theorem dX5_compare_30 : decode cX5_compare 30 = .ok (.ifCond .ne 6, 3) := by decide +kernel
theorem dX5_compare_33 : decode cX5_compare 33 = .ok (.goto 87, 3) := by decide +kernel
theorem dX5_compare_36 : decode cX5_compare 36 = .ok (.aload_n 0, 1) := by decide +kernel
theorem dX5_compare_37 : decode cX5_compare 37 = .ok (.getfield 13, 3) := by decide +kernel
theorem dX5_compare_40 : decode cX5_compare 40 = .ok (.iload_n 2, 1) := by decide +kernel
theorem dX5_compare_41 : decode cX5_compare 41 = .ok (.baload, 1) := by decide +kernel
theorem dX5_compare_42 : decode cX5_compare 42 = .ok (.istore_n 3, 1) := by decide +kernel
theorem dX5_compare_43 : decode cX5_compare 43 = .ok (.aload_n 0, 1) := by decide +kernel
theorem dX5_compare_44 : decode cX5_compare 44 = .ok (.getfield 13, 3) := by decide +kernel
theorem dX5_compare_47 : decode cX5_compare 47 = .ok (.sipush 256, 3) := by decide +kernel
theorem dX5_compare_50 : decode cX5_compare 50 = .ok (.iload_n 2, 1) := by decide +kernel
theorem dX5_compare_51 : decode cX5_compare 51 = .ok (.iadd, 1) := by decide +kernel
theorem dX5_compare_52 : decode cX5_compare 52 = .ok (.baload, 1) := by decide +kernel
theorem dX5_compare_53 : decode cX5_compare 53 = .ok (.istore 4, 2) := by decide +kernel
theorem dX5_compare_55 : decode cX5_compare 55 = .ok (.iload_n 3, 1) := by decide +kernel
theorem dX5_compare_56 : decode cX5_compare 56 = .ok (.ifCond .eq 14, 3) := by decide +kernel
theorem dX5_compare_59 : decode cX5_compare 59 = .ok (.iload 4, 2) := by decide +kernel
theorem dX5_compare_61 : decode cX5_compare 61 = .ok (.ifCond .ne 9, 3) := by decide +kernel
theorem dX5_compare_64 : decode cX5_compare 64 = .ok (.aload_n 0, 1) := by decide +kernel
theorem dX5_compare_65 : decode cX5_compare 65 = .ok (.iconst 0, 1) := by decide +kernel
theorem dX5_compare_66 : decode cX5_compare 66 = .ok (.iload_n 2, 1) := by decide +kernel
theorem dX5_compare_67 : decode cX5_compare 67 = .ok (.invokevirtual 252, 3) := by decide +kernel
theorem dX5_compare_70 : decode cX5_compare 70 = .ok (.iload 4, 2) := by decide +kernel
theorem dX5_compare_72 : decode cX5_compare 72 = .ok (.ifCond .eq 13, 3) := by decide +kernel
theorem dX5_compare_75 : decode cX5_compare 75 = .ok (.iload_n 3, 1) := by decide +kernel
theorem dX5_compare_76 : decode cX5_compare 76 = .ok (.ifCond .ne 9, 3) := by decide +kernel
theorem dX5_compare_79 : decode cX5_compare 79 = .ok (.aload_n 0, 1) := by decide +kernel
theorem dX5_compare_80 : decode cX5_compare 80 = .ok (.iconst 1, 1) := by decide +kernel
theorem dX5_compare_81 : decode cX5_compare 81 = .ok (.iload_n 2, 1) := by decide +kernel
theorem dX5_compare_82 : decode cX5_compare 82 = .ok (.invokevirtual 252, 3) := by decide +kernel
theorem dX5_compare_85 : decode cX5_compare 85 = .ok (.iload_n 3, 1) := by decide +kernel
theorem dX5_compare_86 : decode cX5_compare 86 = .ok (.ifCond .eq 34, 3) := by decide +kernel
theorem dX5_compare_89 : decode cX5_compare 89 = .ok (.iload 4, 2) := by decide +kernel
theorem dX5_compare_91 : decode cX5_compare 91 = .ok (.ifCond .eq 29, 3) := by decide +kernel
theorem dX5_compare_94 : decode cX5_compare 94 = .ok (.aload_n 0, 1) := by decide +kernel
theorem dX5_compare_95 : decode cX5_compare 95 = .ok (.getfield 16, 3) := by decide +kernel
theorem dX5_compare_98 : decode cX5_compare 98 = .ok (.iload_n 2, 1) := by decide +kernel
theorem dX5_compare_99 : decode cX5_compare 99 = .ok (.laload, 1) := by decide +kernel
theorem dX5_compare_100 : decode cX5_compare 100 = .ok (.aload_n 0, 1) := by decide +kernel
theorem dX5_compare_101 : decode cX5_compare 101 = .ok (.getfield 16, 3) := by decide +kernel
theorem dX5_compare_104 : decode cX5_compare 104 = .ok (.sipush 256, 3) := by decide +kernel
theorem dX5_compare_107 : decode cX5_compare 107 = .ok (.iload_n 2, 1) := by decide +kernel
theorem dX5_compare_108 : decode cX5_compare 108 = .ok (.iadd, 1) := by decide +kernel
theorem dX5_compare_109 : decode cX5_compare 109 = .ok (.laload, 1) := by decide +kernel
theorem dX5_compare_110 : decode cX5_compare 110 = .ok (.lcmp, 1) := by decide +kernel
theorem dX5_compare_111 : decode cX5_compare 111 = .ok (.ifCond .eq 9, 3) := by decide +kernel
theorem dX5_compare_114 : decode cX5_compare 114 = .ok (.aload_n 0, 1) := by decide +kernel
theorem dX5_compare_115 : decode cX5_compare 115 = .ok (.iconst 2, 1) := by decide +kernel
theorem dX5_compare_116 : decode cX5_compare 116 = .ok (.iload_n 2, 1) := by decide +kernel
theorem dX5_compare_117 : decode cX5_compare 117 = .ok (.invokevirtual 252, 3) := by decide +kernel
theorem dX5_compare_120 : decode cX5_compare 120 = .ok (.iinc 2 1, 3) := by decide +kernel
theorem dX5_compare_123 : decode cX5_compare 123 = .ok (.goto (-115), 3) := by decide +kernel
theorem dX5_compare_126 : decode cX5_compare 126 = .ok (.return_, 1) := by decide +kernel
set_option maxRecDepth 20000 in
theorem ggX5_round_X5_raise : GoodIn wsX5_round wsX5_raise := goodIn_r _ [12, 3, 102, 103, 104, 105, 106, 107, 108, 109, 110, 111, 112, 113, 114, 115, 116, 117, 118, 119, 120, 121, 122, 123, 124, 125, 126, 127, 128, 129, 130, 131, 132, 133, 134, 135] rfl (by decide +kernel)
set_option maxRecDepth 20000 in
theorem gX5_round_X5_raise : GoodIn wsX5_round (wsV RX5 223 RX5 yX5_raise wsX5_raise) := goodIn_app (goodIn_of _ (by decide +kernel)) ggX5_round_X5_raise
set_option maxRecDepth 20000 in
theorem ggX5_round_X5_isAlike : GoodIn wsX5_round wsX5_isAlike := goodIn_r _ [16, 17, 18, 19, 20, 11, 21, 22, 23, 24, 25, 26, 27, 28, 29, 30, 31, 32, 33, 34, 35, 36, 37, 38, 39, 40, 41, 42, 43, 44, 45, 46, 47, 48, 49, 50, 51, 52, 53, 54, 55, 56, 57, 58, 59, 60, 61, 62, 63, 64, 65, 66, 67, 68, 69, 70, 71, 72, 73, 74, 75, 76, 77, 78, 79, 80, 81, 82, 83, 84, 85, 86, 87, 88, 89, 90, 91, 102, 103, 104, 105, 106, 107, 108, 109, 110, 111, 112, 113, 114, 115, 116, 117, 118, 119, 120, 121, 122, 123, 124, 125, 126, 127, 128, 129, 130, 131, 132, 133, 134, 135] rfl (by decide +kernel)
set_option maxRecDepth 20000 in
theorem gX5_round_X5_isAlike : GoodIn wsX5_round (wsV RX5 258 RX5 yX5_isAlike wsX5_isAlike) := goodIn_app (goodIn_of _ (by decide +kernel)) ggX5_round_X5_isAlike
set_option maxRecDepth 20000 in
theorem ggX5_round_X5_compare : GoodIn wsX5_round wsX5_compare := goodIn_r _ [95, 34, 51, 41, 42, 43, 11, 44, 45, 96, 97, 98, 99, 100, 101, 102, 103, 104, 105, 106, 107, 108, 109, 110, 111, 112, 113, 114, 115, 116, 117, 118, 119, 120, 121, 122, 123, 124, 125, 126, 127, 128, 129, 130, 131, 132, 133, 134, 135] rfl (by decide +kernel)
set_option maxRecDepth 20000 in
theorem gX5_round_X5_compare : GoodIn wsX5_round (wsV RX5 261 RX5 yX5_compare wsX5_compare) := goodIn_app (goodIn_of _ (by decide +kernel)) ggX5_round_X5_compare
theorem dX5_round_0 : decode cX5_round 0 = .ok (.aload_n 0, 1) := by decide +kernel
theorem dX5_round_1 : decode cX5_round 1 = .ok (.getfield 239, 3) := by decide +kernel
theorem dX5_round_4 : decode cX5_round 4 = .ok (.ifCond .eq 10, 3) := by decide +kernel
theorem dX5_round_7 : decode cX5_round 7 = .ok (.aload_n 0, 1) := by decide +kernel
theorem dX5_round_8 : decode cX5_round 8 = .ok (.getfield 246, 3) := by decide +kernel
theorem dX5_round_11 : decode cX5_round 11 = .ok (.ifCond .ne 8, 3) := by decide +kernel
theorem dX5_round_14 : decode cX5_round 14 = .ok (.aload_n 0, 1) := by decide +kernel
theorem dX5_round_15 : decode cX5_round 15 = .ok (.invokevirtual 223, 3) := by decide +kernel
theorem dX5_round_18 : decode cX5_round 18 = .ok (.ireturn, 1) := by decide +kernel
theorem dX5_round_19 : decode cX5_round 19 = .ok (.aload_n 0, 1) := by decide +kernel
theorem dX5_round_20 : decode cX5_round 20 = .ok (.iconst 0, 1) := by decide +kernel
theorem dX5_round_21 : decode cX5_round 21 = .ok (.putfield 148, 3) := by decide +kernel
theorem dX5_round_24 : decode cX5_round 24 = .ok (.aload_n 0, 1) := by decide +kernel
theorem dX5_round_25 : decode cX5_round 25 = .ok (.iconst 0, 1) := by decide +kernel
theorem dX5_round_26 : decode cX5_round 26 = .ok (.putfield 255, 3) := by decide +kernel
theorem dX5_round_29 : decode cX5_round 29 = .ok (.iconst 0, 1) := by decide +kernel
theorem dX5_round_30 : decode cX5_round 30 = .ok (.istore_n 1, 1) := by decide +kernel
theorem dX5_round_31 : decode cX5_round 31 = .ok (.iload_n 1, 1) := by decide +kernel
theorem dX5_round_32 : decode cX5_round 32 = .ok (.aload_n 0, 1) := by decide +kernel
theorem dX5_round_33 : decode cX5_round 33 = .ok (.getfield 246, 3) := by decide +kernel
theorem dX5_round_36 : decode cX5_round 36 = .ok (.if_icmp .ge 79, 3) := by decide +kernel
theorem dX5_round_39 : decode cX5_round 39 = .ok (.aload_n 0, 1) := by decide +kernel
theorem dX5_round_40 : decode cX5_round 40 = .ok (.getfield 103, 3) := by decide +kernel
theorem dX5_round_43 : decode cX5_round 43 = .ok (.iload_n 1, 1) := by decide +kernel
theorem dX5_round_44 : decode cX5_round 44 = .ok (.iaload, 1) := by decide +kernel
theorem dX5_round_45 : decode cX5_round 45 = .ok (.istore_n 2, 1) := by decide +kernel
theorem dX5_round_46 : decode cX5_round 46 = .ok (.aload_n 0, 1) := by decide +kernel
theorem dX5_round_47 : decode cX5_round 47 = .ok (.iload_n 2, 1) := by decide +kernel
theorem dX5_round_48 : decode cX5_round 48 = .ok (.invokevirtual 258, 3) := by decide +kernel
theorem dX5_round_51 : decode cX5_round 51 = .ok (.ifCond .eq 6, 3) := by decide +kernel
theorem dX5_round_54 : decode cX5_round 54 = .ok (.goto 55, 3) := by decide +kernel
theorem dX5_round_57 : decode cX5_round 57 = .ok (.iload_n 2, 1) := by decide +kernel
theorem dX5_round_58 : decode cX5_round 58 = .ok (.bipush 32, 2) := by decide +kernel
theorem dX5_round_60 : decode cX5_round 60 = .ok (.if_icmp .lt 11, 3) := by decide +kernel
theorem dX5_round_63 : decode cX5_round 63 = .ok (.aload_n 0, 1) := by decide +kernel
theorem dX5_round_64 : decode cX5_round 64 = .ok (.iload_n 2, 1) := by decide +kernel
