theorem dX5_round_65 : decode cX5_round 65 = .ok (.invokevirtual 261, 3) := by decide +kernel
theorem dX5_round_68 : decode cX5_round 68 = .ok (.goto 41, 3) := by decide +kernel
theorem dX5_round_71 : decode cX5_round 71 = .ok (.aload_n 0, 1) := by decide +kernel
theorem dX5_round_72 : decode cX5_round 72 = .ok (.getfield 106, 3) := by decide +kernel
theorem dX5_round_75 : decode cX5_round 75 = .ok (.aload_n 0, 1) := by decide +kernel
theorem dX5_round_76 : decode cX5_round 76 = .ok (.getfield 255, 3) := by decide +kernel
theorem dX5_round_79 : decode cX5_round 79 = .ok (.iconst 2, 1) := by decide +kernel
theorem dX5_round_80 : decode cX5_round 80 = .ok (.iload_n 2, 1) := by decide +kernel
theorem dX5_round_81 : decode cX5_round 81 = .ok (.imul, 1) := by decide +kernel
theorem dX5_round_82 : decode cX5_round 82 = .ok (.iastore, 1) := by decide +kernel
theorem dX5_round_83 : decode cX5_round 83 = .ok (.aload_n 0, 1) := by decide +kernel
theorem dX5_round_84 : decode cX5_round 84 = .ok (.getfield 106, 3) := by decide +kernel
theorem dX5_round_87 : decode cX5_round 87 = .ok (.aload_n 0, 1) := by decide +kernel
theorem dX5_round_88 : decode cX5_round 88 = .ok (.getfield 255, 3) := by decide +kernel
theorem dX5_round_91 : decode cX5_round 91 = .ok (.iconst 1, 1) := by decide +kernel
theorem dX5_round_92 : decode cX5_round 92 = .ok (.iadd, 1) := by decide +kernel
theorem dX5_round_93 : decode cX5_round 93 = .ok (.iconst 2, 1) := by decide +kernel
theorem dX5_round_94 : decode cX5_round 94 = .ok (.iload_n 2, 1) := by decide +kernel
theorem dX5_round_95 : decode cX5_round 95 = .ok (.imul, 1) := by decide +kernel
theorem dX5_round_96 : decode cX5_round 96 = .ok (.iconst 1, 1) := by decide +kernel
theorem dX5_round_97 : decode cX5_round 97 = .ok (.iadd, 1) := by decide +kernel
theorem dX5_round_98 : decode cX5_round 98 = .ok (.iastore, 1) := by decide +kernel
theorem dX5_round_99 : decode cX5_round 99 = .ok (.aload_n 0, 1) := by decide +kernel
theorem dX5_round_100 : decode cX5_round 100 = .ok (.dup, 1) := by decide +kernel
theorem dX5_round_101 : decode cX5_round 101 = .ok (.getfield 255, 3) := by decide +kernel
theorem dX5_round_104 : decode cX5_round 104 = .ok (.iconst 2, 1) := by decide +kernel
theorem dX5_round_105 : decode cX5_round 105 = .ok (.iadd, 1) := by decide +kernel
theorem dX5_round_106 : decode cX5_round 106 = .ok (.putfield 255, 3) := by decide +kernel
theorem dX5_round_109 : decode cX5_round 109 = .ok (.iinc 1 1, 3) := by decide +kernel
theorem dX5_round_112 : decode cX5_round 112 = .ok (.goto (-81), 3) := by decide +kernel
theorem dX5_round_115 : decode cX5_round 115 = .ok (.aload_n 0, 1) := by decide +kernel
theorem dX5_round_116 : decode cX5_round 116 = .ok (.dup, 1) := by decide +kernel
theorem dX5_round_117 : decode cX5_round 117 = .ok (.getfield 243, 3) := by decide +kernel
theorem dX5_round_120 : decode cX5_round 120 = .ok (.iconst 1, 1) := by decide +kernel
theorem dX5_round_121 : decode cX5_round 121 = .ok (.iadd, 1) := by decide +kernel
theorem dX5_round_122 : decode cX5_round 122 = .ok (.putfield 243, 3) := by decide +kernel
theorem dX5_round_125 : decode cX5_round 125 = .ok (.aload_n 0, 1) := by decide +kernel
theorem dX5_round_126 : decode cX5_round 126 = .ok (.aload_n 0, 1) := by decide +kernel
theorem dX5_round_127 : decode cX5_round 127 = .ok (.getfield 255, 3) := by decide +kernel
theorem dX5_round_130 : decode cX5_round 130 = .ok (.putfield 246, 3) := by decide +kernel
theorem dX5_round_133 : decode cX5_round 133 = .ok (.iconst 0, 1) := by decide +kernel
theorem dX5_round_134 : decode cX5_round 134 = .ok (.istore_n 1, 1) := by decide +kernel
theorem dX5_round_135 : decode cX5_round 135 = .ok (.iload_n 1, 1) := by decide +kernel
theorem dX5_round_136 : decode cX5_round 136 = .ok (.aload_n 0, 1) := by decide +kernel
theorem dX5_round_137 : decode cX5_round 137 = .ok (.getfield 255, 3) := by decide +kernel
theorem dX5_round_140 : decode cX5_round 140 = .ok (.if_icmp .ge 21, 3) := by decide +kernel
theorem dX5_round_143 : decode cX5_round 143 = .ok (.aload_n 0, 1) := by decide +kernel
theorem dX5_round_144 : decode cX5_round 144 = .ok (.getfield 103, 3) := by decide +kernel
theorem dX5_round_147 : decode cX5_round 147 = .ok (.iload_n 1, 1) := by decide +kernel
theorem dX5_round_148 : decode cX5_round 148 = .ok (.aload_n 0, 1) := by decide +kernel
theorem dX5_round_149 : decode cX5_round 149 = .ok (.getfield 106, 3) := by decide +kernel
theorem dX5_round_152 : decode cX5_round 152 = .ok (.iload_n 1, 1) := by decide +kernel
theorem dX5_round_153 : decode cX5_round 153 = .ok (.iaload, 1) := by decide +kernel
theorem dX5_round_154 : decode cX5_round 154 = .ok (.iastore, 1) := by decide +kernel
theorem dX5_round_155 : decode cX5_round 155 = .ok (.iinc 1 1, 3) := by decide +kernel
theorem dX5_round_158 : decode cX5_round 158 = .ok (.goto (-23), 3) := by decide +kernel
theorem dX5_round_161 : decode cX5_round 161 = .ok (.aload_n 0, 1) := by decide +kernel
theorem dX5_round_162 : decode cX5_round 162 = .ok (.getfield 246, 3) := by decide +kernel
theorem dX5_round_165 : decode cX5_round 165 = .ok (.ireturn, 1) := by decide +kernel
theorem dX5_rounds_0 : decode cX5_rounds 0 = .ok (.aload_n 0, 1) := by decide +kernel
theorem dX5_rounds_1 : decode cX5_rounds 1 = .ok (.iconst 0, 1) := by decide +kernel
theorem dX5_rounds_2 : decode cX5_rounds 2 = .ok (.putfield 148, 3) := by decide +kernel
theorem dX5_rounds_5 : decode cX5_rounds 5 = .ok (.aload_n 0, 1) := by decide +kernel
theorem dX5_rounds_6 : decode cX5_rounds 6 = .ok (.getfield 239, 3) := by decide +kernel
theorem dX5_rounds_9 : decode cX5_rounds 9 = .ok (.ifCond .eq 10, 3) := by decide +kernel
theorem dX5_rounds_12 : decode cX5_rounds 12 = .ok (.aload_n 0, 1) := by decide +kernel
theorem dX5_rounds_13 : decode cX5_rounds 13 = .ok (.getfield 243, 3) := by decide +kernel
theorem dX5_rounds_16 : decode cX5_rounds 16 = .ok (.goto 4, 3) := by decide +kernel
theorem dX5_rounds_19 : decode cX5_rounds 19 = .ok (.iconst (-1), 1) := by decide +kernel
theorem dX5_rounds_20 : decode cX5_rounds 20 = .ok (.ireturn, 1) := by decide +kernel
set_option maxRecDepth 20000 in
theorem ggX5_differ_X5_within : GoodIn wsX5_differ wsX5_within := goodIn_r _ [8] rfl (by decide +kernel)
set_option maxRecDepth 20000 in
theorem gX5_differ_X5_within : GoodIn wsX5_differ (va_wsS RX5 152 yX5_within wsX5_within) := goodIn_app (goodIn_of _ (by decide +kernel)) ggX5_differ_X5_within
theorem dX5_differ_0 : decode cX5_differ 0 = .ok (.aload_n 0, 1) := by decide +kernel
theorem dX5_differ_1 : decode cX5_differ 1 = .ok (.iconst 0, 1) := by decide +kernel
theorem dX5_differ_2 : decode cX5_differ 2 = .ok (.putfield 148, 3) := by decide +kernel
theorem dX5_differ_5 : decode cX5_differ 5 = .ok (.aload_n 0, 1) := by decide +kernel
theorem dX5_differ_6 : decode cX5_differ 6 = .ok (.getfield 239, 3) := by decide +kernel
theorem dX5_differ_9 : decode cX5_differ 9 = .ok (.ifCond .eq 26, 3) := by decide +kernel
theorem dX5_differ_12 : decode cX5_differ 12 = .ok (.iload_n 1, 1) := by decide +kernel
theorem dX5_differ_13 : decode cX5_differ 13 = .ok (.iconst 0, 1) := by decide +kernel
theorem dX5_differ_14 : decode cX5_differ 14 = .ok (.aload_n 0, 1) := by decide +kernel
theorem dX5_differ_15 : decode cX5_differ 15 = .ok (.getfield 249, 3) := by decide +kernel
theorem dX5_differ_18 : decode cX5_differ 18 = .ok (.iconst 1, 1) := by decide +kernel
theorem dX5_differ_19 : decode cX5_differ 19 = .ok (.isub, 1) := by decide +kernel
theorem dX5_differ_20 : decode cX5_differ 20 = .ok (.invokestatic 152, 3) := by decide +kernel
theorem dX5_differ_23 : decode cX5_differ 23 = .ok (.ifCond .eq 12, 3) := by decide +kernel
theorem dX5_differ_26 : decode cX5_differ 26 = .ok (.iload_n 2, 1) := by decide +kernel
theorem dX5_differ_27 : decode cX5_differ 27 = .ok (.iconst 0, 1) := by decide +kernel
theorem dX5_differ_28 : decode cX5_differ 28 = .ok (.iconst 2, 1) := by decide +kernel
theorem dX5_differ_29 : decode cX5_differ 29 = .ok (.invokestatic 152, 3) := by decide +kernel
theorem dX5_differ_32 : decode cX5_differ 32 = .ok (.ifCond .ne 7, 3) := by decide +kernel
theorem dX5_differ_35 : decode cX5_differ 35 = .ok (.iconst (-1), 1) := by decide +kernel
theorem dX5_differ_36 : decode cX5_differ 36 = .ok (.goto 13, 3) := by decide +kernel
theorem dX5_differ_39 : decode cX5_differ 39 = .ok (.aload_n 0, 1) := by decide +kernel
theorem dX5_differ_40 : decode cX5_differ 40 = .ok (.getfield 109, 3) := by decide +kernel
theorem dX5_differ_43 : decode cX5_differ 43 = .ok (.iconst 3, 1) := by decide +kernel
theorem dX5_differ_44 : decode cX5_differ 44 = .ok (.iload_n 1, 1) := by decide +kernel
theorem dX5_differ_45 : decode cX5_differ 45 = .ok (.imul, 1) := by decide +kernel
theorem dX5_differ_46 : decode cX5_differ 46 = .ok (.iload_n 2, 1) := by decide +kernel
theorem dX5_differ_47 : decode cX5_differ 47 = .ok (.iadd, 1) := by decide +kernel
theorem dX5_differ_48 : decode cX5_differ 48 = .ok (.iaload, 1) := by decide +kernel
theorem dX5_differ_49 : decode cX5_differ 49 = .ok (.ireturn, 1) := by decide +kernel
set_option maxRecDepth 20000 in
theorem ggX5_equal_X5_isAlike : GoodIn wsX5_equal wsX5_isAlike := goodIn_r _ [6, 7, 8, 9, 10, 5, 11, 12, 13, 14, 15, 16, 17, 18, 19, 20, 21, 22, 23, 24, 25, 26, 27, 28, 29, 30, 31, 32, 33, 34, 35, 36, 37, 38, 39, 40, 41, 42, 43, 44, 45, 46, 47, 48, 49, 50, 51, 52, 53, 54, 55, 56, 57, 58, 59, 60, 61, 62, 63, 64, 65, 66, 67, 68, 69, 70, 71, 72, 73, 74, 75, 76, 77, 78, 79, 80, 81, 82, 83, 84, 85, 86, 87, 88, 89, 90, 91, 92, 93, 94, 95, 96, 97, 98, 99, 100, 101, 102, 103, 104, 105, 106, 107, 108, 109, 110, 111, 112, 113, 114, 115] rfl (by decide +kernel)
set_option maxRecDepth 20000 in
theorem gX5_equal_X5_isAlike : GoodIn wsX5_equal (wsV RX5 258 RX5 yX5_isAlike wsX5_isAlike) := goodIn_app (goodIn_of _ (by decide +kernel)) ggX5_equal_X5_isAlike
theorem dX5_equal_0 : decode cX5_equal 0 = .ok (.aload_n 0, 1) := by decide +kernel
theorem dX5_equal_1 : decode cX5_equal 1 = .ok (.iconst 0, 1) := by decide +kernel
theorem dX5_equal_2 : decode cX5_equal 2 = .ok (.putfield 148, 3) := by decide +kernel
theorem dX5_equal_5 : decode cX5_equal 5 = .ok (.aload_n 0, 1) := by decide +kernel
theorem dX5_equal_6 : decode cX5_equal 6 = .ok (.iconst 1, 1) := by decide +kernel
theorem dX5_equal_7 : decode cX5_equal 7 = .ok (.invokevirtual 258, 3) := by decide +kernel
theorem dX5_equal_10 : decode cX5_equal 10 = .ok (.ireturn, 1) := by decide +kernel
set_option maxRecDepth 20000 in
theorem ggX5_hash_X5_put : GoodIn wsX5_hash wsX5_put := goodIn_r _ [6, 7, 1, 20, 21, 22, 23, 24, 25, 26, 27, 28, 29, 30, 31, 32, 33, 34, 35, 36, 37, 38, 39, 40, 41, 42, 43, 44, 45, 46, 47, 48, 49, 50, 51, 52, 53] rfl (by decide +kernel)
set_option maxRecDepth 20000 in
theorem gX5_hash_X5_put : GoodIn wsX5_hash (wsV RX5 159 RX5 yX5_put wsX5_put) := goodIn_app (goodIn_of _ (by decide +kernel)) ggX5_hash_X5_put
set_option maxRecDepth 20000 in
theorem ggX5_hash_X5_putRow : GoodIn wsX5_hash wsX5_putRow := goodIn_r _ [11, 2, 3, 4, 5, 6, 7, 1, 20, 21, 22, 23, 24, 25, 26, 27, 28, 29, 30, 31, 32, 33, 34, 35, 36, 37, 38, 39, 40, 41, 42, 43, 44, 45, 46, 47, 48, 49, 50, 51, 52, 53] rfl (by decide +kernel)
set_option maxRecDepth 20000 in
theorem gX5_hash_X5_putRow : GoodIn wsX5_hash (wsV RX5 193 RX5 yX5_putRow wsX5_putRow) := goodIn_app (goodIn_of _ (by decide +kernel)) ggX5_hash_X5_putRow
set_option maxRecDepth 20000 in
theorem ggX5_hash_X5_fold : GoodIn wsX5_hash wsX5_fold := goodIn_r _ [15, 1, 7, 16, 17, 18, 5, 19, 20, 21, 22, 23, 24, 25, 26, 27, 28, 29, 30, 31, 32, 33, 34, 35, 36, 37, 38, 39, 40, 41, 42, 43, 44, 45, 46, 47, 48, 49, 50, 51, 52, 53] rfl (by decide +kernel)
set_option maxRecDepth 20000 in
theorem gX5_hash_X5_fold : GoodIn wsX5_hash (wsV RX5 208 RX5 yX5_fold wsX5_fold) := goodIn_app (goodIn_of _ (by decide +kernel)) ggX5_hash_X5_fold
theorem dX5_hash_0 : decode cX5_hash 0 = .ok (.aload_n 0, 1) := by decide +kernel
theorem dX5_hash_1 : decode cX5_hash 1 = .ok (.iconst 0, 1) := by decide +kernel
theorem dX5_hash_2 : decode cX5_hash 2 = .ok (.putfield 156, 3) := by decide +kernel
theorem dX5_hash_5 : decode cX5_hash 5 = .ok (.aload_n 0, 1) := by decide +kernel
theorem dX5_hash_6 : decode cX5_hash 6 = .ok (.iload_n 1, 1) := by decide +kernel
theorem dX5_hash_7 : decode cX5_hash 7 = .ok (.invokevirtual 159, 3) := by decide +kernel
theorem dX5_hash_10 : decode cX5_hash 10 = .ok (.aload_n 0, 1) := by decide +kernel
theorem dX5_hash_11 : decode cX5_hash 11 = .ok (.iload_n 2, 1) := by decide +kernel
theorem dX5_hash_12 : decode cX5_hash 12 = .ok (.lload_n 3, 1) := by decide +kernel
theorem dX5_hash_13 : decode cX5_hash 13 = .ok (.invokevirtual 193, 3) := by decide +kernel
theorem dX5_hash_16 : decode cX5_hash 16 = .ok (.aload_n 0, 1) := by decide +kernel
theorem dX5_hash_17 : decode cX5_hash 17 = .ok (.invokevirtual 208, 3) := by decide +kernel
theorem dX5_hash_20 : decode cX5_hash 20 = .ok (.ireturn, 1) := by decide +kernel
set_option maxRecDepth 20000 in
theorem ggX5_mix_X5_hash : GoodIn wsX5_mix wsX5_hash := goodIn_r _ [11, 12, 13, 14, 15, 10, 16, 17, 18, 19, 20, 21, 22, 23, 24, 25, 26, 27, 28, 29, 30, 31, 32, 33, 34, 35, 36, 37, 38, 39, 40, 41, 42, 43, 44, 45, 46, 47, 48, 49, 50, 51, 52, 53, 54, 55, 56, 57, 58, 59, 60, 61, 62, 63] rfl (by decide +kernel)
set_option maxRecDepth 20000 in
theorem gX5_mix_X5_hash : GoodIn wsX5_mix (wsV RX5 267 RX5 yX5_hash wsX5_hash) := goodIn_app (goodIn_of _ (by decide +kernel)) ggX5_mix_X5_hash
theorem dX5_mix_0 : decode cX5_mix 0 = .ok (.aload_n 0, 1) := by decide +kernel
theorem dX5_mix_1 : decode cX5_mix 1 = .ok (.getfield 264, 3) := by decide +kernel
theorem dX5_mix_4 : decode cX5_mix 4 = .ok (.iconst 3, 1) := by decide +kernel
theorem dX5_mix_5 : decode cX5_mix 5 = .ok (.idiv, 1) := by decide +kernel
theorem dX5_mix_6 : decode cX5_mix 6 = .ok (.istore 5, 2) := by decide +kernel
theorem dX5_mix_8 : decode cX5_mix 8 = .ok (.aload_n 0, 1) := by decide +kernel
theorem dX5_mix_9 : decode cX5_mix 9 = .ok (.iconst 3, 1) := by decide +kernel
theorem dX5_mix_10 : decode cX5_mix 10 = .ok (.iload_n 1, 1) := by decide +kernel
theorem dX5_mix_11 : decode cX5_mix 11 = .ok (.lload_n 2, 1) := by decide +kernel
theorem dX5_mix_12 : decode cX5_mix 12 = .ok (.invokevirtual 267, 3) := by decide +kernel
theorem dX5_mix_15 : decode cX5_mix 15 = .ok (.istore 6, 2) := by decide +kernel
theorem dX5_mix_17 : decode cX5_mix 17 = .ok (.iconst 0, 1) := by decide +kernel
theorem dX5_mix_18 : decode cX5_mix 18 = .ok (.istore 7, 2) := by decide +kernel
theorem dX5_mix_20 : decode cX5_mix 20 = .ok (.iload 7, 2) := by decide +kernel
theorem dX5_mix_22 : decode cX5_mix 22 = .ok (.iconst 3, 1) := by decide +kernel
theorem dX5_mix_23 : decode cX5_mix 23 = .ok (.if_icmp .ge 81, 3) := by decide +kernel
theorem dX5_mix_26 : decode cX5_mix 26 = .ok (.iload 7, 2) := by decide +kernel
theorem dX5_mix_28 : decode cX5_mix 28 = .ok (.iload 5, 2) := by decide +kernel
theorem dX5_mix_30 : decode cX5_mix 30 = .ok (.imul, 1) := by decide +kernel
theorem dX5_mix_31 : decode cX5_mix 31 = .ok (.aload_n 0, 1) := by decide +kernel
theorem dX5_mix_32 : decode cX5_mix 32 = .ok (.iload 7, 2) := by decide +kernel
theorem dX5_mix_34 : decode cX5_mix 34 = .ok (.iload_n 1, 1) := by decide +kernel
theorem dX5_mix_35 : decode cX5_mix 35 = .ok (.lload_n 2, 1) := by decide +kernel
theorem dX5_mix_36 : decode cX5_mix 36 = .ok (.invokevirtual 267, 3) := by decide +kernel
theorem dX5_mix_39 : decode cX5_mix 39 = .ok (.i2l, 1) := by decide +kernel
theorem dX5_mix_40 : decode cX5_mix 40 = .ok (.ldc2_w 271, 3) := by decide +kernel
theorem dX5_mix_43 : decode cX5_mix 43 = .ok (.land, 1) := by decide +kernel
theorem dX5_mix_44 : decode cX5_mix 44 = .ok (.iload 5, 2) := by decide +kernel
theorem dX5_mix_46 : decode cX5_mix 46 = .ok (.i2l, 1) := by decide +kernel
theorem dX5_mix_47 : decode cX5_mix 47 = .ok (.lrem, 1) := by decide +kernel
theorem dX5_mix_48 : decode cX5_mix 48 = .ok (.l2i, 1) := by decide +kernel
theorem dX5_mix_49 : decode cX5_mix 49 = .ok (.iadd, 1) := by decide +kernel
theorem dX5_mix_50 : decode cX5_mix 50 = .ok (.istore 8, 2) := by decide +kernel
theorem dX5_mix_52 : decode cX5_mix 52 = .ok (.aload_n 0, 1) := by decide +kernel
theorem dX5_mix_53 : decode cX5_mix 53 = .ok (.getfield 112, 3) := by decide +kernel
theorem dX5_mix_56 : decode cX5_mix 56 = .ok (.iload 8, 2) := by decide +kernel
theorem dX5_mix_58 : decode cX5_mix 58 = .ok (.dup2, 1) := by decide +kernel
theorem dX5_mix_59 : decode cX5_mix 59 = .ok (.iaload, 1) := by decide +kernel
theorem dX5_mix_60 : decode cX5_mix 60 = .ok (.iload 4, 2) := by decide +kernel
theorem dX5_mix_62 : decode cX5_mix 62 = .ok (.iadd, 1) := by decide +kernel
theorem dX5_mix_63 : decode cX5_mix 63 = .ok (.iastore, 1) := by decide +kernel
theorem dX5_mix_64 : decode cX5_mix 64 = .ok (.aload_n 0, 1) := by decide +kernel
theorem dX5_mix_65 : decode cX5_mix 65 = .ok (.getfield 115, 3) := by decide +kernel
theorem dX5_mix_68 : decode cX5_mix 68 = .ok (.iload 8, 2) := by decide +kernel
theorem dX5_mix_70 : decode cX5_mix 70 = .ok (.dup2, 1) := by decide +kernel
theorem dX5_mix_71 : decode cX5_mix 71 = .ok (.iaload, 1) := by decide +kernel
theorem dX5_mix_72 : decode cX5_mix 72 = .ok (.iload_n 1, 1) := by decide +kernel
theorem dX5_mix_73 : decode cX5_mix 73 = .ok (.ixor, 1) := by decide +kernel
theorem dX5_mix_74 : decode cX5_mix 74 = .ok (.iastore, 1) := by decide +kernel
theorem dX5_mix_75 : decode cX5_mix 75 = .ok (.aload_n 0, 1) := by decide +kernel
theorem dX5_mix_76 : decode cX5_mix 76 = .ok (.getfield 118, 3) := by decide +kernel
theorem dX5_mix_79 : decode cX5_mix 79 = .ok (.iload 8, 2) := by decide +kernel
theorem dX5_mix_81 : decode cX5_mix 81 = .ok (.dup2, 1) := by decide +kernel
theorem dX5_mix_82 : decode cX5_mix 82 = .ok (.laload, 1) := by decide +kernel
theorem dX5_mix_83 : decode cX5_mix 83 = .ok (.lload_n 2, 1) := by decide +kernel
theorem dX5_mix_84 : decode cX5_mix 84 = .ok (.lxor, 1) := by decide +kernel
theorem dX5_mix_85 : decode cX5_mix 85 = .ok (.lastore, 1) := by decide +kernel
theorem dX5_mix_86 : decode cX5_mix 86 = .ok (.aload_n 0, 1) := by decide +kernel
theorem dX5_mix_87 : decode cX5_mix 87 = .ok (.getfield 121, 3) := by decide +kernel
theorem dX5_mix_90 : decode cX5_mix 90 = .ok (.iload 8, 2) := by decide +kernel
theorem dX5_mix_92 : decode cX5_mix 92 = .ok (.dup2, 1) := by decide +kernel
theorem dX5_mix_93 : decode cX5_mix 93 = .ok (.iaload, 1) := by decide +kernel
theorem dX5_mix_94 : decode cX5_mix 94 = .ok (.iload 6, 2) := by decide +kernel
theorem dX5_mix_96 : decode cX5_mix 96 = .ok (.ixor, 1) := by decide +kernel
theorem dX5_mix_97 : decode cX5_mix 97 = .ok (.iastore, 1) := by decide +kernel
theorem dX5_mix_98 : decode cX5_mix 98 = .ok (.iinc 7 1, 3) := by decide +kernel
theorem dX5_mix_101 : decode cX5_mix 101 = .ok (.goto (-81), 3) := by decide +kernel
theorem dX5_mix_104 : decode cX5_mix 104 = .ok (.return_, 1) := by decide +kernel
set_option maxRecDepth 20000 in
theorem ggX5_pure_X5_within : GoodIn wsX5_pure wsX5_within := goodIn_r _ [9] rfl (by decide +kernel)
set_option maxRecDepth 20000 in
theorem gX5_pure_X5_within : GoodIn wsX5_pure (va_wsS RX5 152 yX5_within wsX5_within) := goodIn_app (goodIn_of _ (by decide +kernel)) ggX5_pure_X5_within
set_option maxRecDepth 20000 in
theorem ggX5_pure_X5_hash : GoodIn wsX5_pure wsX5_hash := goodIn_r _ [13, 14, 15, 16, 17, 8, 18, 19, 20, 21, 22, 23, 24, 25, 26, 27, 28, 29, 30, 31, 32, 33, 34, 35, 36, 37, 38, 39, 40, 41, 42, 43, 44, 45, 46, 47, 48, 49, 50, 51, 52, 53, 54, 55, 56, 57, 58, 59, 60, 61, 62, 63, 64, 65] rfl (by decide +kernel)
set_option maxRecDepth 20000 in
theorem gX5_pure_X5_hash : GoodIn wsX5_pure (wsV RX5 267 RX5 yX5_hash wsX5_hash) := goodIn_app (goodIn_of _ (by decide +kernel)) ggX5_pure_X5_hash
theorem dX5_pure_0 : decode cX5_pure 0 = .ok (.iconst 0, 1) := by decide +kernel
theorem dX5_pure_1 : decode cX5_pure 1 = .ok (.istore_n 1, 1) := by decide +kernel
theorem dX5_pure_2 : decode cX5_pure 2 = .ok (.iload_n 1, 1) := by decide +kernel
theorem dX5_pure_3 : decode cX5_pure 3 = .ok (.aload_n 0, 1) := by decide +kernel
theorem dX5_pure_4 : decode cX5_pure 4 = .ok (.getfield 264, 3) := by decide +kernel
theorem dX5_pure_7 : decode cX5_pure 7 = .ok (.if_icmp .ge 73, 3) := by decide +kernel
theorem dX5_pure_10 : decode cX5_pure 10 = .ok (.aload_n 0, 1) := by decide +kernel
theorem dX5_pure_11 : decode cX5_pure 11 = .ok (.getfield 112, 3) := by decide +kernel
theorem dX5_pure_14 : decode cX5_pure 14 = .ok (.iload_n 1, 1) := by decide +kernel
theorem dX5_pure_15 : decode cX5_pure 15 = .ok (.iaload, 1) := by decide +kernel
theorem dX5_pure_16 : decode cX5_pure 16 = .ok (.iconst 1, 1) := by decide +kernel
theorem dX5_pure_17 : decode cX5_pure 17 = .ok (.if_icmp .eq 13, 3) := by decide +kernel
theorem dX5_pure_20 : decode cX5_pure 20 = .ok (.aload_n 0, 1) := by decide +kernel
theorem dX5_pure_21 : decode cX5_pure 21 = .ok (.getfield 112, 3) := by decide +kernel
theorem dX5_pure_24 : decode cX5_pure 24 = .ok (.iload_n 1, 1) := by decide +kernel
theorem dX5_pure_25 : decode cX5_pure 25 = .ok (.iaload, 1) := by decide +kernel
theorem dX5_pure_26 : decode cX5_pure 26 = .ok (.iconst (-1), 1) := by decide +kernel
theorem dX5_pure_27 : decode cX5_pure 27 = .ok (.if_icmp .ne 47, 3) := by decide +kernel
theorem dX5_pure_30 : decode cX5_pure 30 = .ok (.aload_n 0, 1) := by decide +kernel
theorem dX5_pure_31 : decode cX5_pure 31 = .ok (.getfield 115, 3) := by decide +kernel
theorem dX5_pure_34 : decode cX5_pure 34 = .ok (.iload_n 1, 1) := by decide +kernel
theorem dX5_pure_35 : decode cX5_pure 35 = .ok (.iaload, 1) := by decide +kernel
theorem dX5_pure_36 : decode cX5_pure 36 = .ok (.iconst 0, 1) := by decide +kernel
theorem dX5_pure_37 : decode cX5_pure 37 = .ok (.sipush 255, 3) := by decide +kernel
theorem dX5_pure_40 : decode cX5_pure 40 = .ok (.invokestatic 152, 3) := by decide +kernel
theorem dX5_pure_43 : decode cX5_pure 43 = .ok (.ifCond .eq 31, 3) := by decide +kernel
theorem dX5_pure_46 : decode cX5_pure 46 = .ok (.aload_n 0, 1) := by decide +kernel
theorem dX5_pure_47 : decode cX5_pure 47 = .ok (.getfield 121, 3) := by decide +kernel
theorem dX5_pure_50 : decode cX5_pure 50 = .ok (.iload_n 1, 1) := by decide +kernel
theorem dX5_pure_51 : decode cX5_pure 51 = .ok (.iaload, 1) := by decide +kernel
theorem dX5_pure_52 : decode cX5_pure 52 = .ok (.aload_n 0, 1) := by decide +kernel
theorem dX5_pure_53 : decode cX5_pure 53 = .ok (.iconst 3, 1) := by decide +kernel
theorem dX5_pure_54 : decode cX5_pure 54 = .ok (.aload_n 0, 1) := by decide +kernel
theorem dX5_pure_55 : decode cX5_pure 55 = .ok (.getfield 115, 3) := by decide +kernel
theorem dX5_pure_58 : decode cX5_pure 58 = .ok (.iload_n 1, 1) := by decide +kernel
theorem dX5_pure_59 : decode cX5_pure 59 = .ok (.iaload, 1) := by decide +kernel
theorem dX5_pure_60 : decode cX5_pure 60 = .ok (.aload_n 0, 1) := by decide +kernel
theorem dX5_pure_61 : decode cX5_pure 61 = .ok (.getfield 118, 3) := by decide +kernel
theorem dX5_pure_64 : decode cX5_pure 64 = .ok (.iload_n 1, 1) := by decide +kernel
theorem dX5_pure_65 : decode cX5_pure 65 = .ok (.laload, 1) := by decide +kernel
theorem dX5_pure_66 : decode cX5_pure 66 = .ok (.invokevirtual 267, 3) := by decide +kernel
theorem dX5_pure_69 : decode cX5_pure 69 = .ok (.if_icmp .ne 5, 3) := by decide +kernel
theorem dX5_pure_72 : decode cX5_pure 72 = .ok (.iload_n 1, 1) := by decide +kernel
theorem dX5_pure_73 : decode cX5_pure 73 = .ok (.ireturn, 1) := by decide +kernel
theorem dX5_pure_74 : decode cX5_pure 74 = .ok (.iinc 1 1, 3) := by decide +kernel
theorem dX5_pure_77 : decode cX5_pure 77 = .ok (.goto (-75), 3) := by decide +kernel
theorem dX5_pure_80 : decode cX5_pure 80 = .ok (.iconst (-1), 1) := by decide +kernel
theorem dX5_pure_81 : decode cX5_pure 81 = .ok (.ireturn, 1) := by decide +kernel
theorem dX5_isEmpty_0 : decode cX5_isEmpty 0 = .ok (.iconst 0, 1) := by decide +kernel
theorem dX5_isEmpty_1 : decode cX5_isEmpty 1 = .ok (.istore_n 1, 1) := by decide +kernel
theorem dX5_isEmpty_2 : decode cX5_isEmpty 2 = .ok (.iload_n 1, 1) := by decide +kernel
theorem dX5_isEmpty_3 : decode cX5_isEmpty 3 = .ok (.aload_n 0, 1) := by decide +kernel
theorem dX5_isEmpty_4 : decode cX5_isEmpty 4 = .ok (.getfield 264, 3) := by decide +kernel
theorem dX5_isEmpty_7 : decode cX5_isEmpty 7 = .ok (.if_icmp .ge 49, 3) := by decide +kernel
theorem dX5_isEmpty_10 : decode cX5_isEmpty 10 = .ok (.aload_n 0, 1) := by decide +kernel
theorem dX5_isEmpty_11 : decode cX5_isEmpty 11 = .ok (.getfield 112, 3) := by decide +kernel
theorem dX5_isEmpty_14 : decode cX5_isEmpty 14 = .ok (.iload_n 1, 1) := by decide +kernel
theorem dX5_isEmpty_15 : decode cX5_isEmpty 15 = .ok (.iaload, 1) := by decide +kernel
theorem dX5_isEmpty_16 : decode cX5_isEmpty 16 = .ok (.ifCond .ne 32, 3) := by decide +kernel
theorem dX5_isEmpty_19 : decode cX5_isEmpty 19 = .ok (.aload_n 0, 1) := by decide +kernel
theorem dX5_isEmpty_20 : decode cX5_isEmpty 20 = .ok (.getfield 115, 3) := by decide +kernel
theorem dX5_isEmpty_23 : decode cX5_isEmpty 23 = .ok (.iload_n 1, 1) := by decide +kernel
theorem dX5_isEmpty_24 : decode cX5_isEmpty 24 = .ok (.iaload, 1) := by decide +kernel
theorem dX5_isEmpty_25 : decode cX5_isEmpty 25 = .ok (.ifCond .ne 23, 3) := by decide +kernel
theorem dX5_isEmpty_28 : decode cX5_isEmpty 28 = .ok (.aload_n 0, 1) := by decide +kernel
theorem dX5_isEmpty_29 : decode cX5_isEmpty 29 = .ok (.getfield 118, 3) := by decide +kernel
theorem dX5_isEmpty_32 : decode cX5_isEmpty 32 = .ok (.iload_n 1, 1) := by decide +kernel
theorem dX5_isEmpty_33 : decode cX5_isEmpty 33 = .ok (.laload, 1) := by decide +kernel
theorem dX5_isEmpty_34 : decode cX5_isEmpty 34 = .ok (.lconst 0, 1) := by decide +kernel
theorem dX5_isEmpty_35 : decode cX5_isEmpty 35 = .ok (.lcmp, 1) := by decide +kernel
theorem dX5_isEmpty_36 : decode cX5_isEmpty 36 = .ok (.ifCond .ne 12, 3) := by decide +kernel
theorem dX5_isEmpty_39 : decode cX5_isEmpty 39 = .ok (.aload_n 0, 1) := by decide +kernel
theorem dX5_isEmpty_40 : decode cX5_isEmpty 40 = .ok (.getfield 121, 3) := by decide +kernel
theorem dX5_isEmpty_43 : decode cX5_isEmpty 43 = .ok (.iload_n 1, 1) := by decide +kernel
theorem dX5_isEmpty_44 : decode cX5_isEmpty 44 = .ok (.iaload, 1) := by decide +kernel
theorem dX5_isEmpty_45 : decode cX5_isEmpty 45 = .ok (.ifCond .eq 5, 3) := by decide +kernel
theorem dX5_isEmpty_48 : decode cX5_isEmpty 48 = .ok (.iconst 0, 1) := by decide +kernel
theorem dX5_isEmpty_49 : decode cX5_isEmpty 49 = .ok (.ireturn, 1) := by decide +kernel
theorem dX5_isEmpty_50 : decode cX5_isEmpty 50 = .ok (.iinc 1 1, 3) := by decide +kernel
theorem dX5_isEmpty_53 : decode cX5_isEmpty 53 = .ok (.goto (-51), 3) := by decide +kernel
theorem dX5_isEmpty_56 : decode cX5_isEmpty 56 = .ok (.iconst 1, 1) := by decide +kernel
theorem dX5_isEmpty_57 : decode cX5_isEmpty 57 = .ok (.ireturn, 1) := by decide +kernel
set_option maxRecDepth 20000 in
theorem ggX5_table_X5_within : GoodIn wsX5_table wsX5_within := goodIn_r _ [17] rfl (by decide +kernel)
set_option maxRecDepth 20000 in
theorem gX5_table_X5_within : GoodIn wsX5_table (va_wsS RX5 152 yX5_within wsX5_within) := goodIn_app (goodIn_of _ (by decide +kernel)) ggX5_table_X5_within
set_option maxRecDepth 20000 in
theorem ggX5_table_X5_raise : GoodIn wsX5_table wsX5_raise := goodIn_r _ [21, 1, 62, 63, 64, 65, 66, 67, 68, 69, 70, 71, 72, 73, 74, 75, 76, 77, 78, 79, 80, 81, 82, 83, 84, 85, 86, 87, 88, 89, 90, 91, 92, 93, 94, 95] rfl (by decide +kernel)
set_option maxRecDepth 20000 in
theorem gX5_table_X5_raise : GoodIn wsX5_table (wsV RX5 223 RX5 yX5_raise wsX5_raise) := goodIn_app (goodIn_of _ (by decide +kernel)) ggX5_table_X5_raise
set_option maxRecDepth 20000 in
theorem ggX5_table_X5_counts : GoodIn wsX5_table wsX5_counts := goodIn_r _ [25, 26, 62, 63, 64, 65, 66, 67, 68, 69, 70, 71, 72, 73, 74, 75, 76, 77, 78, 79, 80, 81, 82, 83, 84, 85, 86, 87, 88, 89, 90, 91, 92, 93, 94, 95] rfl (by decide +kernel)
set_option maxRecDepth 20000 in
theorem gX5_table_X5_counts : GoodIn wsX5_table (wsV RX5 189 RX5 yX5_counts wsX5_counts) := goodIn_app (goodIn_of _ (by decide +kernel)) ggX5_table_X5_counts
set_option maxRecDepth 20000 in
theorem ggX5_table_X5_mix : GoodIn wsX5_table wsX5_mix := goodIn_r _ [30, 3, 31, 5, 6, 7, 8, 32, 33, 34, 16, 35, 36, 37, 38, 39, 40, 41, 42, 43, 44, 45, 46, 47, 48, 49, 50, 51, 52, 53, 62, 63, 64, 65, 66, 67, 68, 69, 70, 71, 72, 73, 74, 75, 76, 77, 78, 79, 80, 81, 82, 83, 84, 85, 86, 87, 88, 89, 90, 91, 92, 93, 94, 95] rfl (by decide +kernel)
set_option maxRecDepth 20000 in
theorem gX5_table_X5_mix : GoodIn wsX5_table (wsV RX5 279 RX5 yX5_mix wsX5_mix) := goodIn_app (goodIn_of _ (by decide +kernel)) ggX5_table_X5_mix
set_option maxRecDepth 20000 in
theorem ggX5_table_X5_pure : GoodIn wsX5_table wsX5_pure := goodIn_r _ [57, 3, 5, 6, 8, 7, 14, 15, 16, 17, 32, 33, 34, 35, 36, 37, 38, 39, 40, 41, 42, 43, 44, 45, 46, 47, 48, 49, 50, 51, 52, 53, 62, 63, 64, 65, 66, 67, 68, 69, 70, 71, 72, 73, 74, 75, 76, 77, 78, 79, 80, 81, 82, 83, 84, 85, 86, 87, 88, 89, 90, 91, 92, 93, 94, 95] rfl (by decide +kernel)
set_option maxRecDepth 20000 in
theorem gX5_table_X5_pure : GoodIn wsX5_table (wsV RX5 283 RX5 yX5_pure wsX5_pure) := goodIn_app (goodIn_of _ (by decide +kernel)) ggX5_table_X5_pure
set_option maxRecDepth 20000 in
theorem ggX5_table_X5_isEmpty : GoodIn wsX5_table wsX5_isEmpty := goodIn_r _ [61, 3, 5, 6, 7, 8, 62, 63, 64, 65, 66, 67, 68, 69, 70, 71, 72, 73, 74, 75, 76, 77, 78, 79, 80, 81, 82, 83, 84, 85, 86, 87, 88, 89, 90, 91, 92, 93, 94, 95] rfl (by decide +kernel)
set_option maxRecDepth 20000 in
theorem gX5_table_X5_isEmpty : GoodIn wsX5_table (wsV RX5 286 RX5 yX5_isEmpty wsX5_isEmpty) := goodIn_app (goodIn_of _ (by decide +kernel)) ggX5_table_X5_isEmpty
theorem dX5_table_0 : decode cX5_table 0 = .ok (.iload_n 1, 1) := by decide +kernel
theorem dX5_table_1 : decode cX5_table 1 = .ok (.bipush 6, 2) := by decide +kernel
theorem dX5_table_3 : decode cX5_table 3 = .ok (.bipush 63, 2) := by decide +kernel
theorem dX5_table_5 : decode cX5_table 5 = .ok (.invokestatic 152, 3) := by decide +kernel
theorem dX5_table_8 : decode cX5_table 8 = .ok (.ifCond .eq 9, 3) := by decide +kernel
theorem dX5_table_11 : decode cX5_table 11 = .ok (.iload_n 1, 1) := by decide +kernel
theorem dX5_table_12 : decode cX5_table 12 = .ok (.iconst 3, 1) := by decide +kernel
theorem dX5_table_13 : decode cX5_table 13 = .ok (.irem, 1) := by decide +kernel
theorem dX5_table_14 : decode cX5_table 14 = .ok (.ifCond .eq 8, 3) := by decide +kernel
theorem dX5_table_17 : decode cX5_table 17 = .ok (.aload_n 0, 1) := by decide +kernel
theorem dX5_table_18 : decode cX5_table 18 = .ok (.invokevirtual 223, 3) := by decide +kernel
theorem dX5_table_21 : decode cX5_table 21 = .ok (.ireturn, 1) := by decide +kernel
theorem dX5_table_22 : decode cX5_table 22 = .ok (.aload_n 0, 1) := by decide +kernel
theorem dX5_table_23 : decode cX5_table 23 = .ok (.iconst 0, 1) := by decide +kernel
theorem dX5_table_24 : decode cX5_table 24 = .ok (.putfield 148, 3) := by decide +kernel
theorem dX5_table_27 : decode cX5_table 27 = .ok (.aload_n 0, 1) := by decide +kernel
theorem dX5_table_28 : decode cX5_table 28 = .ok (.iconst 1, 1) := by decide +kernel
theorem dX5_table_29 : decode cX5_table 29 = .ok (.putfield 273, 3) := by decide +kernel
theorem dX5_table_32 : decode cX5_table 32 = .ok (.aload_n 0, 1) := by decide +kernel
theorem dX5_table_33 : decode cX5_table 33 = .ok (.iload_n 1, 1) := by decide +kernel
theorem dX5_table_34 : decode cX5_table 34 = .ok (.putfield 264, 3) := by decide +kernel
theorem dX5_table_37 : decode cX5_table 37 = .ok (.aload_n 0, 1) := by decide +kernel
theorem dX5_table_38 : decode cX5_table 38 = .ok (.iconst 0, 1) := by decide +kernel
theorem dX5_table_39 : decode cX5_table 39 = .ok (.putfield 276, 3) := by decide +kernel
theorem dX5_table_42 : decode cX5_table 42 = .ok (.iconst 0, 1) := by decide +kernel
theorem dX5_table_43 : decode cX5_table 43 = .ok (.istore_n 2, 1) := by decide +kernel
theorem dX5_table_44 : decode cX5_table 44 = .ok (.iload_n 2, 1) := by decide +kernel
theorem dX5_table_45 : decode cX5_table 45 = .ok (.bipush 63, 2) := by decide +kernel
theorem dX5_table_47 : decode cX5_table 47 = .ok (.if_icmp .ge 37, 3) := by decide +kernel
theorem dX5_table_50 : decode cX5_table 50 = .ok (.aload_n 0, 1) := by decide +kernel
theorem dX5_table_51 : decode cX5_table 51 = .ok (.getfield 112, 3) := by decide +kernel
theorem dX5_table_54 : decode cX5_table 54 = .ok (.iload_n 2, 1) := by decide +kernel
theorem dX5_table_55 : decode cX5_table 55 = .ok (.iconst 0, 1) := by decide +kernel
theorem dX5_table_56 : decode cX5_table 56 = .ok (.iastore, 1) := by decide +kernel
theorem dX5_table_57 : decode cX5_table 57 = .ok (.aload_n 0, 1) := by decide +kernel
theorem dX5_table_58 : decode cX5_table 58 = .ok (.getfield 115, 3) := by decide +kernel
theorem dX5_table_61 : decode cX5_table 61 = .ok (.iload_n 2, 1) := by decide +kernel
theorem dX5_table_62 : decode cX5_table 62 = .ok (.iconst 0, 1) := by decide +kernel
theorem dX5_table_63 : decode cX5_table 63 = .ok (.iastore, 1) := by decide +kernel
theorem dX5_table_64 : decode cX5_table 64 = .ok (.aload_n 0, 1) := by decide +kernel
theorem dX5_table_65 : decode cX5_table 65 = .ok (.getfield 118, 3) := by decide +kernel
theorem dX5_table_68 : decode cX5_table 68 = .ok (.iload_n 2, 1) := by decide +kernel
theorem dX5_table_69 : decode cX5_table 69 = .ok (.lconst 0, 1) := by decide +kernel
theorem dX5_table_70 : decode cX5_table 70 = .ok (.lastore, 1) := by decide +kernel
theorem dX5_table_71 : decode cX5_table 71 = .ok (.aload_n 0, 1) := by decide +kernel
theorem dX5_table_72 : decode cX5_table 72 = .ok (.getfield 121, 3) := by decide +kernel
theorem dX5_table_75 : decode cX5_table 75 = .ok (.iload_n 2, 1) := by decide +kernel
theorem dX5_table_76 : decode cX5_table 76 = .ok (.iconst 0, 1) := by decide +kernel
theorem dX5_table_77 : decode cX5_table 77 = .ok (.iastore, 1) := by decide +kernel
theorem dX5_table_78 : decode cX5_table 78 = .ok (.iinc 2 1, 3) := by decide +kernel
theorem dX5_table_81 : decode cX5_table 81 = .ok (.goto (-37), 3) := by decide +kernel
theorem dX5_table_84 : decode cX5_table 84 = .ok (.iconst 0, 1) := by decide +kernel
theorem dX5_table_85 : decode cX5_table 85 = .ok (.istore_n 2, 1) := by decide +kernel
theorem dX5_table_86 : decode cX5_table 86 = .ok (.iload_n 2, 1) := by decide +kernel
theorem dX5_table_87 : decode cX5_table 87 = .ok (.sipush 512, 3) := by decide +kernel
theorem dX5_table_90 : decode cX5_table 90 = .ok (.if_icmp .ge 60, 3) := by decide +kernel
theorem dX5_table_93 : decode cX5_table 93 = .ok (.aload_n 0, 1) := by decide +kernel
theorem dX5_table_94 : decode cX5_table 94 = .ok (.getfield 13, 3) := by decide +kernel
theorem dX5_table_97 : decode cX5_table 97 = .ok (.iload_n 2, 1) := by decide +kernel
theorem dX5_table_98 : decode cX5_table 98 = .ok (.baload, 1) := by decide +kernel
theorem dX5_table_99 : decode cX5_table 99 = .ok (.ifCond .eq 45, 3) := by decide +kernel
theorem dX5_table_102 : decode cX5_table 102 = .ok (.aload_n 0, 1) := by decide +kernel
theorem dX5_table_103 : decode cX5_table 103 = .ok (.iload_n 2, 1) := by decide +kernel
theorem dX5_table_104 : decode cX5_table 104 = .ok (.sipush 256, 3) := by decide +kernel
theorem dX5_table_107 : decode cX5_table 107 = .ok (.irem, 1) := by decide +kernel
theorem dX5_table_108 : decode cX5_table 108 = .ok (.bipush 64, 2) := by decide +kernel
theorem dX5_table_110 : decode cX5_table 110 = .ok (.idiv, 1) := by decide +kernel
theorem dX5_table_111 : decode cX5_table 111 = .ok (.invokevirtual 189, 3) := by decide +kernel
theorem dX5_table_114 : decode cX5_table 114 = .ok (.ifCond .eq 30, 3) := by decide +kernel
theorem dX5_table_117 : decode cX5_table 117 = .ok (.aload_n 0, 1) := by decide +kernel
theorem dX5_table_118 : decode cX5_table 118 = .ok (.iload_n 2, 1) := by decide +kernel
theorem dX5_table_119 : decode cX5_table 119 = .ok (.sipush 256, 3) := by decide +kernel
theorem dX5_table_122 : decode cX5_table 122 = .ok (.irem, 1) := by decide +kernel
theorem dX5_table_123 : decode cX5_table 123 = .ok (.aload_n 0, 1) := by decide +kernel
theorem dX5_table_124 : decode cX5_table 124 = .ok (.getfield 16, 3) := by decide +kernel
theorem dX5_table_127 : decode cX5_table 127 = .ok (.iload_n 2, 1) := by decide +kernel
theorem dX5_table_128 : decode cX5_table 128 = .ok (.laload, 1) := by decide +kernel
theorem dX5_table_129 : decode cX5_table 129 = .ok (.iload_n 2, 1) := by decide +kernel
theorem dX5_table_130 : decode cX5_table 130 = .ok (.sipush 256, 3) := by decide +kernel
theorem dX5_table_133 : decode cX5_table 133 = .ok (.if_icmp .ge 7, 3) := by decide +kernel
theorem dX5_table_136 : decode cX5_table 136 = .ok (.iconst 1, 1) := by decide +kernel
theorem dX5_table_137 : decode cX5_table 137 = .ok (.goto 4, 3) := by decide +kernel
theorem dX5_table_140 : decode cX5_table 140 = .ok (.iconst (-1), 1) := by decide +kernel
theorem dX5_table_141 : decode cX5_table 141 = .ok (.invokevirtual 279, 3) := by decide +kernel
theorem dX5_table_144 : decode cX5_table 144 = .ok (.iinc 2 1, 3) := by decide +kernel
theorem dX5_table_147 : decode cX5_table 147 = .ok (.goto (-61), 3) := by decide +kernel
theorem dX5_table_150 : decode cX5_table 150 = .ok (.aload_n 0, 1) := by decide +kernel
theorem dX5_table_151 : decode cX5_table 151 = .ok (.invokevirtual 283, 3) := by decide +kernel
theorem dX5_table_154 : decode cX5_table 154 = .ok (.istore_n 2, 1) := by decide +kernel
theorem dX5_table_155 : decode cX5_table 155 = .ok (.iload_n 2, 1) := by decide +kernel
theorem dX5_table_156 : decode cX5_table 156 = .ok (.iconst (-1), 1) := by decide +kernel
theorem dX5_table_157 : decode cX5_table 157 = .ok (.if_icmp .eq 108, 3) := by decide +kernel
theorem dX5_table_160 : decode cX5_table 160 = .ok (.aload_n 0, 1) := by decide +kernel
theorem dX5_table_161 : decode cX5_table 161 = .ok (.getfield 276, 3) := by decide +kernel
theorem dX5_table_164 : decode cX5_table 164 = .ok (.sipush 256, 3) := by decide +kernel
theorem dX5_table_167 : decode cX5_table 167 = .ok (.if_icmp .ge 98, 3) := by decide +kernel
theorem dX5_table_170 : decode cX5_table 170 = .ok (.aload_n 0, 1) := by decide +kernel
theorem dX5_table_171 : decode cX5_table 171 = .ok (.getfield 124, 3) := by decide +kernel
theorem dX5_table_174 : decode cX5_table 174 = .ok (.aload_n 0, 1) := by decide +kernel
theorem dX5_table_175 : decode cX5_table 175 = .ok (.getfield 276, 3) := by decide +kernel
theorem dX5_table_178 : decode cX5_table 178 = .ok (.aload_n 0, 1) := by decide +kernel
theorem dX5_table_179 : decode cX5_table 179 = .ok (.getfield 112, 3) := by decide +kernel
theorem dX5_table_182 : decode cX5_table 182 = .ok (.iload_n 2, 1) := by decide +kernel
theorem dX5_table_183 : decode cX5_table 183 = .ok (.iaload, 1) := by decide +kernel
theorem dX5_table_184 : decode cX5_table 184 = .ok (.iconst 1, 1) := by decide +kernel
theorem dX5_table_185 : decode cX5_table 185 = .ok (.if_icmp .ne 7, 3) := by decide +kernel
theorem dX5_table_188 : decode cX5_table 188 = .ok (.iconst 0, 1) := by decide +kernel
theorem dX5_table_189 : decode cX5_table 189 = .ok (.goto 4, 3) := by decide +kernel
theorem dX5_table_192 : decode cX5_table 192 = .ok (.iconst 1, 1) := by decide +kernel
theorem dX5_table_193 : decode cX5_table 193 = .ok (.iastore, 1) := by decide +kernel
theorem dX5_table_194 : decode cX5_table 194 = .ok (.aload_n 0, 1) := by decide +kernel
theorem dX5_table_195 : decode cX5_table 195 = .ok (.getfield 127, 3) := by decide +kernel
theorem dX5_table_198 : decode cX5_table 198 = .ok (.aload_n 0, 1) := by decide +kernel
theorem dX5_table_199 : decode cX5_table 199 = .ok (.getfield 276, 3) := by decide +kernel
theorem dX5_table_202 : decode cX5_table 202 = .ok (.aload_n 0, 1) := by decide +kernel
theorem dX5_table_203 : decode cX5_table 203 = .ok (.getfield 115, 3) := by decide +kernel
theorem dX5_table_206 : decode cX5_table 206 = .ok (.iload_n 2, 1) := by decide +kernel
theorem dX5_table_207 : decode cX5_table 207 = .ok (.iaload, 1) := by decide +kernel
theorem dX5_table_208 : decode cX5_table 208 = .ok (.iastore, 1) := by decide +kernel
theorem dX5_table_209 : decode cX5_table 209 = .ok (.aload_n 0, 1) := by decide +kernel
theorem dX5_table_210 : decode cX5_table 210 = .ok (.getfield 130, 3) := by decide +kernel
theorem dX5_table_213 : decode cX5_table 213 = .ok (.aload_n 0, 1) := by decide +kernel
theorem dX5_table_214 : decode cX5_table 214 = .ok (.getfield 276, 3) := by decide +kernel
theorem dX5_table_217 : decode cX5_table 217 = .ok (.aload_n 0, 1) := by decide +kernel
theorem dX5_table_218 : decode cX5_table 218 = .ok (.getfield 118, 3) := by decide +kernel
theorem dX5_table_221 : decode cX5_table 221 = .ok (.iload_n 2, 1) := by decide +kernel
theorem dX5_table_222 : decode cX5_table 222 = .ok (.laload, 1) := by decide +kernel
theorem dX5_table_223 : decode cX5_table 223 = .ok (.lastore, 1) := by decide +kernel
theorem dX5_table_224 : decode cX5_table 224 = .ok (.aload_n 0, 1) := by decide +kernel
theorem dX5_table_225 : decode cX5_table 225 = .ok (.dup, 1) := by decide +kernel
theorem dX5_table_226 : decode cX5_table 226 = .ok (.getfield 276, 3) := by decide +kernel
theorem dX5_table_229 : decode cX5_table 229 = .ok (.iconst 1, 1) := by decide +kernel
theorem dX5_table_230 : decode cX5_table 230 = .ok (.iadd, 1) := by decide +kernel
theorem dX5_table_231 : decode cX5_table 231 = .ok (.putfield 276, 3) := by decide +kernel
theorem dX5_table_234 : decode cX5_table 234 = .ok (.aload_n 0, 1) := by decide +kernel
theorem dX5_table_235 : decode cX5_table 235 = .ok (.aload_n 0, 1) := by decide +kernel
theorem dX5_table_236 : decode cX5_table 236 = .ok (.getfield 115, 3) := by decide +kernel
theorem dX5_table_239 : decode cX5_table 239 = .ok (.iload_n 2, 1) := by decide +kernel
theorem dX5_table_240 : decode cX5_table 240 = .ok (.iaload, 1) := by decide +kernel
theorem dX5_table_241 : decode cX5_table 241 = .ok (.aload_n 0, 1) := by decide +kernel
theorem dX5_table_242 : decode cX5_table 242 = .ok (.getfield 118, 3) := by decide +kernel
theorem dX5_table_245 : decode cX5_table 245 = .ok (.iload_n 2, 1) := by decide +kernel
theorem dX5_table_246 : decode cX5_table 246 = .ok (.laload, 1) := by decide +kernel
theorem dX5_table_247 : decode cX5_table 247 = .ok (.aload_n 0, 1) := by decide +kernel
theorem dX5_table_248 : decode cX5_table 248 = .ok (.getfield 112, 3) := by decide +kernel
theorem dX5_table_251 : decode cX5_table 251 = .ok (.iload_n 2, 1) := by decide +kernel
theorem dX5_table_252 : decode cX5_table 252 = .ok (.iaload, 1) := by decide +kernel
theorem dX5_table_253 : decode cX5_table 253 = .ok (.ineg, 1) := by decide +kernel
theorem dX5_table_254 : decode cX5_table 254 = .ok (.invokevirtual 279, 3) := by decide +kernel
theorem dX5_table_257 : decode cX5_table 257 = .ok (.aload_n 0, 1) := by decide +kernel
theorem dX5_table_258 : decode cX5_table 258 = .ok (.invokevirtual 283, 3) := by decide +kernel
theorem dX5_table_261 : decode cX5_table 261 = .ok (.istore_n 2, 1) := by decide +kernel
theorem dX5_table_262 : decode cX5_table 262 = .ok (.goto (-107), 3) := by decide +kernel
theorem dX5_table_265 : decode cX5_table 265 = .ok (.aload_n 0, 1) := by decide +kernel
theorem dX5_table_266 : decode cX5_table 266 = .ok (.invokevirtual 286, 3) := by decide +kernel
theorem dX5_table_269 : decode cX5_table 269 = .ok (.ifCond .eq 10, 3) := by decide +kernel
theorem dX5_table_272 : decode cX5_table 272 = .ok (.aload_n 0, 1) := by decide +kernel
theorem dX5_table_273 : decode cX5_table 273 = .ok (.getfield 276, 3) := by decide +kernel
theorem dX5_table_276 : decode cX5_table 276 = .ok (.goto 9, 3) := by decide +kernel
theorem dX5_table_279 : decode cX5_table 279 = .ok (.iconst (-1), 1) := by decide +kernel
theorem dX5_table_280 : decode cX5_table 280 = .ok (.aload_n 0, 1) := by decide +kernel
theorem dX5_table_281 : decode cX5_table 281 = .ok (.getfield 276, 3) := by decide +kernel
theorem dX5_table_284 : decode cX5_table 284 = .ok (.isub, 1) := by decide +kernel
theorem dX5_table_285 : decode cX5_table 285 = .ok (.ireturn, 1) := by decide +kernel
set_option maxRecDepth 20000 in
theorem ggX5_found_X5_within : GoodIn wsX5_found wsX5_within := goodIn_r _ [9] rfl (by decide +kernel)
set_option maxRecDepth 20000 in
theorem gX5_found_X5_within : GoodIn wsX5_found (va_wsS RX5 152 yX5_within wsX5_within) := goodIn_app (goodIn_of _ (by decide +kernel)) ggX5_found_X5_within
theorem dX5_found_0 : decode cX5_found 0 = .ok (.aload_n 0, 1) := by decide +kernel
theorem dX5_found_1 : decode cX5_found 1 = .ok (.iconst 0, 1) := by decide +kernel
theorem dX5_found_2 : decode cX5_found 2 = .ok (.putfield 148, 3) := by decide +kernel
theorem dX5_found_5 : decode cX5_found 5 = .ok (.aload_n 0, 1) := by decide +kernel
theorem dX5_found_6 : decode cX5_found 6 = .ok (.getfield 273, 3) := by decide +kernel
theorem dX5_found_9 : decode cX5_found 9 = .ok (.ifCond .eq 17, 3) := by decide +kernel
theorem dX5_found_12 : decode cX5_found 12 = .ok (.iload_n 1, 1) := by decide +kernel
theorem dX5_found_13 : decode cX5_found 13 = .ok (.iconst 0, 1) := by decide +kernel
theorem dX5_found_14 : decode cX5_found 14 = .ok (.aload_n 0, 1) := by decide +kernel
theorem dX5_found_15 : decode cX5_found 15 = .ok (.getfield 276, 3) := by decide +kernel
theorem dX5_found_18 : decode cX5_found 18 = .ok (.iconst 1, 1) := by decide +kernel
theorem dX5_found_19 : decode cX5_found 19 = .ok (.isub, 1) := by decide +kernel
theorem dX5_found_20 : decode cX5_found 20 = .ok (.invokestatic 152, 3) := by decide +kernel
theorem dX5_found_23 : decode cX5_found 23 = .ok (.ifCond .ne 5, 3) := by decide +kernel
theorem dX5_found_26 : decode cX5_found 26 = .ok (.iconst (-1), 1) := by decide +kernel
theorem dX5_found_27 : decode cX5_found 27 = .ok (.ireturn, 1) := by decide +kernel
theorem dX5_found_28 : decode cX5_found 28 = .ok (.iload_n 2, 1) := by decide +kernel
theorem dX5_found_29 : decode cX5_found 29 = .ok (.ifCond .ne 12, 3) := by decide +kernel
theorem dX5_found_32 : decode cX5_found 32 = .ok (.aload_n 0, 1) := by decide +kernel
theorem dX5_found_33 : decode cX5_found 33 = .ok (.getfield 124, 3) := by decide +kernel
theorem dX5_found_36 : decode cX5_found 36 = .ok (.iload_n 1, 1) := by decide +kernel
theorem dX5_found_37 : decode cX5_found 37 = .ok (.iaload, 1) := by decide +kernel
theorem dX5_found_38 : decode cX5_found 38 = .ok (.goto 40, 3) := by decide +kernel
theorem dX5_found_41 : decode cX5_found 41 = .ok (.iload_n 2, 1) := by decide +kernel
theorem dX5_found_42 : decode cX5_found 42 = .ok (.iconst 1, 1) := by decide +kernel
theorem dX5_found_43 : decode cX5_found 43 = .ok (.if_icmp .ne 15, 3) := by decide +kernel
theorem dX5_found_46 : decode cX5_found 46 = .ok (.aload_n 0, 1) := by decide +kernel
theorem dX5_found_47 : decode cX5_found 47 = .ok (.getfield 127, 3) := by decide +kernel
theorem dX5_found_50 : decode cX5_found 50 = .ok (.iload_n 1, 1) := by decide +kernel
theorem dX5_found_51 : decode cX5_found 51 = .ok (.iaload, 1) := by decide +kernel
theorem dX5_found_52 : decode cX5_found 52 = .ok (.bipush 64, 2) := by decide +kernel
theorem dX5_found_54 : decode cX5_found 54 = .ok (.idiv, 1) := by decide +kernel
theorem dX5_found_55 : decode cX5_found 55 = .ok (.goto 23, 3) := by decide +kernel
theorem dX5_found_58 : decode cX5_found 58 = .ok (.iload_n 2, 1) := by decide +kernel
theorem dX5_found_59 : decode cX5_found 59 = .ok (.iconst 2, 1) := by decide +kernel
theorem dX5_found_60 : decode cX5_found 60 = .ok (.if_icmp .ne 17, 3) := by decide +kernel
theorem dX5_found_63 : decode cX5_found 63 = .ok (.aload_n 0, 1) := by decide +kernel
theorem dX5_found_64 : decode cX5_found 64 = .ok (.getfield 127, 3) := by decide +kernel
theorem dX5_found_67 : decode cX5_found 67 = .ok (.iload_n 1, 1) := by decide +kernel
theorem dX5_found_68 : decode cX5_found 68 = .ok (.iaload, 1) := by decide +kernel
theorem dX5_found_69 : decode cX5_found 69 = .ok (.bipush 64, 2) := by decide +kernel
theorem dX5_found_71 : decode cX5_found 71 = .ok (.irem, 1) := by decide +kernel
theorem dX5_found_72 : decode cX5_found 72 = .ok (.iconst 1, 1) := by decide +kernel
theorem dX5_found_73 : decode cX5_found 73 = .ok (.iadd, 1) := by decide +kernel
theorem dX5_found_74 : decode cX5_found 74 = .ok (.goto 4, 3) := by decide +kernel
theorem dX5_found_77 : decode cX5_found 77 = .ok (.iconst (-1), 1) := by decide +kernel
theorem dX5_found_78 : decode cX5_found 78 = .ok (.ireturn, 1) := by decide +kernel
set_option maxRecDepth 20000 in
theorem ggX5_foundValue_X5_within : GoodIn wsX5_foundValue wsX5_within := goodIn_r _ [8] rfl (by decide +kernel)
set_option maxRecDepth 20000 in
theorem gX5_foundValue_X5_within : GoodIn wsX5_foundValue (va_wsS RX5 152 yX5_within wsX5_within) := goodIn_app (goodIn_of _ (by decide +kernel)) ggX5_foundValue_X5_within
theorem dX5_foundValue_0 : decode cX5_foundValue 0 = .ok (.aload_n 0, 1) := by decide +kernel
theorem dX5_foundValue_1 : decode cX5_foundValue 1 = .ok (.aload_n 0, 1) := by decide +kernel
theorem dX5_foundValue_2 : decode cX5_foundValue 2 = .ok (.getfield 273, 3) := by decide +kernel
theorem dX5_foundValue_5 : decode cX5_foundValue 5 = .ok (.ifCond .eq 21, 3) := by decide +kernel
theorem dX5_foundValue_8 : decode cX5_foundValue 8 = .ok (.iload_n 1, 1) := by decide +kernel
theorem dX5_foundValue_9 : decode cX5_foundValue 9 = .ok (.iconst 0, 1) := by decide +kernel
theorem dX5_foundValue_10 : decode cX5_foundValue 10 = .ok (.aload_n 0, 1) := by decide +kernel
theorem dX5_foundValue_11 : decode cX5_foundValue 11 = .ok (.getfield 276, 3) := by decide +kernel
theorem dX5_foundValue_14 : decode cX5_foundValue 14 = .ok (.iconst 1, 1) := by decide +kernel
theorem dX5_foundValue_15 : decode cX5_foundValue 15 = .ok (.isub, 1) := by decide +kernel
theorem dX5_foundValue_16 : decode cX5_foundValue 16 = .ok (.invokestatic 152, 3) := by decide +kernel
theorem dX5_foundValue_19 : decode cX5_foundValue 19 = .ok (.ifCond .eq 7, 3) := by decide +kernel
theorem dX5_foundValue_22 : decode cX5_foundValue 22 = .ok (.iconst 0, 1) := by decide +kernel
theorem dX5_foundValue_23 : decode cX5_foundValue 23 = .ok (.goto 4, 3) := by decide +kernel
theorem dX5_foundValue_26 : decode cX5_foundValue 26 = .ok (.iconst 1, 1) := by decide +kernel
theorem dX5_foundValue_27 : decode cX5_foundValue 27 = .ok (.putfield 148, 3) := by decide +kernel
theorem dX5_foundValue_30 : decode cX5_foundValue 30 = .ok (.aload_n 0, 1) := by decide +kernel
theorem dX5_foundValue_31 : decode cX5_foundValue 31 = .ok (.getfield 148, 3) := by decide +kernel
theorem dX5_foundValue_34 : decode cX5_foundValue 34 = .ok (.ifCond .ne 12, 3) := by decide +kernel
theorem dX5_foundValue_37 : decode cX5_foundValue 37 = .ok (.aload_n 0, 1) := by decide +kernel
theorem dX5_foundValue_38 : decode cX5_foundValue 38 = .ok (.getfield 130, 3) := by decide +kernel
theorem dX5_foundValue_41 : decode cX5_foundValue 41 = .ok (.iload_n 1, 1) := by decide +kernel
theorem dX5_foundValue_42 : decode cX5_foundValue 42 = .ok (.laload, 1) := by decide +kernel
theorem dX5_foundValue_43 : decode cX5_foundValue 43 = .ok (.goto 4, 3) := by decide +kernel
theorem dX5_foundValue_46 : decode cX5_foundValue 46 = .ok (.lconst 0, 1) := by decide +kernel
theorem dX5_foundValue_47 : decode cX5_foundValue 47 = .ok (.lreturn, 1) := by decide +kernel
set_option maxRecDepth 20000 in
theorem ggX5_isRange_X5_within : GoodIn wsX5_isRange wsX5_within := goodIn_r _ [4] rfl (by decide +kernel)
set_option maxRecDepth 20000 in
theorem gX5_isRange_X5_within : GoodIn wsX5_isRange (va_wsS RX5 152 yX5_within wsX5_within) := goodIn_app (goodIn_of _ (by decide +kernel)) ggX5_isRange_X5_within
theorem dX5_isRange_0 : decode cX5_isRange 0 = .ok (.iload_n 0, 1) := by decide +kernel
theorem dX5_isRange_1 : decode cX5_isRange 1 = .ok (.iconst 0, 1) := by decide +kernel
theorem dX5_isRange_2 : decode cX5_isRange 2 = .ok (.iconst 1, 1) := by decide +kernel
theorem dX5_isRange_3 : decode cX5_isRange 3 = .ok (.invokestatic 152, 3) := by decide +kernel
theorem dX5_isRange_6 : decode cX5_isRange 6 = .ok (.ifCond .eq 17, 3) := by decide +kernel
theorem dX5_isRange_9 : decode cX5_isRange 9 = .ok (.iload_n 1, 1) := by decide +kernel
theorem dX5_isRange_10 : decode cX5_isRange 10 = .ok (.iconst 1, 1) := by decide +kernel
theorem dX5_isRange_11 : decode cX5_isRange 11 = .ok (.bipush 63, 2) := by decide +kernel
theorem dX5_isRange_13 : decode cX5_isRange 13 = .ok (.invokestatic 152, 3) := by decide +kernel
theorem dX5_isRange_16 : decode cX5_isRange 16 = .ok (.ifCond .eq 7, 3) := by decide +kernel
theorem dX5_isRange_19 : decode cX5_isRange 19 = .ok (.iconst 1, 1) := by decide +kernel
theorem dX5_isRange_20 : decode cX5_isRange 20 = .ok (.goto 4, 3) := by decide +kernel
theorem dX5_isRange_23 : decode cX5_isRange 23 = .ok (.iconst 0, 1) := by decide +kernel
theorem dX5_isRange_24 : decode cX5_isRange 24 = .ok (.ireturn, 1) := by decide +kernel
set_option maxRecDepth 20000 in
theorem ggX5_digest_X5_isRange : GoodIn wsX5_digest wsX5_isRange := goodIn_r _ [6, 7, 8, 5, 9] rfl (by decide +kernel)
set_option maxRecDepth 20000 in
theorem gX5_digest_X5_isRange : GoodIn wsX5_digest (va_wsS RX5 290 yX5_isRange wsX5_isRange) := goodIn_app (goodIn_of _ (by decide +kernel)) ggX5_digest_X5_isRange
set_option maxRecDepth 20000 in
theorem ggX5_digest_X5_within : GoodIn wsX5_digest wsX5_within := goodIn_r _ [9] rfl (by decide +kernel)
set_option maxRecDepth 20000 in
theorem gX5_digest_X5_within : GoodIn wsX5_digest (va_wsS RX5 152 yX5_within wsX5_within) := goodIn_app (goodIn_of _ (by decide +kernel)) ggX5_digest_X5_within
set_option maxRecDepth 20000 in
theorem ggX5_digest_X5_raise : GoodIn wsX5_digest wsX5_raise := goodIn_r _ [13, 1, 88, 89, 90, 91, 92, 93, 94, 95, 96, 97, 98, 99, 100, 101, 102, 103, 104, 105, 106, 107, 108, 109, 110, 111, 112, 113, 114, 115, 116, 117, 118, 119, 120, 121] rfl (by decide +kernel)
set_option maxRecDepth 20000 in
theorem gX5_digest_X5_raise : GoodIn wsX5_digest (wsV RX5 223 RX5 yX5_raise wsX5_raise) := goodIn_app (goodIn_of _ (by decide +kernel)) ggX5_digest_X5_raise
set_option maxRecDepth 20000 in
theorem ggX5_digest_X5_refresh : GoodIn wsX5_digest wsX5_refresh := goodIn_r _ [17, 18, 19, 20, 21, 5, 22, 23, 2, 24, 25, 26, 27, 28, 29, 30, 31, 32, 33, 34, 35, 36, 37, 38, 39, 40, 41, 42, 43, 44, 45, 46, 47, 48, 49, 50, 51, 52, 53, 54, 55, 56, 57, 58, 59, 60, 61, 62, 63, 64, 65, 66, 67, 68, 69, 70, 71, 72, 73, 74, 75, 76, 77, 78, 79, 80, 81, 82, 83, 84, 85, 86, 87, 88, 89, 90, 91, 92, 93, 94, 95, 96, 97, 98, 99, 100, 101, 102, 103, 104, 105, 106, 107, 108, 109, 110, 111, 112, 113, 114, 115, 116, 117, 118, 119, 120, 121] rfl (by decide +kernel)
set_option maxRecDepth 20000 in
theorem gX5_digest_X5_refresh : GoodIn wsX5_digest (wsV RX5 236 RX5 yX5_refresh wsX5_refresh) := goodIn_app (goodIn_of _ (by decide +kernel)) ggX5_digest_X5_refresh
theorem dX5_digest_0 : decode cX5_digest 0 = .ok (.iload_n 1, 1) := by decide +kernel
theorem dX5_digest_1 : decode cX5_digest 1 = .ok (.iload_n 2, 1) := by decide +kernel
theorem dX5_digest_2 : decode cX5_digest 2 = .ok (.invokestatic 290, 3) := by decide +kernel
theorem dX5_digest_5 : decode cX5_digest 5 = .ok (.ifCond .eq 13, 3) := by decide +kernel
theorem dX5_digest_8 : decode cX5_digest 8 = .ok (.iload_n 3, 1) := by decide +kernel
theorem dX5_digest_9 : decode cX5_digest 9 = .ok (.iconst 0, 1) := by decide +kernel
theorem dX5_digest_10 : decode cX5_digest 10 = .ok (.bipush 31, 2) := by decide +kernel
theorem dX5_digest_12 : decode cX5_digest 12 = .ok (.invokestatic 152, 3) := by decide +kernel
theorem dX5_digest_15 : decode cX5_digest 15 = .ok (.ifCond .ne 8, 3) := by decide +kernel
theorem dX5_digest_18 : decode cX5_digest 18 = .ok (.aload_n 0, 1) := by decide +kernel
theorem dX5_digest_19 : decode cX5_digest 19 = .ok (.invokevirtual 223, 3) := by decide +kernel
theorem dX5_digest_22 : decode cX5_digest 22 = .ok (.ireturn, 1) := by decide +kernel
theorem dX5_digest_23 : decode cX5_digest 23 = .ok (.aload_n 0, 1) := by decide +kernel
theorem dX5_digest_24 : decode cX5_digest 24 = .ok (.iconst 0, 1) := by decide +kernel
theorem dX5_digest_25 : decode cX5_digest 25 = .ok (.putfield 148, 3) := by decide +kernel
theorem dX5_digest_28 : decode cX5_digest 28 = .ok (.aload_n 0, 1) := by decide +kernel
theorem dX5_digest_29 : decode cX5_digest 29 = .ok (.iload_n 1, 1) := by decide +kernel
theorem dX5_digest_30 : decode cX5_digest 30 = .ok (.invokevirtual 236, 3) := by decide +kernel
theorem dX5_digest_33 : decode cX5_digest 33 = .ok (.aload_n 0, 1) := by decide +kernel
theorem dX5_digest_34 : decode cX5_digest 34 = .ok (.getfield 29, 3) := by decide +kernel
theorem dX5_digest_37 : decode cX5_digest 37 = .ok (.bipush 32, 2) := by decide +kernel
theorem dX5_digest_39 : decode cX5_digest 39 = .ok (.bipush 64, 2) := by decide +kernel
theorem dX5_digest_41 : decode cX5_digest 41 = .ok (.iload_n 1, 1) := by decide +kernel
theorem dX5_digest_42 : decode cX5_digest 42 = .ok (.imul, 1) := by decide +kernel
theorem dX5_digest_43 : decode cX5_digest 43 = .ok (.iload_n 2, 1) := by decide +kernel
theorem dX5_digest_44 : decode cX5_digest 44 = .ok (.iadd, 1) := by decide +kernel
theorem dX5_digest_45 : decode cX5_digest 45 = .ok (.imul, 1) := by decide +kernel
theorem dX5_digest_46 : decode cX5_digest 46 = .ok (.iload_n 3, 1) := by decide +kernel
theorem dX5_digest_47 : decode cX5_digest 47 = .ok (.iadd, 1) := by decide +kernel
theorem dX5_digest_48 : decode cX5_digest 48 = .ok (.iaload, 1) := by decide +kernel
theorem dX5_digest_49 : decode cX5_digest 49 = .ok (.ireturn, 1) := by decide +kernel
set_option maxRecDepth 20000 in
theorem ggX5_sum_X5_isRange : GoodIn wsX5_sum wsX5_isRange := goodIn_r _ [6, 7, 8, 5, 9] rfl (by decide +kernel)
set_option maxRecDepth 20000 in
theorem gX5_sum_X5_isRange : GoodIn wsX5_sum (va_wsS RX5 290 yX5_isRange wsX5_isRange) := goodIn_app (goodIn_of _ (by decide +kernel)) ggX5_sum_X5_isRange
set_option maxRecDepth 20000 in
theorem ggX5_sum_X5_raise : GoodIn wsX5_sum wsX5_raise := goodIn_r _ [13, 1, 88, 89, 90, 91, 92, 93, 94, 95, 96, 97, 98, 99, 100, 101, 102, 103, 104, 105, 106, 107, 108, 109, 110, 111, 112, 113, 114, 115, 116, 117, 118, 119, 120, 121] rfl (by decide +kernel)
set_option maxRecDepth 20000 in
theorem gX5_sum_X5_raise : GoodIn wsX5_sum (wsV RX5 223 RX5 yX5_raise wsX5_raise) := goodIn_app (goodIn_of _ (by decide +kernel)) ggX5_sum_X5_raise
set_option maxRecDepth 20000 in
theorem ggX5_sum_X5_refresh : GoodIn wsX5_sum wsX5_refresh := goodIn_r _ [17, 18, 19, 20, 21, 5, 22, 2, 23, 24, 25, 26, 27, 28, 29, 30, 31, 32, 33, 34, 35, 36, 37, 38, 39, 40, 41, 42, 43, 44, 45, 46, 47, 48, 49, 50, 51, 52, 53, 54, 55, 56, 57, 58, 59, 60, 61, 62, 63, 64, 65, 66, 67, 68, 69, 70, 71, 72, 73, 74, 75, 76, 77, 78, 79, 80, 81, 82, 83, 84, 85, 86, 87, 88, 89, 90, 91, 92, 93, 94, 95, 96, 97, 98, 99, 100, 101, 102, 103, 104, 105, 106, 107, 108, 109, 110, 111, 112, 113, 114, 115, 116, 117, 118, 119, 120, 121] rfl (by decide +kernel)
set_option maxRecDepth 20000 in
theorem gX5_sum_X5_refresh : GoodIn wsX5_sum (wsV RX5 236 RX5 yX5_refresh wsX5_refresh) := goodIn_app (goodIn_of _ (by decide +kernel)) ggX5_sum_X5_refresh
theorem dX5_sum_0 : decode cX5_sum 0 = .ok (.iload_n 1, 1) := by decide +kernel
theorem dX5_sum_1 : decode cX5_sum 1 = .ok (.iload_n 2, 1) := by decide +kernel
theorem dX5_sum_2 : decode cX5_sum 2 = .ok (.invokestatic 290, 3) := by decide +kernel
theorem dX5_sum_5 : decode cX5_sum 5 = .ok (.ifCond .ne 8, 3) := by decide +kernel
theorem dX5_sum_8 : decode cX5_sum 8 = .ok (.aload_n 0, 1) := by decide +kernel
theorem dX5_sum_9 : decode cX5_sum 9 = .ok (.invokevirtual 223, 3) := by decide +kernel
theorem dX5_sum_12 : decode cX5_sum 12 = .ok (.ireturn, 1) := by decide +kernel
theorem dX5_sum_13 : decode cX5_sum 13 = .ok (.aload_n 0, 1) := by decide +kernel
theorem dX5_sum_14 : decode cX5_sum 14 = .ok (.iconst 0, 1) := by decide +kernel
theorem dX5_sum_15 : decode cX5_sum 15 = .ok (.putfield 148, 3) := by decide +kernel
theorem dX5_sum_18 : decode cX5_sum 18 = .ok (.aload_n 0, 1) := by decide +kernel
theorem dX5_sum_19 : decode cX5_sum 19 = .ok (.iload_n 1, 1) := by decide +kernel
theorem dX5_sum_20 : decode cX5_sum 20 = .ok (.invokevirtual 236, 3) := by decide +kernel
theorem dX5_sum_23 : decode cX5_sum 23 = .ok (.aload_n 0, 1) := by decide +kernel
theorem dX5_sum_24 : decode cX5_sum 24 = .ok (.getfield 33, 3) := by decide +kernel
theorem dX5_sum_27 : decode cX5_sum 27 = .ok (.bipush 64, 2) := by decide +kernel
theorem dX5_sum_29 : decode cX5_sum 29 = .ok (.iload_n 1, 1) := by decide +kernel
theorem dX5_sum_30 : decode cX5_sum 30 = .ok (.imul, 1) := by decide +kernel
theorem dX5_sum_31 : decode cX5_sum 31 = .ok (.iload_n 2, 1) := by decide +kernel
theorem dX5_sum_32 : decode cX5_sum 32 = .ok (.iadd, 1) := by decide +kernel
theorem dX5_sum_33 : decode cX5_sum 33 = .ok (.iaload, 1) := by decide +kernel
theorem dX5_sum_34 : decode cX5_sum 34 = .ok (.ireturn, 1) := by decide +kernel
set_option maxRecDepth 20000 in
theorem ggX5_isTrue_X5_refresh : GoodIn wsX5_isTrue wsX5_refresh := goodIn_r _ [6, 7, 8, 9, 10, 5, 11, 12, 1, 13, 14, 15, 16, 17, 18, 19, 20, 21, 22, 23, 24, 25, 26, 27, 28, 29, 30, 31, 32, 33, 34, 35, 36, 37, 38, 39, 40, 41, 42, 43, 44, 45, 46, 47, 48, 49, 50, 51, 52, 53, 54, 55, 56, 57, 58, 59, 60, 61, 62, 63, 64, 65, 66, 67, 68, 69, 70, 71, 72, 73, 74, 75, 76, 77, 78, 79, 80, 81, 82, 83, 84, 85, 86, 87, 88, 89, 90, 91, 92, 93, 94, 95, 96, 97, 98, 99, 100, 101, 102, 103, 104, 105, 106, 107, 108, 109, 110] rfl (by decide +kernel)
set_option maxRecDepth 20000 in
theorem gX5_isTrue_X5_refresh : GoodIn wsX5_isTrue (wsV RX5 236 RX5 yX5_refresh wsX5_refresh) := goodIn_app (goodIn_of _ (by decide +kernel)) ggX5_isTrue_X5_refresh
set_option maxRecDepth 20000 in
theorem ggX5_isTrue_X5_many : GoodIn wsX5_isTrue wsX5_many := goodIn_r _ [17, 18, 19, 20, 21, 5, 22, 23, 24, 25, 26, 27, 28, 29, 30, 77, 78, 79, 80, 81, 82, 83, 84, 85, 86, 87, 88, 89, 90, 91, 92, 93, 94, 95, 96, 97, 98, 99, 100, 101, 102, 103, 104, 105, 106, 107, 108, 109, 110] rfl (by decide +kernel)
set_option maxRecDepth 20000 in
theorem gX5_isTrue_X5_many : GoodIn wsX5_isTrue (wsV RX5 200 RX5 yX5_many wsX5_many) := goodIn_app (goodIn_of _ (by decide +kernel)) ggX5_isTrue_X5_many
set_option maxRecDepth 20000 in
theorem ggX5_isTrue_X5_makeLeaf : GoodIn wsX5_isTrue wsX5_makeLeaf := goodIn_r _ [34, 13, 18, 19, 35, 36, 26, 27, 28, 5, 29, 30, 37, 38, 39, 40, 41, 42, 43, 44, 45, 46, 47, 48, 49, 50, 51, 52, 53, 54, 55, 56, 57, 58, 1, 59, 60, 61, 62, 63, 64, 65, 66, 67, 68, 77, 78, 79, 80, 81, 82, 83, 84, 85, 86, 87, 88, 89, 90, 91, 92, 93, 94, 95, 96, 97, 98, 99, 100, 101, 102, 103, 104, 105, 106, 107, 108, 109, 110] rfl (by decide +kernel)
set_option maxRecDepth 20000 in
theorem gX5_isTrue_X5_makeLeaf : GoodIn wsX5_isTrue (wsV RX5 204 RX5 yX5_makeLeaf wsX5_makeLeaf) := goodIn_app (goodIn_of _ (by decide +kernel)) ggX5_isTrue_X5_makeLeaf
theorem dX5_isTrue_0 : decode cX5_isTrue 0 = .ok (.aload_n 0, 1) := by decide +kernel
theorem dX5_isTrue_1 : decode cX5_isTrue 1 = .ok (.iload_n 1, 1) := by decide +kernel
theorem dX5_isTrue_2 : decode cX5_isTrue 2 = .ok (.invokevirtual 236, 3) := by decide +kernel
theorem dX5_isTrue_5 : decode cX5_isTrue 5 = .ok (.sipush 2048, 3) := by decide +kernel
theorem dX5_isTrue_8 : decode cX5_isTrue 8 = .ok (.iload_n 1, 1) := by decide +kernel
theorem dX5_isTrue_9 : decode cX5_isTrue 9 = .ok (.imul, 1) := by decide +kernel
theorem dX5_isTrue_10 : decode cX5_isTrue 10 = .ok (.istore_n 3, 1) := by decide +kernel
theorem dX5_isTrue_11 : decode cX5_isTrue 11 = .ok (.iconst 0, 1) := by decide +kernel
theorem dX5_isTrue_12 : decode cX5_isTrue 12 = .ok (.istore 4, 2) := by decide +kernel
theorem dX5_isTrue_14 : decode cX5_isTrue 14 = .ok (.iload 4, 2) := by decide +kernel
theorem dX5_isTrue_16 : decode cX5_isTrue 16 = .ok (.bipush 32, 2) := by decide +kernel
theorem dX5_isTrue_18 : decode cX5_isTrue 18 = .ok (.if_icmp .ge 19, 3) := by decide +kernel
theorem dX5_isTrue_21 : decode cX5_isTrue 21 = .ok (.aload_n 0, 1) := by decide +kernel
theorem dX5_isTrue_22 : decode cX5_isTrue 22 = .ok (.getfield 29, 3) := by decide +kernel
theorem dX5_isTrue_25 : decode cX5_isTrue 25 = .ok (.iload_n 3, 1) := by decide +kernel
theorem dX5_isTrue_26 : decode cX5_isTrue 26 = .ok (.iload 4, 2) := by decide +kernel
theorem dX5_isTrue_28 : decode cX5_isTrue 28 = .ok (.iadd, 1) := by decide +kernel
theorem dX5_isTrue_29 : decode cX5_isTrue 29 = .ok (.iconst 0, 1) := by decide +kernel
theorem dX5_isTrue_30 : decode cX5_isTrue 30 = .ok (.iastore, 1) := by decide +kernel
theorem dX5_isTrue_31 : decode cX5_isTrue 31 = .ok (.iinc 4 1, 3) := by decide +kernel
theorem dX5_isTrue_34 : decode cX5_isTrue 34 = .ok (.goto (-20), 3) := by decide +kernel
theorem dX5_isTrue_37 : decode cX5_isTrue 37 = .ok (.aload_n 0, 1) := by decide +kernel
theorem dX5_isTrue_38 : decode cX5_isTrue 38 = .ok (.iload_n 1, 1) := by decide +kernel
theorem dX5_isTrue_39 : decode cX5_isTrue 39 = .ok (.iload_n 2, 1) := by decide +kernel
theorem dX5_isTrue_40 : decode cX5_isTrue 40 = .ok (.iconst 0, 1) := by decide +kernel
theorem dX5_isTrue_41 : decode cX5_isTrue 41 = .ok (.invokevirtual 200, 3) := by decide +kernel
theorem dX5_isTrue_44 : decode cX5_isTrue 44 = .ok (.ifCond .le 11, 3) := by decide +kernel
theorem dX5_isTrue_47 : decode cX5_isTrue 47 = .ok (.aload_n 0, 1) := by decide +kernel
theorem dX5_isTrue_48 : decode cX5_isTrue 48 = .ok (.iload_n 1, 1) := by decide +kernel
theorem dX5_isTrue_49 : decode cX5_isTrue 49 = .ok (.iload_n 2, 1) := by decide +kernel
theorem dX5_isTrue_50 : decode cX5_isTrue 50 = .ok (.iconst 0, 1) := by decide +kernel
theorem dX5_isTrue_51 : decode cX5_isTrue 51 = .ok (.iload_n 3, 1) := by decide +kernel
theorem dX5_isTrue_52 : decode cX5_isTrue 52 = .ok (.invokevirtual 204, 3) := by decide +kernel
theorem dX5_isTrue_55 : decode cX5_isTrue 55 = .ok (.iconst 0, 1) := by decide +kernel
theorem dX5_isTrue_56 : decode cX5_isTrue 56 = .ok (.istore 4, 2) := by decide +kernel
theorem dX5_isTrue_58 : decode cX5_isTrue 58 = .ok (.iload 4, 2) := by decide +kernel
theorem dX5_isTrue_60 : decode cX5_isTrue 60 = .ok (.bipush 32, 2) := by decide +kernel
theorem dX5_isTrue_62 : decode cX5_isTrue 62 = .ok (.if_icmp .ge 40, 3) := by decide +kernel
theorem dX5_isTrue_65 : decode cX5_isTrue 65 = .ok (.aload_n 0, 1) := by decide +kernel
theorem dX5_isTrue_66 : decode cX5_isTrue 66 = .ok (.getfield 29, 3) := by decide +kernel
theorem dX5_isTrue_69 : decode cX5_isTrue 69 = .ok (.iload_n 3, 1) := by decide +kernel
theorem dX5_isTrue_70 : decode cX5_isTrue 70 = .ok (.iload 4, 2) := by decide +kernel
theorem dX5_isTrue_72 : decode cX5_isTrue 72 = .ok (.iadd, 1) := by decide +kernel
theorem dX5_isTrue_73 : decode cX5_isTrue 73 = .ok (.iaload, 1) := by decide +kernel
theorem dX5_isTrue_74 : decode cX5_isTrue 74 = .ok (.aload_n 0, 1) := by decide +kernel
theorem dX5_isTrue_75 : decode cX5_isTrue 75 = .ok (.getfield 29, 3) := by decide +kernel
theorem dX5_isTrue_78 : decode cX5_isTrue 78 = .ok (.bipush 32, 2) := by decide +kernel
theorem dX5_isTrue_80 : decode cX5_isTrue 80 = .ok (.bipush 64, 2) := by decide +kernel
theorem dX5_isTrue_82 : decode cX5_isTrue 82 = .ok (.iload_n 1, 1) := by decide +kernel
theorem dX5_isTrue_83 : decode cX5_isTrue 83 = .ok (.imul, 1) := by decide +kernel
theorem dX5_isTrue_84 : decode cX5_isTrue 84 = .ok (.iload_n 2, 1) := by decide +kernel
theorem dX5_isTrue_85 : decode cX5_isTrue 85 = .ok (.iadd, 1) := by decide +kernel
theorem dX5_isTrue_86 : decode cX5_isTrue 86 = .ok (.imul, 1) := by decide +kernel
theorem dX5_isTrue_87 : decode cX5_isTrue 87 = .ok (.iload 4, 2) := by decide +kernel
theorem dX5_isTrue_89 : decode cX5_isTrue 89 = .ok (.iadd, 1) := by decide +kernel
theorem dX5_isTrue_90 : decode cX5_isTrue 90 = .ok (.iaload, 1) := by decide +kernel
theorem dX5_isTrue_91 : decode cX5_isTrue 91 = .ok (.if_icmp .eq 5, 3) := by decide +kernel
theorem dX5_isTrue_94 : decode cX5_isTrue 94 = .ok (.iconst 0, 1) := by decide +kernel
theorem dX5_isTrue_95 : decode cX5_isTrue 95 = .ok (.ireturn, 1) := by decide +kernel
theorem dX5_isTrue_96 : decode cX5_isTrue 96 = .ok (.iinc 4 1, 3) := by decide +kernel
theorem dX5_isTrue_99 : decode cX5_isTrue 99 = .ok (.goto (-41), 3) := by decide +kernel
theorem dX5_isTrue_102 : decode cX5_isTrue 102 = .ok (.iconst 1, 1) := by decide +kernel
theorem dX5_isTrue_103 : decode cX5_isTrue 103 = .ok (.ireturn, 1) := by decide +kernel
set_option maxRecDepth 20000 in
theorem ggX5_broken_X5_within : GoodIn wsX5_broken wsX5_within := goodIn_r _ [5] rfl (by decide +kernel)
set_option maxRecDepth 20000 in
theorem gX5_broken_X5_within : GoodIn wsX5_broken (va_wsS RX5 152 yX5_within wsX5_within) := goodIn_app (goodIn_of _ (by decide +kernel)) ggX5_broken_X5_within
set_option maxRecDepth 20000 in
theorem ggX5_broken_X5_isTrue : GoodIn wsX5_broken wsX5_isTrue := goodIn_r _ [9, 10, 11, 12, 13, 4, 14, 15, 16, 17, 18, 19, 20, 21, 22, 23, 24, 25, 26, 27, 28, 29, 30, 31, 32, 33, 34, 35, 36, 37, 38, 39, 40, 41, 42, 43, 44, 45, 46, 47, 48, 49, 50, 51, 52, 53, 54, 55, 56, 57, 58, 59, 60, 61, 62, 63, 64, 65, 66, 67, 68, 69, 70, 71, 72, 73, 74, 75, 76, 77, 78, 79, 80, 81, 82, 83, 84, 85, 86, 87, 88, 89, 90, 91, 92, 93, 94, 95, 96, 97, 98, 99, 100, 101, 102, 103, 104, 105, 106, 107, 108, 109, 110, 111, 112, 113, 114, 115, 116, 117, 118] rfl (by decide +kernel)
set_option maxRecDepth 20000 in
theorem gX5_broken_X5_isTrue : GoodIn wsX5_broken (wsV RX5 294 RX5 yX5_isTrue wsX5_isTrue) := goodIn_app (goodIn_of _ (by decide +kernel)) ggX5_broken_X5_isTrue
theorem dX5_broken_0 : decode cX5_broken 0 = .ok (.aload_n 0, 1) := by decide +kernel
theorem dX5_broken_1 : decode cX5_broken 1 = .ok (.iconst 0, 1) := by decide +kernel
theorem dX5_broken_2 : decode cX5_broken 2 = .ok (.putfield 148, 3) := by decide +kernel
theorem dX5_broken_5 : decode cX5_broken 5 = .ok (.iload_n 1, 1) := by decide +kernel
theorem dX5_broken_6 : decode cX5_broken 6 = .ok (.iconst 0, 1) := by decide +kernel
theorem dX5_broken_7 : decode cX5_broken 7 = .ok (.iconst 1, 1) := by decide +kernel
theorem dX5_broken_8 : decode cX5_broken 8 = .ok (.invokestatic 152, 3) := by decide +kernel
theorem dX5_broken_11 : decode cX5_broken 11 = .ok (.ifCond .ne 5, 3) := by decide +kernel
theorem dX5_broken_14 : decode cX5_broken 14 = .ok (.iconst (-1), 1) := by decide +kernel
theorem dX5_broken_15 : decode cX5_broken 15 = .ok (.ireturn, 1) := by decide +kernel
theorem dX5_broken_16 : decode cX5_broken 16 = .ok (.bipush 32, 2) := by decide +kernel
theorem dX5_broken_18 : decode cX5_broken 18 = .ok (.istore_n 2, 1) := by decide +kernel
theorem dX5_broken_19 : decode cX5_broken 19 = .ok (.iload_n 2, 1) := by decide +kernel
theorem dX5_broken_20 : decode cX5_broken 20 = .ok (.bipush 64, 2) := by decide +kernel
theorem dX5_broken_22 : decode cX5_broken 22 = .ok (.if_icmp .ge 20, 3) := by decide +kernel
theorem dX5_broken_25 : decode cX5_broken 25 = .ok (.aload_n 0, 1) := by decide +kernel
theorem dX5_broken_26 : decode cX5_broken 26 = .ok (.iload_n 1, 1) := by decide +kernel
theorem dX5_broken_27 : decode cX5_broken 27 = .ok (.iload_n 2, 1) := by decide +kernel
theorem dX5_broken_28 : decode cX5_broken 28 = .ok (.invokevirtual 294, 3) := by decide +kernel
theorem dX5_broken_31 : decode cX5_broken 31 = .ok (.ifCond .ne 5, 3) := by decide +kernel
theorem dX5_broken_34 : decode cX5_broken 34 = .ok (.iload_n 2, 1) := by decide +kernel
theorem dX5_broken_35 : decode cX5_broken 35 = .ok (.ireturn, 1) := by decide +kernel
theorem dX5_broken_36 : decode cX5_broken 36 = .ok (.iinc 2 1, 3) := by decide +kernel
theorem dX5_broken_39 : decode cX5_broken 39 = .ok (.goto (-20), 3) := by decide +kernel
theorem dX5_broken_42 : decode cX5_broken 42 = .ok (.iconst (-1), 1) := by decide +kernel
theorem dX5_broken_43 : decode cX5_broken 43 = .ok (.ireturn, 1) := by decide +kernel
set_option maxRecDepth 20000 in
theorem ggX5_anew_X5_within : GoodIn wsX5_anew wsX5_within := goodIn_r _ [7] rfl (by decide +kernel)
set_option maxRecDepth 20000 in
theorem gX5_anew_X5_within : GoodIn wsX5_anew (va_wsS RX5 152 yX5_within wsX5_within) := goodIn_app (goodIn_of _ (by decide +kernel)) ggX5_anew_X5_within
set_option maxRecDepth 20000 in
theorem ggX5_anew_X5_refresh : GoodIn wsX5_anew wsX5_refresh := goodIn_r _ [11, 12, 13, 14, 15, 6, 16, 17, 3, 18, 19, 20, 21, 22, 23, 24, 25, 26, 27, 28, 29, 30, 31, 32, 33, 34, 35, 36, 37, 38, 39, 40, 41, 42, 43, 44, 45, 46, 47, 48, 49, 50, 51, 52, 53, 54, 55, 56, 57, 58, 59, 60, 61, 62, 63, 64, 65, 66, 67, 68, 69, 70, 71, 72, 73, 74, 75, 76, 77, 78, 79, 80, 81, 86, 87, 88, 89, 90, 91, 92, 93, 94, 95, 96, 97, 98, 99, 100, 101, 102, 103, 104, 105, 106, 107, 108, 109, 110, 111, 112, 113, 114, 115, 116, 117, 118, 119] rfl (by decide +kernel)
set_option maxRecDepth 20000 in
theorem gX5_anew_X5_refresh : GoodIn wsX5_anew (wsV RX5 236 RX5 yX5_refresh wsX5_refresh) := goodIn_app (goodIn_of _ (by decide +kernel)) ggX5_anew_X5_refresh
set_option maxRecDepth 20000 in
theorem ggX5_anew_X5_learn : GoodIn wsX5_anew wsX5_learn := goodIn_r _ [85, 23, 24, 40, 41, 12, 86, 87, 88, 89, 90, 91, 92, 93, 94, 95, 96, 97, 98, 99, 100, 101, 102, 103, 104, 105, 106, 107, 108, 109, 110, 111, 112, 113, 114, 115, 116, 117, 118, 119] rfl (by decide +kernel)
set_option maxRecDepth 20000 in
theorem gX5_anew_X5_learn : GoodIn wsX5_anew (wsV RX5 216 RX5 yX5_learn wsX5_learn) := goodIn_app (goodIn_of _ (by decide +kernel)) ggX5_anew_X5_learn
theorem dX5_anew_0 : decode cX5_anew 0 = .ok (.aload_n 0, 1) := by decide +kernel
theorem dX5_anew_1 : decode cX5_anew 1 = .ok (.iconst 0, 1) := by decide +kernel
theorem dX5_anew_2 : decode cX5_anew 2 = .ok (.putfield 148, 3) := by decide +kernel
theorem dX5_anew_5 : decode cX5_anew 5 = .ok (.iload_n 1, 1) := by decide +kernel
theorem dX5_anew_6 : decode cX5_anew 6 = .ok (.iconst 0, 1) := by decide +kernel
theorem dX5_anew_7 : decode cX5_anew 7 = .ok (.iconst 1, 1) := by decide +kernel
theorem dX5_anew_8 : decode cX5_anew 8 = .ok (.invokestatic 152, 3) := by decide +kernel
theorem dX5_anew_11 : decode cX5_anew 11 = .ok (.ifCond .ne 5, 3) := by decide +kernel
theorem dX5_anew_14 : decode cX5_anew 14 = .ok (.iconst (-1), 1) := by decide +kernel
theorem dX5_anew_15 : decode cX5_anew 15 = .ok (.ireturn, 1) := by decide +kernel
theorem dX5_anew_16 : decode cX5_anew 16 = .ok (.aload_n 0, 1) := by decide +kernel
theorem dX5_anew_17 : decode cX5_anew 17 = .ok (.iload_n 1, 1) := by decide +kernel
theorem dX5_anew_18 : decode cX5_anew 18 = .ok (.invokevirtual 236, 3) := by decide +kernel
theorem dX5_anew_21 : decode cX5_anew 21 = .ok (.iconst 0, 1) := by decide +kernel
theorem dX5_anew_22 : decode cX5_anew 22 = .ok (.istore_n 2, 1) := by decide +kernel
theorem dX5_anew_23 : decode cX5_anew 23 = .ok (.iload_n 2, 1) := by decide +kernel
theorem dX5_anew_24 : decode cX5_anew 24 = .ok (.sipush 2048, 3) := by decide +kernel
theorem dX5_anew_27 : decode cX5_anew 27 = .ok (.if_icmp .ge 27, 3) := by decide +kernel
theorem dX5_anew_30 : decode cX5_anew 30 = .ok (.aload_n 0, 1) := by decide +kernel
theorem dX5_anew_31 : decode cX5_anew 31 = .ok (.getfield 145, 3) := by decide +kernel
theorem dX5_anew_34 : decode cX5_anew 34 = .ok (.iload_n 2, 1) := by decide +kernel
theorem dX5_anew_35 : decode cX5_anew 35 = .ok (.aload_n 0, 1) := by decide +kernel
theorem dX5_anew_36 : decode cX5_anew 36 = .ok (.getfield 29, 3) := by decide +kernel
theorem dX5_anew_39 : decode cX5_anew 39 = .ok (.sipush 2048, 3) := by decide +kernel
theorem dX5_anew_42 : decode cX5_anew 42 = .ok (.iload_n 1, 1) := by decide +kernel
theorem dX5_anew_43 : decode cX5_anew 43 = .ok (.imul, 1) := by decide +kernel
theorem dX5_anew_44 : decode cX5_anew 44 = .ok (.iload_n 2, 1) := by decide +kernel
theorem dX5_anew_45 : decode cX5_anew 45 = .ok (.iadd, 1) := by decide +kernel
theorem dX5_anew_46 : decode cX5_anew 46 = .ok (.iaload, 1) := by decide +kernel
theorem dX5_anew_47 : decode cX5_anew 47 = .ok (.iastore, 1) := by decide +kernel
theorem dX5_anew_48 : decode cX5_anew 48 = .ok (.iinc 2 1, 3) := by decide +kernel
theorem dX5_anew_51 : decode cX5_anew 51 = .ok (.goto (-28), 3) := by decide +kernel
theorem dX5_anew_54 : decode cX5_anew 54 = .ok (.aload_n 0, 1) := by decide +kernel
theorem dX5_anew_55 : decode cX5_anew 55 = .ok (.iload_n 1, 1) := by decide +kernel
theorem dX5_anew_56 : decode cX5_anew 56 = .ok (.iconst 0, 1) := by decide +kernel
theorem dX5_anew_57 : decode cX5_anew 57 = .ok (.sipush 256, 3) := by decide +kernel
theorem dX5_anew_60 : decode cX5_anew 60 = .ok (.invokevirtual 216, 3) := by decide +kernel
theorem dX5_anew_63 : decode cX5_anew 63 = .ok (.aload_n 0, 1) := by decide +kernel
theorem dX5_anew_64 : decode cX5_anew 64 = .ok (.iload_n 1, 1) := by decide +kernel
theorem dX5_anew_65 : decode cX5_anew 65 = .ok (.invokevirtual 236, 3) := by decide +kernel
theorem dX5_anew_68 : decode cX5_anew 68 = .ok (.iconst 0, 1) := by decide +kernel
theorem dX5_anew_69 : decode cX5_anew 69 = .ok (.istore_n 2, 1) := by decide +kernel
theorem dX5_anew_70 : decode cX5_anew 70 = .ok (.iconst 1, 1) := by decide +kernel
theorem dX5_anew_71 : decode cX5_anew 71 = .ok (.istore_n 3, 1) := by decide +kernel
theorem dX5_anew_72 : decode cX5_anew 72 = .ok (.iload_n 3, 1) := by decide +kernel
theorem dX5_anew_73 : decode cX5_anew 73 = .ok (.bipush 64, 2) := by decide +kernel
theorem dX5_anew_75 : decode cX5_anew 75 = .ok (.if_icmp .ge 86, 3) := by decide +kernel
theorem dX5_anew_78 : decode cX5_anew 78 = .ok (.iconst 1, 1) := by decide +kernel
theorem dX5_anew_79 : decode cX5_anew 79 = .ok (.istore 4, 2) := by decide +kernel
theorem dX5_anew_81 : decode cX5_anew 81 = .ok (.iconst 0, 1) := by decide +kernel
theorem dX5_anew_82 : decode cX5_anew 82 = .ok (.istore 5, 2) := by decide +kernel
theorem dX5_anew_84 : decode cX5_anew 84 = .ok (.iload 5, 2) := by decide +kernel
theorem dX5_anew_86 : decode cX5_anew 86 = .ok (.bipush 32, 2) := by decide +kernel
theorem dX5_anew_88 : decode cX5_anew 88 = .ok (.if_icmp .ge 54, 3) := by decide +kernel
theorem dX5_anew_91 : decode cX5_anew 91 = .ok (.iload 4, 2) := by decide +kernel
theorem dX5_anew_93 : decode cX5_anew 93 = .ok (.ifCond .eq 40, 3) := by decide +kernel
theorem dX5_anew_96 : decode cX5_anew 96 = .ok (.aload_n 0, 1) := by decide +kernel
theorem dX5_anew_97 : decode cX5_anew 97 = .ok (.getfield 145, 3) := by decide +kernel
theorem dX5_anew_100 : decode cX5_anew 100 = .ok (.bipush 32, 2) := by decide +kernel
theorem dX5_anew_102 : decode cX5_anew 102 = .ok (.iload_n 3, 1) := by decide +kernel
theorem dX5_anew_103 : decode cX5_anew 103 = .ok (.imul, 1) := by decide +kernel
theorem dX5_anew_104 : decode cX5_anew 104 = .ok (.iload 5, 2) := by decide +kernel
theorem dX5_anew_106 : decode cX5_anew 106 = .ok (.iadd, 1) := by decide +kernel
theorem dX5_anew_107 : decode cX5_anew 107 = .ok (.iaload, 1) := by decide +kernel
theorem dX5_anew_108 : decode cX5_anew 108 = .ok (.aload_n 0, 1) := by decide +kernel
theorem dX5_anew_109 : decode cX5_anew 109 = .ok (.getfield 29, 3) := by decide +kernel
theorem dX5_anew_112 : decode cX5_anew 112 = .ok (.sipush 2048, 3) := by decide +kernel
theorem dX5_anew_115 : decode cX5_anew 115 = .ok (.iload_n 1, 1) := by decide +kernel
theorem dX5_anew_116 : decode cX5_anew 116 = .ok (.imul, 1) := by decide +kernel
theorem dX5_anew_117 : decode cX5_anew 117 = .ok (.bipush 32, 2) := by decide +kernel
theorem dX5_anew_119 : decode cX5_anew 119 = .ok (.iload_n 3, 1) := by decide +kernel
theorem dX5_anew_120 : decode cX5_anew 120 = .ok (.imul, 1) := by decide +kernel
theorem dX5_anew_121 : decode cX5_anew 121 = .ok (.iadd, 1) := by decide +kernel
theorem dX5_anew_122 : decode cX5_anew 122 = .ok (.iload 5, 2) := by decide +kernel
theorem dX5_anew_124 : decode cX5_anew 124 = .ok (.iadd, 1) := by decide +kernel
theorem dX5_anew_125 : decode cX5_anew 125 = .ok (.iaload, 1) := by decide +kernel
theorem dX5_anew_126 : decode cX5_anew 126 = .ok (.if_icmp .ne 7, 3) := by decide +kernel
theorem dX5_anew_129 : decode cX5_anew 129 = .ok (.iconst 1, 1) := by decide +kernel
theorem dX5_anew_130 : decode cX5_anew 130 = .ok (.goto 4, 3) := by decide +kernel
theorem dX5_anew_133 : decode cX5_anew 133 = .ok (.iconst 0, 1) := by decide +kernel
theorem dX5_anew_134 : decode cX5_anew 134 = .ok (.istore 4, 2) := by decide +kernel
theorem dX5_anew_136 : decode cX5_anew 136 = .ok (.iinc 5 1, 3) := by decide +kernel
theorem dX5_anew_139 : decode cX5_anew 139 = .ok (.goto (-55), 3) := by decide +kernel
theorem dX5_anew_142 : decode cX5_anew 142 = .ok (.iload_n 2, 1) := by decide +kernel
theorem dX5_anew_143 : decode cX5_anew 143 = .ok (.iload 4, 2) := by decide +kernel
theorem dX5_anew_145 : decode cX5_anew 145 = .ok (.ifCond .eq 7, 3) := by decide +kernel
theorem dX5_anew_148 : decode cX5_anew 148 = .ok (.iconst 0, 1) := by decide +kernel
theorem dX5_anew_149 : decode cX5_anew 149 = .ok (.goto 4, 3) := by decide +kernel
theorem dX5_anew_152 : decode cX5_anew 152 = .ok (.iconst 1, 1) := by decide +kernel
theorem dX5_anew_153 : decode cX5_anew 153 = .ok (.iadd, 1) := by decide +kernel
theorem dX5_anew_154 : decode cX5_anew 154 = .ok (.istore_n 2, 1) := by decide +kernel
theorem dX5_anew_155 : decode cX5_anew 155 = .ok (.iinc 3 1, 3) := by decide +kernel
theorem dX5_anew_158 : decode cX5_anew 158 = .ok (.goto (-86), 3) := by decide +kernel
theorem dX5_anew_161 : decode cX5_anew 161 = .ok (.iload_n 2, 1) := by decide +kernel
theorem dX5_anew_162 : decode cX5_anew 162 = .ok (.ireturn, 1) := by decide +kernel
set_option maxRecDepth 20000 in
theorem ggX5_leaf_X5_within : GoodIn wsX5_leaf wsX5_within := goodIn_r _ [5] rfl (by decide +kernel)
set_option maxRecDepth 20000 in
theorem gX5_leaf_X5_within : GoodIn wsX5_leaf (va_wsS RX5 152 yX5_within wsX5_within) := goodIn_app (goodIn_of _ (by decide +kernel)) ggX5_leaf_X5_within
set_option maxRecDepth 20000 in
theorem ggX5_leaf_X5_firstLeaf : GoodIn wsX5_leaf wsX5_firstLeaf := goodIn_r _ [8] rfl (by decide +kernel)
set_option maxRecDepth 20000 in
theorem gX5_leaf_X5_firstLeaf : GoodIn wsX5_leaf (va_wsS RX5 182 yX5_firstLeaf wsX5_firstLeaf) := goodIn_app (goodIn_of _ (by decide +kernel)) ggX5_leaf_X5_firstLeaf
set_option maxRecDepth 20000 in
theorem ggX5_leaf_X5_lastLeaf : GoodIn wsX5_leaf wsX5_lastLeaf := goodIn_r _ [11] rfl (by decide +kernel)
set_option maxRecDepth 20000 in
theorem gX5_leaf_X5_lastLeaf : GoodIn wsX5_leaf (va_wsS RX5 186 yX5_lastLeaf wsX5_lastLeaf) := goodIn_app (goodIn_of _ (by decide +kernel)) ggX5_leaf_X5_lastLeaf
set_option maxRecDepth 20000 in
theorem ggX5_leaf_X5_many : GoodIn wsX5_leaf wsX5_many := goodIn_r _ [15, 16, 17, 6, 7, 4, 8, 9, 10, 11, 18, 19, 20, 21, 22, 23, 24, 25, 26, 27, 28, 29, 30, 31, 32, 33, 34, 35, 36, 37, 38, 39, 40, 41, 42, 43, 44, 45, 46, 47, 48, 49, 50, 51, 52, 53, 54, 55, 56] rfl (by decide +kernel)
set_option maxRecDepth 20000 in
theorem gX5_leaf_X5_many : GoodIn wsX5_leaf (wsV RX5 200 RX5 yX5_many wsX5_many) := goodIn_app (goodIn_of _ (by decide +kernel)) ggX5_leaf_X5_many
theorem dX5_leaf_0 : decode cX5_leaf 0 = .ok (.aload_n 0, 1) := by decide +kernel
theorem dX5_leaf_1 : decode cX5_leaf 1 = .ok (.iconst 0, 1) := by decide +kernel
theorem dX5_leaf_2 : decode cX5_leaf 2 = .ok (.putfield 148, 3) := by decide +kernel
theorem dX5_leaf_5 : decode cX5_leaf 5 = .ok (.iload_n 1, 1) := by decide +kernel
theorem dX5_leaf_6 : decode cX5_leaf 6 = .ok (.iconst 1, 1) := by decide +kernel
theorem dX5_leaf_7 : decode cX5_leaf 7 = .ok (.bipush 63, 2) := by decide +kernel
theorem dX5_leaf_9 : decode cX5_leaf 9 = .ok (.invokestatic 152, 3) := by decide +kernel
theorem dX5_leaf_12 : decode cX5_leaf 12 = .ok (.ifCond .ne 5, 3) := by decide +kernel
theorem dX5_leaf_15 : decode cX5_leaf 15 = .ok (.iconst (-1), 1) := by decide +kernel
theorem dX5_leaf_16 : decode cX5_leaf 16 = .ok (.ireturn, 1) := by decide +kernel
theorem dX5_leaf_17 : decode cX5_leaf 17 = .ok (.iload_n 1, 1) := by decide +kernel
theorem dX5_leaf_18 : decode cX5_leaf 18 = .ok (.invokestatic 182, 3) := by decide +kernel
theorem dX5_leaf_21 : decode cX5_leaf 21 = .ok (.bipush 32, 2) := by decide +kernel
theorem dX5_leaf_23 : decode cX5_leaf 23 = .ok (.isub, 1) := by decide +kernel
theorem dX5_leaf_24 : decode cX5_leaf 24 = .ok (.istore_n 3, 1) := by decide +kernel
theorem dX5_leaf_25 : decode cX5_leaf 25 = .ok (.iload_n 1, 1) := by decide +kernel
theorem dX5_leaf_26 : decode cX5_leaf 26 = .ok (.invokestatic 186, 3) := by decide +kernel
theorem dX5_leaf_29 : decode cX5_leaf 29 = .ok (.bipush 32, 2) := by decide +kernel
theorem dX5_leaf_31 : decode cX5_leaf 31 = .ok (.isub, 1) := by decide +kernel
theorem dX5_leaf_32 : decode cX5_leaf 32 = .ok (.istore 4, 2) := by decide +kernel
theorem dX5_leaf_34 : decode cX5_leaf 34 = .ok (.iload_n 2, 1) := by decide +kernel
theorem dX5_leaf_35 : decode cX5_leaf 35 = .ok (.tableswitch 92 0 4 #[33, 54, 64, 76, 84], 33) := by decide +kernel
theorem dX5_leaf_68 : decode cX5_leaf 68 = .ok (.iload_n 3, 1) := by decide +kernel
theorem dX5_leaf_69 : decode cX5_leaf 69 = .ok (.bipush 8, 2) := by decide +kernel
theorem dX5_leaf_71 : decode cX5_leaf 71 = .ok (.idiv, 1) := by decide +kernel
theorem dX5_leaf_72 : decode cX5_leaf 72 = .ok (.iload 4, 2) := by decide +kernel
theorem dX5_leaf_74 : decode cX5_leaf 74 = .ok (.bipush 8, 2) := by decide +kernel
theorem dX5_leaf_76 : decode cX5_leaf 76 = .ok (.idiv, 1) := by decide +kernel
theorem dX5_leaf_77 : decode cX5_leaf 77 = .ok (.if_icmp .ne 10, 3) := by decide +kernel
theorem dX5_leaf_80 : decode cX5_leaf 80 = .ok (.iload_n 3, 1) := by decide +kernel
theorem dX5_leaf_81 : decode cX5_leaf 81 = .ok (.bipush 8, 2) := by decide +kernel
theorem dX5_leaf_83 : decode cX5_leaf 83 = .ok (.idiv, 1) := by decide +kernel
theorem dX5_leaf_84 : decode cX5_leaf 84 = .ok (.goto 4, 3) := by decide +kernel
theorem dX5_leaf_87 : decode cX5_leaf 87 = .ok (.iconst (-1), 1) := by decide +kernel
theorem dX5_leaf_88 : decode cX5_leaf 88 = .ok (.ireturn, 1) := by decide +kernel
theorem dX5_leaf_89 : decode cX5_leaf 89 = .ok (.bipush 8, 2) := by decide +kernel
theorem dX5_leaf_91 : decode cX5_leaf 91 = .ok (.iload_n 3, 1) := by decide +kernel
theorem dX5_leaf_92 : decode cX5_leaf 92 = .ok (.bipush 8, 2) := by decide +kernel
theorem dX5_leaf_94 : decode cX5_leaf 94 = .ok (.irem, 1) := by decide +kernel
theorem dX5_leaf_95 : decode cX5_leaf 95 = .ok (.imul, 1) := by decide +kernel
theorem dX5_leaf_96 : decode cX5_leaf 96 = .ok (.iconst 1, 1) := by decide +kernel
theorem dX5_leaf_97 : decode cX5_leaf 97 = .ok (.iadd, 1) := by decide +kernel
theorem dX5_leaf_98 : decode cX5_leaf 98 = .ok (.ireturn, 1) := by decide +kernel
theorem dX5_leaf_99 : decode cX5_leaf 99 = .ok (.bipush 8, 2) := by decide +kernel
theorem dX5_leaf_101 : decode cX5_leaf 101 = .ok (.iload 4, 2) := by decide +kernel
theorem dX5_leaf_103 : decode cX5_leaf 103 = .ok (.bipush 8, 2) := by decide +kernel
theorem dX5_leaf_105 : decode cX5_leaf 105 = .ok (.irem, 1) := by decide +kernel
theorem dX5_leaf_106 : decode cX5_leaf 106 = .ok (.imul, 1) := by decide +kernel
theorem dX5_leaf_107 : decode cX5_leaf 107 = .ok (.bipush 8, 2) := by decide +kernel
theorem dX5_leaf_109 : decode cX5_leaf 109 = .ok (.iadd, 1) := by decide +kernel
theorem dX5_leaf_110 : decode cX5_leaf 110 = .ok (.ireturn, 1) := by decide +kernel
theorem dX5_leaf_111 : decode cX5_leaf 111 = .ok (.aload_n 0, 1) := by decide +kernel
theorem dX5_leaf_112 : decode cX5_leaf 112 = .ok (.iconst 0, 1) := by decide +kernel
theorem dX5_leaf_113 : decode cX5_leaf 113 = .ok (.iload_n 1, 1) := by decide +kernel
theorem dX5_leaf_114 : decode cX5_leaf 114 = .ok (.iconst 0, 1) := by decide +kernel
theorem dX5_leaf_115 : decode cX5_leaf 115 = .ok (.invokevirtual 200, 3) := by decide +kernel
theorem dX5_leaf_118 : decode cX5_leaf 118 = .ok (.ireturn, 1) := by decide +kernel
theorem dX5_leaf_119 : decode cX5_leaf 119 = .ok (.aload_n 0, 1) := by decide +kernel
theorem dX5_leaf_120 : decode cX5_leaf 120 = .ok (.iconst 1, 1) := by decide +kernel
theorem dX5_leaf_121 : decode cX5_leaf 121 = .ok (.iload_n 1, 1) := by decide +kernel
theorem dX5_leaf_122 : decode cX5_leaf 122 = .ok (.iconst 0, 1) := by decide +kernel
theorem dX5_leaf_123 : decode cX5_leaf 123 = .ok (.invokevirtual 200, 3) := by decide +kernel
theorem dX5_leaf_126 : decode cX5_leaf 126 = .ok (.ireturn, 1) := by decide +kernel
theorem dX5_leaf_127 : decode cX5_leaf 127 = .ok (.iconst (-1), 1) := by decide +kernel
theorem dX5_leaf_128 : decode cX5_leaf 128 = .ok (.ireturn, 1) := by decide +kernel
