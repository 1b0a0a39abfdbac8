theorem dX0_init_0 : decode cX0_init 0 = .ok (.aload_n 0, 1) := by decide +kernel
theorem dX0_init_1 : decode cX0_init 1 = .ok (.invokespecial 3, 3) := by decide +kernel
theorem dX0_init_4 : decode cX0_init 4 = .ok (.aload_n 0, 1) := by decide +kernel
theorem dX0_init_5 : decode cX0_init 5 = .ok (.bipush 8, 2) := by decide +kernel
theorem dX0_init_7 : decode cX0_init 7 = .ok (.newarray .int, 2) := by decide +kernel
theorem dX0_init_9 : decode cX0_init 9 = .ok (.putfield 9, 3) := by decide +kernel
theorem dX0_init_12 : decode cX0_init 12 = .ok (.aload_n 0, 1) := by decide +kernel
theorem dX0_init_13 : decode cX0_init 13 = .ok (.bipush 64, 2) := by decide +kernel
theorem dX0_init_15 : decode cX0_init 15 = .ok (.newarray .int, 2) := by decide +kernel
theorem dX0_init_17 : decode cX0_init 17 = .ok (.putfield 15, 3) := by decide +kernel
theorem dX0_init_20 : decode cX0_init 20 = .ok (.return_, 1) := by decide +kernel
set_option maxRecDepth 20000 in
theorem ggX0_setZero_J7_fill_53178 : GoodIn wsX0_setZero wsJ7_fill_53178 := goodIn_r _ [5] (by decide +kernel) (by decide +kernel)
set_option maxRecDepth 20000 in
theorem gX0_setZero_J7_fill_53178 : GoodIn wsX0_setZero (va_wsS RX0 18 yJ7_fill_53178 wsJ7_fill_53178) := goodIn_app (goodIn_of _ (by decide +kernel)) ggX0_setZero_J7_fill_53178
theorem dX0_setZero_0 : decode cX0_setZero 0 = .ok (.aload_n 0, 1) := by decide +kernel
theorem dX0_setZero_1 : decode cX0_setZero 1 = .ok (.getfield 9, 3) := by decide +kernel
theorem dX0_setZero_4 : decode cX0_setZero 4 = .ok (.iconst 0, 1) := by decide +kernel
theorem dX0_setZero_5 : decode cX0_setZero 5 = .ok (.invokestatic 18, 3) := by decide +kernel
theorem dX0_setZero_8 : decode cX0_setZero 8 = .ok (.return_, 1) := by decide +kernel
theorem dX0_start_0 : decode cX0_start 0 = .ok (.getstatic 24, 3) := by decide +kernel
theorem dX0_start_3 : decode cX0_start 3 = .ok (.iconst 0, 1) := by decide +kernel
theorem dX0_start_4 : decode cX0_start 4 = .ok (.aload_n 0, 1) := by decide +kernel
theorem dX0_start_5 : decode cX0_start 5 = .ok (.getfield 9, 3) := by decide +kernel
theorem dX0_start_8 : decode cX0_start 8 = .ok (.iconst 0, 1) := by decide +kernel
theorem dX0_start_9 : decode cX0_start 9 = .ok (.bipush 8, 2) := by decide +kernel
theorem dX0_start_11 : decode cX0_start 11 = .ok (.invokestatic 27, 3) := by decide +kernel
theorem dX0_start_14 : decode cX0_start 14 = .ok (.aload_n 0, 1) := by decide +kernel
theorem dX0_start_15 : decode cX0_start 15 = .ok (.iconst 0, 1) := by decide +kernel
theorem dX0_start_16 : decode cX0_start 16 = .ok (.putfield 33, 3) := by decide +kernel
theorem dX0_start_19 : decode cX0_start 19 = .ok (.return_, 1) := by decide +kernel
theorem dX0_word_0 : decode cX0_word 0 = .ok (.aload_n 0, 1) := by decide +kernel
theorem dX0_word_1 : decode cX0_word 1 = .ok (.getfield 9, 3) := by decide +kernel
theorem dX0_word_4 : decode cX0_word 4 = .ok (.iload_n 1, 1) := by decide +kernel
theorem dX0_word_5 : decode cX0_word 5 = .ok (.iaload, 1) := by decide +kernel
theorem dX0_word_6 : decode cX0_word 6 = .ok (.ireturn, 1) := by decide +kernel
set_option maxRecDepth 20000 in
theorem ggX0_take_X0_spreadWords : GoodIn wsX0_take wsX0_spreadWords := goodIn_r _ [7, 2, 8, 9, 10, 11, 18, 19, 20] (by decide +kernel) (by decide +kernel)
set_option maxRecDepth 20000 in
theorem gX0_take_X0_spreadWords : GoodIn wsX0_take (wsV RX0 37 RX0 yX0_spreadWords wsX0_spreadWords) := goodIn_app (goodIn_of _ (by decide +kernel)) ggX0_take_X0_spreadWords
set_option maxRecDepth 20000 in
theorem ggX0_take_X0_mixBlock : GoodIn wsX0_take wsX0_mixBlock := goodIn_r _ [15, 16, 17, 2, 8, 9, 10, 11, 18, 19, 20] (by decide +kernel) (by decide +kernel)
set_option maxRecDepth 20000 in
theorem gX0_take_X0_mixBlock : GoodIn wsX0_take (wsV RX0 40 RX0 yX0_mixBlock wsX0_mixBlock) := goodIn_app (goodIn_of _ (by decide +kernel)) ggX0_take_X0_mixBlock
theorem dX0_take_0 : decode cX0_take 0 = .ok (.iload_n 3, 1) := by decide +kernel
theorem dX0_take_1 : decode cX0_take 1 = .ok (.iconst 1, 1) := by decide +kernel
theorem dX0_take_2 : decode cX0_take 2 = .ok (.isub, 1) := by decide +kernel
theorem dX0_take_3 : decode cX0_take 3 = .ok (.istore 4, 2) := by decide +kernel
theorem dX0_take_5 : decode cX0_take 5 = .ok (.iload 4, 2) := by decide +kernel
theorem dX0_take_7 : decode cX0_take 7 = .ok (.ifCond .lt 78, 3) := by decide +kernel
theorem dX0_take_10 : decode cX0_take 10 = .ok (.aload_n 0, 1) := by decide +kernel
theorem dX0_take_11 : decode cX0_take 11 = .ok (.getfield 33, 3) := by decide +kernel
theorem dX0_take_14 : decode cX0_take 14 = .ok (.bipush 63, 2) := by decide +kernel
theorem dX0_take_16 : decode cX0_take 16 = .ok (.iand, 1) := by decide +kernel
theorem dX0_take_17 : decode cX0_take 17 = .ok (.iconst 4, 1) := by decide +kernel
theorem dX0_take_18 : decode cX0_take 18 = .ok (.idiv, 1) := by decide +kernel
theorem dX0_take_19 : decode cX0_take 19 = .ok (.istore 5, 2) := by decide +kernel
theorem dX0_take_21 : decode cX0_take 21 = .ok (.aload_n 0, 1) := by decide +kernel
theorem dX0_take_22 : decode cX0_take 22 = .ok (.getfield 15, 3) := by decide +kernel
theorem dX0_take_25 : decode cX0_take 25 = .ok (.iload 5, 2) := by decide +kernel
theorem dX0_take_27 : decode cX0_take 27 = .ok (.aload_n 0, 1) := by decide +kernel
theorem dX0_take_28 : decode cX0_take 28 = .ok (.getfield 15, 3) := by decide +kernel
theorem dX0_take_31 : decode cX0_take 31 = .ok (.iload 5, 2) := by decide +kernel
theorem dX0_take_33 : decode cX0_take 33 = .ok (.iaload, 1) := by decide +kernel
theorem dX0_take_34 : decode cX0_take 34 = .ok (.bipush 8, 2) := by decide +kernel
theorem dX0_take_36 : decode cX0_take 36 = .ok (.ishl, 1) := by decide +kernel
theorem dX0_take_37 : decode cX0_take 37 = .ok (.lload_n 1, 1) := by decide +kernel
theorem dX0_take_38 : decode cX0_take 38 = .ok (.bipush 8, 2) := by decide +kernel
theorem dX0_take_40 : decode cX0_take 40 = .ok (.iload 4, 2) := by decide +kernel
theorem dX0_take_42 : decode cX0_take 42 = .ok (.imul, 1) := by decide +kernel
theorem dX0_take_43 : decode cX0_take 43 = .ok (.lushr, 1) := by decide +kernel
theorem dX0_take_44 : decode cX0_take 44 = .ok (.l2i, 1) := by decide +kernel
theorem dX0_take_45 : decode cX0_take 45 = .ok (.sipush 255, 3) := by decide +kernel
theorem dX0_take_48 : decode cX0_take 48 = .ok (.iand, 1) := by decide +kernel
theorem dX0_take_49 : decode cX0_take 49 = .ok (.ior, 1) := by decide +kernel
theorem dX0_take_50 : decode cX0_take 50 = .ok (.iastore, 1) := by decide +kernel
theorem dX0_take_51 : decode cX0_take 51 = .ok (.aload_n 0, 1) := by decide +kernel
theorem dX0_take_52 : decode cX0_take 52 = .ok (.dup, 1) := by decide +kernel
theorem dX0_take_53 : decode cX0_take 53 = .ok (.getfield 33, 3) := by decide +kernel
theorem dX0_take_56 : decode cX0_take 56 = .ok (.iconst 1, 1) := by decide +kernel
theorem dX0_take_57 : decode cX0_take 57 = .ok (.iadd, 1) := by decide +kernel
theorem dX0_take_58 : decode cX0_take 58 = .ok (.putfield 33, 3) := by decide +kernel
theorem dX0_take_61 : decode cX0_take 61 = .ok (.aload_n 0, 1) := by decide +kernel
theorem dX0_take_62 : decode cX0_take 62 = .ok (.getfield 33, 3) := by decide +kernel
theorem dX0_take_65 : decode cX0_take 65 = .ok (.bipush 63, 2) := by decide +kernel
theorem dX0_take_67 : decode cX0_take 67 = .ok (.iand, 1) := by decide +kernel
theorem dX0_take_68 : decode cX0_take 68 = .ok (.ifCond .ne 11, 3) := by decide +kernel
theorem dX0_take_71 : decode cX0_take 71 = .ok (.aload_n 0, 1) := by decide +kernel
theorem dX0_take_72 : decode cX0_take 72 = .ok (.invokevirtual 37, 3) := by decide +kernel
theorem dX0_take_75 : decode cX0_take 75 = .ok (.aload_n 0, 1) := by decide +kernel
theorem dX0_take_76 : decode cX0_take 76 = .ok (.invokevirtual 40, 3) := by decide +kernel
theorem dX0_take_79 : decode cX0_take 79 = .ok (.iinc 4 (-1), 3) := by decide +kernel
theorem dX0_take_82 : decode cX0_take 82 = .ok (.goto (-77), 3) := by decide +kernel
theorem dX0_take_85 : decode cX0_take 85 = .ok (.return_, 1) := by decide +kernel
set_option maxRecDepth 20000 in
theorem ggX0_finish_X0_take : GoodIn wsX0_finish wsX0_take := goodIn_r _ [8, 2, 9, 10, 11, 12, 7, 13, 14, 15, 16, 17, 18, 19, 20, 21, 22, 23, 24, 25, 26] (by decide +kernel) (by decide +kernel)
set_option maxRecDepth 20000 in
theorem gX0_finish_X0_take : GoodIn wsX0_finish (wsV RX0 47 RX0 yX0_take wsX0_take) := goodIn_app (goodIn_of _ (by decide +kernel)) ggX0_finish_X0_take
theorem dX0_finish_0 : decode cX0_finish 0 = .ok (.ldc2_w 43, 3) := by decide +kernel
theorem dX0_finish_3 : decode cX0_finish 3 = .ok (.aload_n 0, 1) := by decide +kernel
theorem dX0_finish_4 : decode cX0_finish 4 = .ok (.getfield 33, 3) := by decide +kernel
theorem dX0_finish_7 : decode cX0_finish 7 = .ok (.i2l, 1) := by decide +kernel
theorem dX0_finish_8 : decode cX0_finish 8 = .ok (.lmul, 1) := by decide +kernel
theorem dX0_finish_9 : decode cX0_finish 9 = .ok (.lstore_n 1, 1) := by decide +kernel
theorem dX0_finish_10 : decode cX0_finish 10 = .ok (.aload_n 0, 1) := by decide +kernel
theorem dX0_finish_11 : decode cX0_finish 11 = .ok (.ldc2_w 45, 3) := by decide +kernel
theorem dX0_finish_14 : decode cX0_finish 14 = .ok (.iconst 1, 1) := by decide +kernel
theorem dX0_finish_15 : decode cX0_finish 15 = .ok (.invokevirtual 47, 3) := by decide +kernel
theorem dX0_finish_18 : decode cX0_finish 18 = .ok (.iconst 0, 1) := by decide +kernel
theorem dX0_finish_19 : decode cX0_finish 19 = .ok (.istore_n 3, 1) := by decide +kernel
theorem dX0_finish_20 : decode cX0_finish 20 = .ok (.iload_n 3, 1) := by decide +kernel
theorem dX0_finish_21 : decode cX0_finish 21 = .ok (.bipush 63, 2) := by decide +kernel
theorem dX0_finish_23 : decode cX0_finish 23 = .ok (.if_icmp .gt 27, 3) := by decide +kernel
theorem dX0_finish_26 : decode cX0_finish 26 = .ok (.aload_n 0, 1) := by decide +kernel
theorem dX0_finish_27 : decode cX0_finish 27 = .ok (.getfield 33, 3) := by decide +kernel
theorem dX0_finish_30 : decode cX0_finish 30 = .ok (.bipush 63, 2) := by decide +kernel
theorem dX0_finish_32 : decode cX0_finish 32 = .ok (.iand, 1) := by decide +kernel
theorem dX0_finish_33 : decode cX0_finish 33 = .ok (.bipush 56, 2) := by decide +kernel
theorem dX0_finish_35 : decode cX0_finish 35 = .ok (.if_icmp .eq 15, 3) := by decide +kernel
theorem dX0_finish_38 : decode cX0_finish 38 = .ok (.aload_n 0, 1) := by decide +kernel
theorem dX0_finish_39 : decode cX0_finish 39 = .ok (.lconst 0, 1) := by decide +kernel
theorem dX0_finish_40 : decode cX0_finish 40 = .ok (.iconst 1, 1) := by decide +kernel
theorem dX0_finish_41 : decode cX0_finish 41 = .ok (.invokevirtual 47, 3) := by decide +kernel
theorem dX0_finish_44 : decode cX0_finish 44 = .ok (.iinc 3 1, 3) := by decide +kernel
theorem dX0_finish_47 : decode cX0_finish 47 = .ok (.goto (-27), 3) := by decide +kernel
theorem dX0_finish_50 : decode cX0_finish 50 = .ok (.aload_n 0, 1) := by decide +kernel
theorem dX0_finish_51 : decode cX0_finish 51 = .ok (.lload_n 1, 1) := by decide +kernel
theorem dX0_finish_52 : decode cX0_finish 52 = .ok (.bipush 8, 2) := by decide +kernel
theorem dX0_finish_54 : decode cX0_finish 54 = .ok (.invokevirtual 47, 3) := by decide +kernel
theorem dX0_finish_57 : decode cX0_finish 57 = .ok (.return_, 1) := by decide +kernel
set_option maxRecDepth 20000 in
theorem ggX0_spreadWords_J6_rotateRight_7cf53 : GoodIn wsX0_spreadWords wsJ6_rotateRight_7cf53 := goodIn_r _ [5] (by decide +kernel) (by decide +kernel)
set_option maxRecDepth 20000 in
theorem gX0_spreadWords_J6_rotateRight_7cf53 : GoodIn wsX0_spreadWords (va_wsS RX0 51 yJ6_rotateRight_7cf53 wsJ6_rotateRight_7cf53) := goodIn_app (goodIn_of _ (by decide +kernel)) ggX0_spreadWords_J6_rotateRight_7cf53
theorem dX0_spreadWords_0 : decode cX0_spreadWords 0 = .ok (.bipush 16, 2) := by decide +kernel
theorem dX0_spreadWords_2 : decode cX0_spreadWords 2 = .ok (.istore_n 1, 1) := by decide +kernel
theorem dX0_spreadWords_3 : decode cX0_spreadWords 3 = .ok (.iload_n 1, 1) := by decide +kernel
theorem dX0_spreadWords_4 : decode cX0_spreadWords 4 = .ok (.bipush 64, 2) := by decide +kernel
theorem dX0_spreadWords_6 : decode cX0_spreadWords 6 = .ok (.if_icmp .ge 98, 3) := by decide +kernel
theorem dX0_spreadWords_9 : decode cX0_spreadWords 9 = .ok (.aload_n 0, 1) := by decide +kernel
theorem dX0_spreadWords_10 : decode cX0_spreadWords 10 = .ok (.getfield 15, 3) := by decide +kernel
theorem dX0_spreadWords_13 : decode cX0_spreadWords 13 = .ok (.iload_n 1, 1) := by decide +kernel
theorem dX0_spreadWords_14 : decode cX0_spreadWords 14 = .ok (.bipush 15, 2) := by decide +kernel
theorem dX0_spreadWords_16 : decode cX0_spreadWords 16 = .ok (.isub, 1) := by decide +kernel
theorem dX0_spreadWords_17 : decode cX0_spreadWords 17 = .ok (.iaload, 1) := by decide +kernel
theorem dX0_spreadWords_18 : decode cX0_spreadWords 18 = .ok (.istore_n 2, 1) := by decide +kernel
theorem dX0_spreadWords_19 : decode cX0_spreadWords 19 = .ok (.aload_n 0, 1) := by decide +kernel
theorem dX0_spreadWords_20 : decode cX0_spreadWords 20 = .ok (.getfield 15, 3) := by decide +kernel
theorem dX0_spreadWords_23 : decode cX0_spreadWords 23 = .ok (.iload_n 1, 1) := by decide +kernel
theorem dX0_spreadWords_24 : decode cX0_spreadWords 24 = .ok (.iconst 2, 1) := by decide +kernel
theorem dX0_spreadWords_25 : decode cX0_spreadWords 25 = .ok (.isub, 1) := by decide +kernel
theorem dX0_spreadWords_26 : decode cX0_spreadWords 26 = .ok (.iaload, 1) := by decide +kernel
theorem dX0_spreadWords_27 : decode cX0_spreadWords 27 = .ok (.istore_n 3, 1) := by decide +kernel
theorem dX0_spreadWords_28 : decode cX0_spreadWords 28 = .ok (.iload_n 2, 1) := by decide +kernel
theorem dX0_spreadWords_29 : decode cX0_spreadWords 29 = .ok (.bipush 7, 2) := by decide +kernel
theorem dX0_spreadWords_31 : decode cX0_spreadWords 31 = .ok (.invokestatic 51, 3) := by decide +kernel
theorem dX0_spreadWords_34 : decode cX0_spreadWords 34 = .ok (.iload_n 2, 1) := by decide +kernel
theorem dX0_spreadWords_35 : decode cX0_spreadWords 35 = .ok (.bipush 18, 2) := by decide +kernel
theorem dX0_spreadWords_37 : decode cX0_spreadWords 37 = .ok (.invokestatic 51, 3) := by decide +kernel
theorem dX0_spreadWords_40 : decode cX0_spreadWords 40 = .ok (.ixor, 1) := by decide +kernel
theorem dX0_spreadWords_41 : decode cX0_spreadWords 41 = .ok (.iload_n 2, 1) := by decide +kernel
theorem dX0_spreadWords_42 : decode cX0_spreadWords 42 = .ok (.iconst 3, 1) := by decide +kernel
theorem dX0_spreadWords_43 : decode cX0_spreadWords 43 = .ok (.iushr, 1) := by decide +kernel
theorem dX0_spreadWords_44 : decode cX0_spreadWords 44 = .ok (.ixor, 1) := by decide +kernel
theorem dX0_spreadWords_45 : decode cX0_spreadWords 45 = .ok (.istore 4, 2) := by decide +kernel
theorem dX0_spreadWords_47 : decode cX0_spreadWords 47 = .ok (.iload_n 3, 1) := by decide +kernel
theorem dX0_spreadWords_48 : decode cX0_spreadWords 48 = .ok (.bipush 17, 2) := by decide +kernel
theorem dX0_spreadWords_50 : decode cX0_spreadWords 50 = .ok (.invokestatic 51, 3) := by decide +kernel
theorem dX0_spreadWords_53 : decode cX0_spreadWords 53 = .ok (.iload_n 3, 1) := by decide +kernel
theorem dX0_spreadWords_54 : decode cX0_spreadWords 54 = .ok (.bipush 19, 2) := by decide +kernel
theorem dX0_spreadWords_56 : decode cX0_spreadWords 56 = .ok (.invokestatic 51, 3) := by decide +kernel
theorem dX0_spreadWords_59 : decode cX0_spreadWords 59 = .ok (.ixor, 1) := by decide +kernel
theorem dX0_spreadWords_60 : decode cX0_spreadWords 60 = .ok (.iload_n 3, 1) := by decide +kernel
theorem dX0_spreadWords_61 : decode cX0_spreadWords 61 = .ok (.bipush 10, 2) := by decide +kernel
theorem dX0_spreadWords_63 : decode cX0_spreadWords 63 = .ok (.iushr, 1) := by decide +kernel
theorem dX0_spreadWords_64 : decode cX0_spreadWords 64 = .ok (.ixor, 1) := by decide +kernel
theorem dX0_spreadWords_65 : decode cX0_spreadWords 65 = .ok (.istore 5, 2) := by decide +kernel
theorem dX0_spreadWords_67 : decode cX0_spreadWords 67 = .ok (.aload_n 0, 1) := by decide +kernel
theorem dX0_spreadWords_68 : decode cX0_spreadWords 68 = .ok (.getfield 15, 3) := by decide +kernel
theorem dX0_spreadWords_71 : decode cX0_spreadWords 71 = .ok (.iload_n 1, 1) := by decide +kernel
theorem dX0_spreadWords_72 : decode cX0_spreadWords 72 = .ok (.iload 5, 2) := by decide +kernel
theorem dX0_spreadWords_74 : decode cX0_spreadWords 74 = .ok (.aload_n 0, 1) := by decide +kernel
theorem dX0_spreadWords_75 : decode cX0_spreadWords 75 = .ok (.getfield 15, 3) := by decide +kernel
theorem dX0_spreadWords_78 : decode cX0_spreadWords 78 = .ok (.iload_n 1, 1) := by decide +kernel
theorem dX0_spreadWords_79 : decode cX0_spreadWords 79 = .ok (.bipush 7, 2) := by decide +kernel
theorem dX0_spreadWords_81 : decode cX0_spreadWords 81 = .ok (.isub, 1) := by decide +kernel
theorem dX0_spreadWords_82 : decode cX0_spreadWords 82 = .ok (.iaload, 1) := by decide +kernel
theorem dX0_spreadWords_83 : decode cX0_spreadWords 83 = .ok (.iadd, 1) := by decide +kernel
theorem dX0_spreadWords_84 : decode cX0_spreadWords 84 = .ok (.iload 4, 2) := by decide +kernel
theorem dX0_spreadWords_86 : decode cX0_spreadWords 86 = .ok (.iadd, 1) := by decide +kernel
theorem dX0_spreadWords_87 : decode cX0_spreadWords 87 = .ok (.aload_n 0, 1) := by decide +kernel
theorem dX0_spreadWords_88 : decode cX0_spreadWords 88 = .ok (.getfield 15, 3) := by decide +kernel
theorem dX0_spreadWords_91 : decode cX0_spreadWords 91 = .ok (.iload_n 1, 1) := by decide +kernel
theorem dX0_spreadWords_92 : decode cX0_spreadWords 92 = .ok (.bipush 16, 2) := by decide +kernel
theorem dX0_spreadWords_94 : decode cX0_spreadWords 94 = .ok (.isub, 1) := by decide +kernel
theorem dX0_spreadWords_95 : decode cX0_spreadWords 95 = .ok (.iaload, 1) := by decide +kernel
theorem dX0_spreadWords_96 : decode cX0_spreadWords 96 = .ok (.iadd, 1) := by decide +kernel
theorem dX0_spreadWords_97 : decode cX0_spreadWords 97 = .ok (.iastore, 1) := by decide +kernel
theorem dX0_spreadWords_98 : decode cX0_spreadWords 98 = .ok (.iinc 1 1, 3) := by decide +kernel
theorem dX0_spreadWords_101 : decode cX0_spreadWords 101 = .ok (.goto (-98), 3) := by decide +kernel
theorem dX0_spreadWords_104 : decode cX0_spreadWords 104 = .ok (.return_, 1) := by decide +kernel
set_option maxRecDepth 20000 in
theorem ggX0_mixBlock_J6_rotateRight_7cf53 : GoodIn wsX0_mixBlock wsJ6_rotateRight_7cf53 := goodIn_r _ [7] (by decide +kernel) (by decide +kernel)
set_option maxRecDepth 20000 in
theorem gX0_mixBlock_J6_rotateRight_7cf53 : GoodIn wsX0_mixBlock (va_wsS RX0 51 yJ6_rotateRight_7cf53 wsJ6_rotateRight_7cf53) := goodIn_app (goodIn_of _ (by decide +kernel)) ggX0_mixBlock_J6_rotateRight_7cf53
theorem dX0_mixBlock_0 : decode cX0_mixBlock 0 = .ok (.aload_n 0, 1) := by decide +kernel
theorem dX0_mixBlock_1 : decode cX0_mixBlock 1 = .ok (.getfield 9, 3) := by decide +kernel
theorem dX0_mixBlock_4 : decode cX0_mixBlock 4 = .ok (.iconst 0, 1) := by decide +kernel
theorem dX0_mixBlock_5 : decode cX0_mixBlock 5 = .ok (.iaload, 1) := by decide +kernel
theorem dX0_mixBlock_6 : decode cX0_mixBlock 6 = .ok (.istore_n 1, 1) := by decide +kernel
theorem dX0_mixBlock_7 : decode cX0_mixBlock 7 = .ok (.aload_n 0, 1) := by decide +kernel
theorem dX0_mixBlock_8 : decode cX0_mixBlock 8 = .ok (.getfield 9, 3) := by decide +kernel
theorem dX0_mixBlock_11 : decode cX0_mixBlock 11 = .ok (.iconst 1, 1) := by decide +kernel
theorem dX0_mixBlock_12 : decode cX0_mixBlock 12 = .ok (.iaload, 1) := by decide +kernel
theorem dX0_mixBlock_13 : decode cX0_mixBlock 13 = .ok (.istore_n 2, 1) := by decide +kernel
theorem dX0_mixBlock_14 : decode cX0_mixBlock 14 = .ok (.aload_n 0, 1) := by decide +kernel
theorem dX0_mixBlock_15 : decode cX0_mixBlock 15 = .ok (.getfield 9, 3) := by decide +kernel
theorem dX0_mixBlock_18 : decode cX0_mixBlock 18 = .ok (.iconst 2, 1) := by decide +kernel
theorem dX0_mixBlock_19 : decode cX0_mixBlock 19 = .ok (.iaload, 1) := by decide +kernel
theorem dX0_mixBlock_20 : decode cX0_mixBlock 20 = .ok (.istore_n 3, 1) := by decide +kernel
theorem dX0_mixBlock_21 : decode cX0_mixBlock 21 = .ok (.aload_n 0, 1) := by decide +kernel
theorem dX0_mixBlock_22 : decode cX0_mixBlock 22 = .ok (.getfield 9, 3) := by decide +kernel
theorem dX0_mixBlock_25 : decode cX0_mixBlock 25 = .ok (.iconst 3, 1) := by decide +kernel
theorem dX0_mixBlock_26 : decode cX0_mixBlock 26 = .ok (.iaload, 1) := by decide +kernel
theorem dX0_mixBlock_27 : decode cX0_mixBlock 27 = .ok (.istore 4, 2) := by decide +kernel
theorem dX0_mixBlock_29 : decode cX0_mixBlock 29 = .ok (.aload_n 0, 1) := by decide +kernel
theorem dX0_mixBlock_30 : decode cX0_mixBlock 30 = .ok (.getfield 9, 3) := by decide +kernel
theorem dX0_mixBlock_33 : decode cX0_mixBlock 33 = .ok (.iconst 4, 1) := by decide +kernel
theorem dX0_mixBlock_34 : decode cX0_mixBlock 34 = .ok (.iaload, 1) := by decide +kernel
theorem dX0_mixBlock_35 : decode cX0_mixBlock 35 = .ok (.istore 5, 2) := by decide +kernel
theorem dX0_mixBlock_37 : decode cX0_mixBlock 37 = .ok (.aload_n 0, 1) := by decide +kernel
theorem dX0_mixBlock_38 : decode cX0_mixBlock 38 = .ok (.getfield 9, 3) := by decide +kernel
theorem dX0_mixBlock_41 : decode cX0_mixBlock 41 = .ok (.iconst 5, 1) := by decide +kernel
theorem dX0_mixBlock_42 : decode cX0_mixBlock 42 = .ok (.iaload, 1) := by decide +kernel
theorem dX0_mixBlock_43 : decode cX0_mixBlock 43 = .ok (.istore 6, 2) := by decide +kernel
theorem dX0_mixBlock_45 : decode cX0_mixBlock 45 = .ok (.aload_n 0, 1) := by decide +kernel
theorem dX0_mixBlock_46 : decode cX0_mixBlock 46 = .ok (.getfield 9, 3) := by decide +kernel
theorem dX0_mixBlock_49 : decode cX0_mixBlock 49 = .ok (.bipush 6, 2) := by decide +kernel
theorem dX0_mixBlock_51 : decode cX0_mixBlock 51 = .ok (.iaload, 1) := by decide +kernel
theorem dX0_mixBlock_52 : decode cX0_mixBlock 52 = .ok (.istore 7, 2) := by decide +kernel
theorem dX0_mixBlock_54 : decode cX0_mixBlock 54 = .ok (.aload_n 0, 1) := by decide +kernel
theorem dX0_mixBlock_55 : decode cX0_mixBlock 55 = .ok (.getfield 9, 3) := by decide +kernel
theorem dX0_mixBlock_58 : decode cX0_mixBlock 58 = .ok (.bipush 7, 2) := by decide +kernel
theorem dX0_mixBlock_60 : decode cX0_mixBlock 60 = .ok (.iaload, 1) := by decide +kernel
theorem dX0_mixBlock_61 : decode cX0_mixBlock 61 = .ok (.istore 8, 2) := by decide +kernel
theorem dX0_mixBlock_63 : decode cX0_mixBlock 63 = .ok (.iconst 0, 1) := by decide +kernel
theorem dX0_mixBlock_64 : decode cX0_mixBlock 64 = .ok (.istore 9, 2) := by decide +kernel
theorem dX0_mixBlock_66 : decode cX0_mixBlock 66 = .ok (.iload 9, 2) := by decide +kernel
theorem dX0_mixBlock_68 : decode cX0_mixBlock 68 = .ok (.bipush 64, 2) := by decide +kernel
theorem dX0_mixBlock_70 : decode cX0_mixBlock 70 = .ok (.if_icmp .ge 139, 3) := by decide +kernel
theorem dX0_mixBlock_73 : decode cX0_mixBlock 73 = .ok (.iload 5, 2) := by decide +kernel
theorem dX0_mixBlock_75 : decode cX0_mixBlock 75 = .ok (.bipush 6, 2) := by decide +kernel
theorem dX0_mixBlock_77 : decode cX0_mixBlock 77 = .ok (.invokestatic 51, 3) := by decide +kernel
theorem dX0_mixBlock_80 : decode cX0_mixBlock 80 = .ok (.iload 5, 2) := by decide +kernel
theorem dX0_mixBlock_82 : decode cX0_mixBlock 82 = .ok (.bipush 11, 2) := by decide +kernel
theorem dX0_mixBlock_84 : decode cX0_mixBlock 84 = .ok (.invokestatic 51, 3) := by decide +kernel
theorem dX0_mixBlock_87 : decode cX0_mixBlock 87 = .ok (.ixor, 1) := by decide +kernel
theorem dX0_mixBlock_88 : decode cX0_mixBlock 88 = .ok (.iload 5, 2) := by decide +kernel
theorem dX0_mixBlock_90 : decode cX0_mixBlock 90 = .ok (.bipush 25, 2) := by decide +kernel
theorem dX0_mixBlock_92 : decode cX0_mixBlock 92 = .ok (.invokestatic 51, 3) := by decide +kernel
theorem dX0_mixBlock_95 : decode cX0_mixBlock 95 = .ok (.ixor, 1) := by decide +kernel
theorem dX0_mixBlock_96 : decode cX0_mixBlock 96 = .ok (.istore 10, 2) := by decide +kernel
theorem dX0_mixBlock_98 : decode cX0_mixBlock 98 = .ok (.iload_n 1, 1) := by decide +kernel
theorem dX0_mixBlock_99 : decode cX0_mixBlock 99 = .ok (.iconst 2, 1) := by decide +kernel
theorem dX0_mixBlock_100 : decode cX0_mixBlock 100 = .ok (.invokestatic 51, 3) := by decide +kernel
theorem dX0_mixBlock_103 : decode cX0_mixBlock 103 = .ok (.iload_n 1, 1) := by decide +kernel
theorem dX0_mixBlock_104 : decode cX0_mixBlock 104 = .ok (.bipush 13, 2) := by decide +kernel
theorem dX0_mixBlock_106 : decode cX0_mixBlock 106 = .ok (.invokestatic 51, 3) := by decide +kernel
theorem dX0_mixBlock_109 : decode cX0_mixBlock 109 = .ok (.ixor, 1) := by decide +kernel
theorem dX0_mixBlock_110 : decode cX0_mixBlock 110 = .ok (.iload_n 1, 1) := by decide +kernel
theorem dX0_mixBlock_111 : decode cX0_mixBlock 111 = .ok (.bipush 22, 2) := by decide +kernel
theorem dX0_mixBlock_113 : decode cX0_mixBlock 113 = .ok (.invokestatic 51, 3) := by decide +kernel
theorem dX0_mixBlock_116 : decode cX0_mixBlock 116 = .ok (.ixor, 1) := by decide +kernel
theorem dX0_mixBlock_117 : decode cX0_mixBlock 117 = .ok (.istore 11, 2) := by decide +kernel
theorem dX0_mixBlock_119 : decode cX0_mixBlock 119 = .ok (.iload 8, 2) := by decide +kernel
theorem dX0_mixBlock_121 : decode cX0_mixBlock 121 = .ok (.iload 10, 2) := by decide +kernel
theorem dX0_mixBlock_123 : decode cX0_mixBlock 123 = .ok (.iadd, 1) := by decide +kernel
theorem dX0_mixBlock_124 : decode cX0_mixBlock 124 = .ok (.iload 5, 2) := by decide +kernel
theorem dX0_mixBlock_126 : decode cX0_mixBlock 126 = .ok (.iload 6, 2) := by decide +kernel
theorem dX0_mixBlock_128 : decode cX0_mixBlock 128 = .ok (.iand, 1) := by decide +kernel
theorem dX0_mixBlock_129 : decode cX0_mixBlock 129 = .ok (.iload 5, 2) := by decide +kernel
theorem dX0_mixBlock_131 : decode cX0_mixBlock 131 = .ok (.iconst (-1), 1) := by decide +kernel
theorem dX0_mixBlock_132 : decode cX0_mixBlock 132 = .ok (.ixor, 1) := by decide +kernel
theorem dX0_mixBlock_133 : decode cX0_mixBlock 133 = .ok (.iload 7, 2) := by decide +kernel
theorem dX0_mixBlock_135 : decode cX0_mixBlock 135 = .ok (.iand, 1) := by decide +kernel
theorem dX0_mixBlock_136 : decode cX0_mixBlock 136 = .ok (.ixor, 1) := by decide +kernel
theorem dX0_mixBlock_137 : decode cX0_mixBlock 137 = .ok (.iadd, 1) := by decide +kernel
theorem dX0_mixBlock_138 : decode cX0_mixBlock 138 = .ok (.getstatic 57, 3) := by decide +kernel
theorem dX0_mixBlock_141 : decode cX0_mixBlock 141 = .ok (.iload 9, 2) := by decide +kernel
theorem dX0_mixBlock_143 : decode cX0_mixBlock 143 = .ok (.iaload, 1) := by decide +kernel
theorem dX0_mixBlock_144 : decode cX0_mixBlock 144 = .ok (.iadd, 1) := by decide +kernel
theorem dX0_mixBlock_145 : decode cX0_mixBlock 145 = .ok (.aload_n 0, 1) := by decide +kernel
theorem dX0_mixBlock_146 : decode cX0_mixBlock 146 = .ok (.getfield 15, 3) := by decide +kernel
theorem dX0_mixBlock_149 : decode cX0_mixBlock 149 = .ok (.iload 9, 2) := by decide +kernel
theorem dX0_mixBlock_151 : decode cX0_mixBlock 151 = .ok (.iaload, 1) := by decide +kernel
theorem dX0_mixBlock_152 : decode cX0_mixBlock 152 = .ok (.iadd, 1) := by decide +kernel
theorem dX0_mixBlock_153 : decode cX0_mixBlock 153 = .ok (.istore 12, 2) := by decide +kernel
theorem dX0_mixBlock_155 : decode cX0_mixBlock 155 = .ok (.iload 11, 2) := by decide +kernel
theorem dX0_mixBlock_157 : decode cX0_mixBlock 157 = .ok (.iload_n 1, 1) := by decide +kernel
theorem dX0_mixBlock_158 : decode cX0_mixBlock 158 = .ok (.iload_n 2, 1) := by decide +kernel
theorem dX0_mixBlock_159 : decode cX0_mixBlock 159 = .ok (.iand, 1) := by decide +kernel
theorem dX0_mixBlock_160 : decode cX0_mixBlock 160 = .ok (.iload_n 1, 1) := by decide +kernel
theorem dX0_mixBlock_161 : decode cX0_mixBlock 161 = .ok (.iload_n 3, 1) := by decide +kernel
theorem dX0_mixBlock_162 : decode cX0_mixBlock 162 = .ok (.iand, 1) := by decide +kernel
theorem dX0_mixBlock_163 : decode cX0_mixBlock 163 = .ok (.ixor, 1) := by decide +kernel
theorem dX0_mixBlock_164 : decode cX0_mixBlock 164 = .ok (.iload_n 2, 1) := by decide +kernel
theorem dX0_mixBlock_165 : decode cX0_mixBlock 165 = .ok (.iload_n 3, 1) := by decide +kernel
theorem dX0_mixBlock_166 : decode cX0_mixBlock 166 = .ok (.iand, 1) := by decide +kernel
theorem dX0_mixBlock_167 : decode cX0_mixBlock 167 = .ok (.ixor, 1) := by decide +kernel
theorem dX0_mixBlock_168 : decode cX0_mixBlock 168 = .ok (.iadd, 1) := by decide +kernel
theorem dX0_mixBlock_169 : decode cX0_mixBlock 169 = .ok (.istore 13, 2) := by decide +kernel
theorem dX0_mixBlock_171 : decode cX0_mixBlock 171 = .ok (.iload 7, 2) := by decide +kernel
theorem dX0_mixBlock_173 : decode cX0_mixBlock 173 = .ok (.istore 8, 2) := by decide +kernel
theorem dX0_mixBlock_175 : decode cX0_mixBlock 175 = .ok (.iload 6, 2) := by decide +kernel
theorem dX0_mixBlock_177 : decode cX0_mixBlock 177 = .ok (.istore 7, 2) := by decide +kernel
theorem dX0_mixBlock_179 : decode cX0_mixBlock 179 = .ok (.iload 5, 2) := by decide +kernel
theorem dX0_mixBlock_181 : decode cX0_mixBlock 181 = .ok (.istore 6, 2) := by decide +kernel
theorem dX0_mixBlock_183 : decode cX0_mixBlock 183 = .ok (.iload 4, 2) := by decide +kernel
theorem dX0_mixBlock_185 : decode cX0_mixBlock 185 = .ok (.iload 12, 2) := by decide +kernel
theorem dX0_mixBlock_187 : decode cX0_mixBlock 187 = .ok (.iadd, 1) := by decide +kernel
theorem dX0_mixBlock_188 : decode cX0_mixBlock 188 = .ok (.istore 5, 2) := by decide +kernel
theorem dX0_mixBlock_190 : decode cX0_mixBlock 190 = .ok (.iload_n 3, 1) := by decide +kernel
theorem dX0_mixBlock_191 : decode cX0_mixBlock 191 = .ok (.istore 4, 2) := by decide +kernel
theorem dX0_mixBlock_193 : decode cX0_mixBlock 193 = .ok (.iload_n 2, 1) := by decide +kernel
theorem dX0_mixBlock_194 : decode cX0_mixBlock 194 = .ok (.istore_n 3, 1) := by decide +kernel
theorem dX0_mixBlock_195 : decode cX0_mixBlock 195 = .ok (.iload_n 1, 1) := by decide +kernel
theorem dX0_mixBlock_196 : decode cX0_mixBlock 196 = .ok (.istore_n 2, 1) := by decide +kernel
theorem dX0_mixBlock_197 : decode cX0_mixBlock 197 = .ok (.iload 12, 2) := by decide +kernel
theorem dX0_mixBlock_199 : decode cX0_mixBlock 199 = .ok (.iload 13, 2) := by decide +kernel
theorem dX0_mixBlock_201 : decode cX0_mixBlock 201 = .ok (.iadd, 1) := by decide +kernel
theorem dX0_mixBlock_202 : decode cX0_mixBlock 202 = .ok (.istore_n 1, 1) := by decide +kernel
theorem dX0_mixBlock_203 : decode cX0_mixBlock 203 = .ok (.iinc 9 1, 3) := by decide +kernel
theorem dX0_mixBlock_206 : decode cX0_mixBlock 206 = .ok (.goto (-140), 3) := by decide +kernel
theorem dX0_mixBlock_209 : decode cX0_mixBlock 209 = .ok (.aload_n 0, 1) := by decide +kernel
theorem dX0_mixBlock_210 : decode cX0_mixBlock 210 = .ok (.getfield 9, 3) := by decide +kernel
theorem dX0_mixBlock_213 : decode cX0_mixBlock 213 = .ok (.iconst 0, 1) := by decide +kernel
theorem dX0_mixBlock_214 : decode cX0_mixBlock 214 = .ok (.dup2, 1) := by decide +kernel
theorem dX0_mixBlock_215 : decode cX0_mixBlock 215 = .ok (.iaload, 1) := by decide +kernel
theorem dX0_mixBlock_216 : decode cX0_mixBlock 216 = .ok (.iload_n 1, 1) := by decide +kernel
theorem dX0_mixBlock_217 : decode cX0_mixBlock 217 = .ok (.iadd, 1) := by decide +kernel
theorem dX0_mixBlock_218 : decode cX0_mixBlock 218 = .ok (.iastore, 1) := by decide +kernel
theorem dX0_mixBlock_219 : decode cX0_mixBlock 219 = .ok (.aload_n 0, 1) := by decide +kernel
theorem dX0_mixBlock_220 : decode cX0_mixBlock 220 = .ok (.getfield 9, 3) := by decide +kernel
theorem dX0_mixBlock_223 : decode cX0_mixBlock 223 = .ok (.iconst 1, 1) := by decide +kernel
theorem dX0_mixBlock_224 : decode cX0_mixBlock 224 = .ok (.dup2, 1) := by decide +kernel
theorem dX0_mixBlock_225 : decode cX0_mixBlock 225 = .ok (.iaload, 1) := by decide +kernel
theorem dX0_mixBlock_226 : decode cX0_mixBlock 226 = .ok (.iload_n 2, 1) := by decide +kernel
theorem dX0_mixBlock_227 : decode cX0_mixBlock 227 = .ok (.iadd, 1) := by decide +kernel
theorem dX0_mixBlock_228 : decode cX0_mixBlock 228 = .ok (.iastore, 1) := by decide +kernel
theorem dX0_mixBlock_229 : decode cX0_mixBlock 229 = .ok (.aload_n 0, 1) := by decide +kernel
theorem dX0_mixBlock_230 : decode cX0_mixBlock 230 = .ok (.getfield 9, 3) := by decide +kernel
theorem dX0_mixBlock_233 : decode cX0_mixBlock 233 = .ok (.iconst 2, 1) := by decide +kernel
theorem dX0_mixBlock_234 : decode cX0_mixBlock 234 = .ok (.dup2, 1) := by decide +kernel
theorem dX0_mixBlock_235 : decode cX0_mixBlock 235 = .ok (.iaload, 1) := by decide +kernel
theorem dX0_mixBlock_236 : decode cX0_mixBlock 236 = .ok (.iload_n 3, 1) := by decide +kernel
theorem dX0_mixBlock_237 : decode cX0_mixBlock 237 = .ok (.iadd, 1) := by decide +kernel
theorem dX0_mixBlock_238 : decode cX0_mixBlock 238 = .ok (.iastore, 1) := by decide +kernel
theorem dX0_mixBlock_239 : decode cX0_mixBlock 239 = .ok (.aload_n 0, 1) := by decide +kernel
theorem dX0_mixBlock_240 : decode cX0_mixBlock 240 = .ok (.getfield 9, 3) := by decide +kernel
theorem dX0_mixBlock_243 : decode cX0_mixBlock 243 = .ok (.iconst 3, 1) := by decide +kernel
theorem dX0_mixBlock_244 : decode cX0_mixBlock 244 = .ok (.dup2, 1) := by decide +kernel
theorem dX0_mixBlock_245 : decode cX0_mixBlock 245 = .ok (.iaload, 1) := by decide +kernel
theorem dX0_mixBlock_246 : decode cX0_mixBlock 246 = .ok (.iload 4, 2) := by decide +kernel
theorem dX0_mixBlock_248 : decode cX0_mixBlock 248 = .ok (.iadd, 1) := by decide +kernel
theorem dX0_mixBlock_249 : decode cX0_mixBlock 249 = .ok (.iastore, 1) := by decide +kernel
theorem dX0_mixBlock_250 : decode cX0_mixBlock 250 = .ok (.aload_n 0, 1) := by decide +kernel
theorem dX0_mixBlock_251 : decode cX0_mixBlock 251 = .ok (.getfield 9, 3) := by decide +kernel
theorem dX0_mixBlock_254 : decode cX0_mixBlock 254 = .ok (.iconst 4, 1) := by decide +kernel
theorem dX0_mixBlock_255 : decode cX0_mixBlock 255 = .ok (.dup2, 1) := by decide +kernel
theorem dX0_mixBlock_256 : decode cX0_mixBlock 256 = .ok (.iaload, 1) := by decide +kernel
theorem dX0_mixBlock_257 : decode cX0_mixBlock 257 = .ok (.iload 5, 2) := by decide +kernel
theorem dX0_mixBlock_259 : decode cX0_mixBlock 259 = .ok (.iadd, 1) := by decide +kernel
theorem dX0_mixBlock_260 : decode cX0_mixBlock 260 = .ok (.iastore, 1) := by decide +kernel
theorem dX0_mixBlock_261 : decode cX0_mixBlock 261 = .ok (.aload_n 0, 1) := by decide +kernel
theorem dX0_mixBlock_262 : decode cX0_mixBlock 262 = .ok (.getfield 9, 3) := by decide +kernel
theorem dX0_mixBlock_265 : decode cX0_mixBlock 265 = .ok (.iconst 5, 1) := by decide +kernel
theorem dX0_mixBlock_266 : decode cX0_mixBlock 266 = .ok (.dup2, 1) := by decide +kernel
theorem dX0_mixBlock_267 : decode cX0_mixBlock 267 = .ok (.iaload, 1) := by decide +kernel
theorem dX0_mixBlock_268 : decode cX0_mixBlock 268 = .ok (.iload 6, 2) := by decide +kernel
theorem dX0_mixBlock_270 : decode cX0_mixBlock 270 = .ok (.iadd, 1) := by decide +kernel
theorem dX0_mixBlock_271 : decode cX0_mixBlock 271 = .ok (.iastore, 1) := by decide +kernel
theorem dX0_mixBlock_272 : decode cX0_mixBlock 272 = .ok (.aload_n 0, 1) := by decide +kernel
theorem dX0_mixBlock_273 : decode cX0_mixBlock 273 = .ok (.getfield 9, 3) := by decide +kernel
theorem dX0_mixBlock_276 : decode cX0_mixBlock 276 = .ok (.bipush 6, 2) := by decide +kernel
theorem dX0_mixBlock_278 : decode cX0_mixBlock 278 = .ok (.dup2, 1) := by decide +kernel
theorem dX0_mixBlock_279 : decode cX0_mixBlock 279 = .ok (.iaload, 1) := by decide +kernel
theorem dX0_mixBlock_280 : decode cX0_mixBlock 280 = .ok (.iload 7, 2) := by decide +kernel
theorem dX0_mixBlock_282 : decode cX0_mixBlock 282 = .ok (.iadd, 1) := by decide +kernel
theorem dX0_mixBlock_283 : decode cX0_mixBlock 283 = .ok (.iastore, 1) := by decide +kernel
theorem dX0_mixBlock_284 : decode cX0_mixBlock 284 = .ok (.aload_n 0, 1) := by decide +kernel
theorem dX0_mixBlock_285 : decode cX0_mixBlock 285 = .ok (.getfield 9, 3) := by decide +kernel
theorem dX0_mixBlock_288 : decode cX0_mixBlock 288 = .ok (.bipush 7, 2) := by decide +kernel
theorem dX0_mixBlock_290 : decode cX0_mixBlock 290 = .ok (.dup2, 1) := by decide +kernel
theorem dX0_mixBlock_291 : decode cX0_mixBlock 291 = .ok (.iaload, 1) := by decide +kernel
theorem dX0_mixBlock_292 : decode cX0_mixBlock 292 = .ok (.iload 8, 2) := by decide +kernel
theorem dX0_mixBlock_294 : decode cX0_mixBlock 294 = .ok (.iadd, 1) := by decide +kernel
theorem dX0_mixBlock_295 : decode cX0_mixBlock 295 = .ok (.iastore, 1) := by decide +kernel
theorem dX0_mixBlock_296 : decode cX0_mixBlock 296 = .ok (.return_, 1) := by decide +kernel
theorem dJx00060_init_a7421_0 : decode cJx00060_init_a7421 0 = .ok (.aload_n 0, 1) := by decide +kernel
theorem dJx00060_init_a7421_1 : decode cJx00060_init_a7421 1 = .ok (.aload_n 1, 1) := by decide +kernel
theorem dJx00060_init_a7421_2 : decode cJx00060_init_a7421 2 = .ok (.invokespecial 7, 3) := by decide +kernel
theorem dJx00060_init_a7421_5 : decode cJx00060_init_a7421 5 = .ok (.return_, 1) := by decide +kernel
theorem dJ6_rotateLeft_7cf53_0 : decode cJ6_rotateLeft_7cf53 0 = .ok (.iload_n 0, 1) := by decide +kernel
theorem dJ6_rotateLeft_7cf53_1 : decode cJ6_rotateLeft_7cf53 1 = .ok (.iload_n 1, 1) := by decide +kernel
theorem dJ6_rotateLeft_7cf53_2 : decode cJ6_rotateLeft_7cf53 2 = .ok (.ishl, 1) := by decide +kernel
theorem dJ6_rotateLeft_7cf53_3 : decode cJ6_rotateLeft_7cf53 3 = .ok (.iload_n 0, 1) := by decide +kernel
theorem dJ6_rotateLeft_7cf53_4 : decode cJ6_rotateLeft_7cf53 4 = .ok (.iload_n 1, 1) := by decide +kernel
theorem dJ6_rotateLeft_7cf53_5 : decode cJ6_rotateLeft_7cf53 5 = .ok (.ineg, 1) := by decide +kernel
theorem dJ6_rotateLeft_7cf53_6 : decode cJ6_rotateLeft_7cf53 6 = .ok (.iushr, 1) := by decide +kernel
theorem dJ6_rotateLeft_7cf53_7 : decode cJ6_rotateLeft_7cf53 7 = .ok (.ior, 1) := by decide +kernel
theorem dJ6_rotateLeft_7cf53_8 : decode cJ6_rotateLeft_7cf53 8 = .ok (.ireturn, 1) := by decide +kernel
theorem dJ6_rotateRight_7cf53_0 : decode cJ6_rotateRight_7cf53 0 = .ok (.iload_n 0, 1) := by decide +kernel
theorem dJ6_rotateRight_7cf53_1 : decode cJ6_rotateRight_7cf53 1 = .ok (.iload_n 1, 1) := by decide +kernel
theorem dJ6_rotateRight_7cf53_2 : decode cJ6_rotateRight_7cf53 2 = .ok (.iushr, 1) := by decide +kernel
theorem dJ6_rotateRight_7cf53_3 : decode cJ6_rotateRight_7cf53 3 = .ok (.iload_n 0, 1) := by decide +kernel
theorem dJ6_rotateRight_7cf53_4 : decode cJ6_rotateRight_7cf53 4 = .ok (.iload_n 1, 1) := by decide +kernel
theorem dJ6_rotateRight_7cf53_5 : decode cJ6_rotateRight_7cf53 5 = .ok (.ineg, 1) := by decide +kernel
theorem dJ6_rotateRight_7cf53_6 : decode cJ6_rotateRight_7cf53 6 = .ok (.ishl, 1) := by decide +kernel
theorem dJ6_rotateRight_7cf53_7 : decode cJ6_rotateRight_7cf53 7 = .ok (.ior, 1) := by decide +kernel
theorem dJ6_rotateRight_7cf53_8 : decode cJ6_rotateRight_7cf53 8 = .ok (.ireturn, 1) := by decide +kernel
theorem dJ7_fill_d0a16_0 : decode cJ7_fill_d0a16 0 = .ok (.iconst 0, 1) := by decide +kernel
theorem dJ7_fill_d0a16_1 : decode cJ7_fill_d0a16 1 = .ok (.istore_n 3, 1) := by decide +kernel
theorem dJ7_fill_d0a16_2 : decode cJ7_fill_d0a16 2 = .ok (.aload_n 0, 1) := by decide +kernel
theorem dJ7_fill_d0a16_3 : decode cJ7_fill_d0a16 3 = .ok (.arraylength, 1) := by decide +kernel
theorem dJ7_fill_d0a16_4 : decode cJ7_fill_d0a16 4 = .ok (.istore 4, 2) := by decide +kernel
theorem dJ7_fill_d0a16_6 : decode cJ7_fill_d0a16 6 = .ok (.iload_n 3, 1) := by decide +kernel
theorem dJ7_fill_d0a16_7 : decode cJ7_fill_d0a16 7 = .ok (.iload 4, 2) := by decide +kernel
theorem dJ7_fill_d0a16_9 : decode cJ7_fill_d0a16 9 = .ok (.if_icmp .ge 13, 3) := by decide +kernel
theorem dJ7_fill_d0a16_12 : decode cJ7_fill_d0a16 12 = .ok (.aload_n 0, 1) := by decide +kernel
theorem dJ7_fill_d0a16_13 : decode cJ7_fill_d0a16 13 = .ok (.iload_n 3, 1) := by decide +kernel
theorem dJ7_fill_d0a16_14 : decode cJ7_fill_d0a16 14 = .ok (.lload_n 1, 1) := by decide +kernel
theorem dJ7_fill_d0a16_15 : decode cJ7_fill_d0a16 15 = .ok (.lastore, 1) := by decide +kernel
theorem dJ7_fill_d0a16_16 : decode cJ7_fill_d0a16 16 = .ok (.iinc 3 1, 3) := by decide +kernel
theorem dJ7_fill_d0a16_19 : decode cJ7_fill_d0a16 19 = .ok (.goto (-13), 3) := by decide +kernel
theorem dJ7_fill_d0a16_22 : decode cJ7_fill_d0a16 22 = .ok (.return_, 1) := by decide +kernel
theorem dJ7_fill_53178_0 : decode cJ7_fill_53178 0 = .ok (.iconst 0, 1) := by decide +kernel
theorem dJ7_fill_53178_1 : decode cJ7_fill_53178 1 = .ok (.istore_n 2, 1) := by decide +kernel
theorem dJ7_fill_53178_2 : decode cJ7_fill_53178 2 = .ok (.aload_n 0, 1) := by decide +kernel
theorem dJ7_fill_53178_3 : decode cJ7_fill_53178 3 = .ok (.arraylength, 1) := by decide +kernel
theorem dJ7_fill_53178_4 : decode cJ7_fill_53178 4 = .ok (.istore_n 3, 1) := by decide +kernel
theorem dJ7_fill_53178_5 : decode cJ7_fill_53178 5 = .ok (.iload_n 2, 1) := by decide +kernel
theorem dJ7_fill_53178_6 : decode cJ7_fill_53178 6 = .ok (.iload_n 3, 1) := by decide +kernel
theorem dJ7_fill_53178_7 : decode cJ7_fill_53178 7 = .ok (.if_icmp .ge 13, 3) := by decide +kernel
theorem dJ7_fill_53178_10 : decode cJ7_fill_53178 10 = .ok (.aload_n 0, 1) := by decide +kernel
theorem dJ7_fill_53178_11 : decode cJ7_fill_53178 11 = .ok (.iload_n 2, 1) := by decide +kernel
theorem dJ7_fill_53178_12 : decode cJ7_fill_53178 12 = .ok (.iload_n 1, 1) := by decide +kernel
theorem dJ7_fill_53178_13 : decode cJ7_fill_53178 13 = .ok (.iastore, 1) := by decide +kernel
theorem dJ7_fill_53178_14 : decode cJ7_fill_53178 14 = .ok (.iinc 2 1, 3) := by decide +kernel
theorem dJ7_fill_53178_17 : decode cJ7_fill_53178 17 = .ok (.goto (-12), 3) := by decide +kernel
theorem dJ7_fill_53178_20 : decode cJ7_fill_53178 20 = .ok (.return_, 1) := by decide +kernel
