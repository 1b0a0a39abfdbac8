theorem dX2_init_0 : decode cX2_init 0 = .ok (.aload_n 0, 1) := by decide +kernel
theorem dX2_init_1 : decode cX2_init 1 = .ok (.invokespecial 3, 3) := by decide +kernel
theorem dX2_init_4 : decode cX2_init 4 = .ok (.aload_n 0, 1) := by decide +kernel
theorem dX2_init_5 : decode cX2_init 5 = .ok (.bipush 63, 2) := by decide +kernel
theorem dX2_init_7 : decode cX2_init 7 = .ok (.newarray .int, 2) := by decide +kernel
theorem dX2_init_9 : decode cX2_init 9 = .ok (.putfield 9, 3) := by decide +kernel
theorem dX2_init_12 : decode cX2_init 12 = .ok (.aload_n 0, 1) := by decide +kernel
theorem dX2_init_13 : decode cX2_init 13 = .ok (.bipush 63, 2) := by decide +kernel
theorem dX2_init_15 : decode cX2_init 15 = .ok (.newarray .int, 2) := by decide +kernel
theorem dX2_init_17 : decode cX2_init 17 = .ok (.putfield 15, 3) := by decide +kernel
theorem dX2_init_20 : decode cX2_init 20 = .ok (.aload_n 0, 1) := by decide +kernel
theorem dX2_init_21 : decode cX2_init 21 = .ok (.bipush 63, 2) := by decide +kernel
theorem dX2_init_23 : decode cX2_init 23 = .ok (.newarray .long, 2) := by decide +kernel
theorem dX2_init_25 : decode cX2_init 25 = .ok (.putfield 18, 3) := by decide +kernel
theorem dX2_init_28 : decode cX2_init 28 = .ok (.aload_n 0, 1) := by decide +kernel
theorem dX2_init_29 : decode cX2_init 29 = .ok (.bipush 63, 2) := by decide +kernel
theorem dX2_init_31 : decode cX2_init 31 = .ok (.newarray .int, 2) := by decide +kernel
theorem dX2_init_33 : decode cX2_init 33 = .ok (.putfield 22, 3) := by decide +kernel
theorem dX2_init_36 : decode cX2_init 36 = .ok (.aload_n 0, 1) := by decide +kernel
theorem dX2_init_37 : decode cX2_init 37 = .ok (.sipush 256, 3) := by decide +kernel
theorem dX2_init_40 : decode cX2_init 40 = .ok (.newarray .int, 2) := by decide +kernel
theorem dX2_init_42 : decode cX2_init 42 = .ok (.putfield 25, 3) := by decide +kernel
theorem dX2_init_45 : decode cX2_init 45 = .ok (.aload_n 0, 1) := by decide +kernel
theorem dX2_init_46 : decode cX2_init 46 = .ok (.sipush 256, 3) := by decide +kernel
theorem dX2_init_49 : decode cX2_init 49 = .ok (.newarray .int, 2) := by decide +kernel
theorem dX2_init_51 : decode cX2_init 51 = .ok (.putfield 28, 3) := by decide +kernel
theorem dX2_init_54 : decode cX2_init 54 = .ok (.aload_n 0, 1) := by decide +kernel
theorem dX2_init_55 : decode cX2_init 55 = .ok (.sipush 256, 3) := by decide +kernel
theorem dX2_init_58 : decode cX2_init 58 = .ok (.newarray .long, 2) := by decide +kernel
theorem dX2_init_60 : decode cX2_init 60 = .ok (.putfield 31, 3) := by decide +kernel
theorem dX2_init_63 : decode cX2_init 63 = .ok (.aload_n 0, 1) := by decide +kernel
theorem dX2_init_64 : decode cX2_init 64 = .ok (.iconst 2, 1) := by decide +kernel
theorem dX2_init_65 : decode cX2_init 65 = .ok (.putfield 34, 3) := by decide +kernel
theorem dX2_init_68 : decode cX2_init 68 = .ok (.return_, 1) := by decide +kernel
set_option maxRecDepth 20000 in
theorem ggX2_clear_J7_fill_53178 : GoodIn wsX2_clear wsJ7_fill_53178 := goodIn_r _ [10] (by decide +kernel) (by decide +kernel)
set_option maxRecDepth 20000 in
theorem gX2_clear_J7_fill_53178 : GoodIn wsX2_clear (va_wsS RX2 38 yJ7_fill_53178 wsJ7_fill_53178) := goodIn_app (goodIn_of _ (by decide +kernel)) ggX2_clear_J7_fill_53178
set_option maxRecDepth 20000 in
theorem ggX2_clear_J7_fill_d0a16 : GoodIn wsX2_clear wsJ7_fill_d0a16 := goodIn_r _ [13] (by decide +kernel) (by decide +kernel)
set_option maxRecDepth 20000 in
theorem gX2_clear_J7_fill_d0a16 : GoodIn wsX2_clear (va_wsS RX2 44 yJ7_fill_d0a16 wsJ7_fill_d0a16) := goodIn_app (goodIn_of _ (by decide +kernel)) ggX2_clear_J7_fill_d0a16
theorem dX2_clear_0 : decode cX2_clear 0 = .ok (.aload_n 0, 1) := by decide +kernel
theorem dX2_clear_1 : decode cX2_clear 1 = .ok (.getfield 9, 3) := by decide +kernel
theorem dX2_clear_4 : decode cX2_clear 4 = .ok (.iconst 0, 1) := by decide +kernel
theorem dX2_clear_5 : decode cX2_clear 5 = .ok (.invokestatic 38, 3) := by decide +kernel
theorem dX2_clear_8 : decode cX2_clear 8 = .ok (.aload_n 0, 1) := by decide +kernel
theorem dX2_clear_9 : decode cX2_clear 9 = .ok (.getfield 15, 3) := by decide +kernel
theorem dX2_clear_12 : decode cX2_clear 12 = .ok (.iconst 0, 1) := by decide +kernel
theorem dX2_clear_13 : decode cX2_clear 13 = .ok (.invokestatic 38, 3) := by decide +kernel
theorem dX2_clear_16 : decode cX2_clear 16 = .ok (.aload_n 0, 1) := by decide +kernel
theorem dX2_clear_17 : decode cX2_clear 17 = .ok (.getfield 18, 3) := by decide +kernel
theorem dX2_clear_20 : decode cX2_clear 20 = .ok (.lconst 0, 1) := by decide +kernel
theorem dX2_clear_21 : decode cX2_clear 21 = .ok (.invokestatic 44, 3) := by decide +kernel
theorem dX2_clear_24 : decode cX2_clear 24 = .ok (.aload_n 0, 1) := by decide +kernel
theorem dX2_clear_25 : decode cX2_clear 25 = .ok (.getfield 22, 3) := by decide +kernel
theorem dX2_clear_28 : decode cX2_clear 28 = .ok (.iconst 0, 1) := by decide +kernel
theorem dX2_clear_29 : decode cX2_clear 29 = .ok (.invokestatic 38, 3) := by decide +kernel
theorem dX2_clear_32 : decode cX2_clear 32 = .ok (.aload_n 0, 1) := by decide +kernel
theorem dX2_clear_33 : decode cX2_clear 33 = .ok (.iload_n 1, 1) := by decide +kernel
theorem dX2_clear_34 : decode cX2_clear 34 = .ok (.iconst 3, 1) := by decide +kernel
theorem dX2_clear_35 : decode cX2_clear 35 = .ok (.idiv, 1) := by decide +kernel
theorem dX2_clear_36 : decode cX2_clear 36 = .ok (.putfield 34, 3) := by decide +kernel
theorem dX2_clear_39 : decode cX2_clear 39 = .ok (.aload_n 0, 1) := by decide +kernel
theorem dX2_clear_40 : decode cX2_clear 40 = .ok (.iconst 0, 1) := by decide +kernel
theorem dX2_clear_41 : decode cX2_clear 41 = .ok (.putfield 47, 3) := by decide +kernel
theorem dX2_clear_44 : decode cX2_clear 44 = .ok (.return_, 1) := by decide +kernel
theorem dX2_foundSize_0 : decode cX2_foundSize 0 = .ok (.aload_n 0, 1) := by decide +kernel
theorem dX2_foundSize_1 : decode cX2_foundSize 1 = .ok (.getfield 47, 3) := by decide +kernel
theorem dX2_foundSize_4 : decode cX2_foundSize 4 = .ok (.ireturn, 1) := by decide +kernel
theorem dX2_hasFound_0 : decode cX2_hasFound 0 = .ok (.iload_n 1, 1) := by decide +kernel
theorem dX2_hasFound_1 : decode cX2_hasFound 1 = .ok (.ifCond .lt 22, 3) := by decide +kernel
theorem dX2_hasFound_4 : decode cX2_hasFound 4 = .ok (.iload_n 1, 1) := by decide +kernel
theorem dX2_hasFound_5 : decode cX2_hasFound 5 = .ok (.aload_n 0, 1) := by decide +kernel
theorem dX2_hasFound_6 : decode cX2_hasFound 6 = .ok (.getfield 47, 3) := by decide +kernel
theorem dX2_hasFound_9 : decode cX2_hasFound 9 = .ok (.if_icmp .ge 14, 3) := by decide +kernel
theorem dX2_hasFound_12 : decode cX2_hasFound 12 = .ok (.iload_n 1, 1) := by decide +kernel
theorem dX2_hasFound_13 : decode cX2_hasFound 13 = .ok (.sipush 256, 3) := by decide +kernel
theorem dX2_hasFound_16 : decode cX2_hasFound 16 = .ok (.if_icmp .ge 7, 3) := by decide +kernel
theorem dX2_hasFound_19 : decode cX2_hasFound 19 = .ok (.iconst 1, 1) := by decide +kernel
theorem dX2_hasFound_20 : decode cX2_hasFound 20 = .ok (.goto 4, 3) := by decide +kernel
theorem dX2_hasFound_23 : decode cX2_hasFound 23 = .ok (.iconst 0, 1) := by decide +kernel
theorem dX2_hasFound_24 : decode cX2_hasFound 24 = .ok (.ireturn, 1) := by decide +kernel
theorem dX2_valueFound_0 : decode cX2_valueFound 0 = .ok (.aload_n 0, 1) := by decide +kernel
theorem dX2_valueFound_1 : decode cX2_valueFound 1 = .ok (.getfield 31, 3) := by decide +kernel
theorem dX2_valueFound_4 : decode cX2_valueFound 4 = .ok (.iload_n 1, 1) := by decide +kernel
theorem dX2_valueFound_5 : decode cX2_valueFound 5 = .ok (.laload, 1) := by decide +kernel
theorem dX2_valueFound_6 : decode cX2_valueFound 6 = .ok (.lreturn, 1) := by decide +kernel
set_option maxRecDepth 20000 in
theorem ggX2_foundPart_X2_hasFound : GoodIn wsX2_foundPart wsX2_hasFound := goodIn_r _ [7, 8, 14, 15, 16, 17, 18, 19, 20, 21, 22] (by decide +kernel) (by decide +kernel)
set_option maxRecDepth 20000 in
theorem gX2_foundPart_X2_hasFound : GoodIn wsX2_foundPart (wsV RX2 50 RX2 yX2_hasFound wsX2_hasFound) := goodIn_app (goodIn_of _ (by decide +kernel)) ggX2_foundPart_X2_hasFound
set_option maxRecDepth 20000 in
theorem ggX2_foundPart_X4_nodeOf : GoodIn wsX2_foundPart wsX4_nodeOf := goodIn_r _ [11] (by decide +kernel) (by decide +kernel)
set_option maxRecDepth 20000 in
theorem gX2_foundPart_X4_nodeOf_n54 : GoodIn wsX2_foundPart (wsX4_nodeOf) := ggX2_foundPart_X4_nodeOf
set_option maxRecDepth 20000 in
theorem ggX2_foundPart_X4_numberOf : GoodIn wsX2_foundPart wsX4_numberOf := goodIn_r _ [13] (by decide +kernel) (by decide +kernel)
set_option maxRecDepth 20000 in
theorem gX2_foundPart_X4_numberOf_n58 : GoodIn wsX2_foundPart (wsX4_numberOf) := ggX2_foundPart_X4_numberOf
theorem dX2_foundPart_0 : decode cX2_foundPart 0 = .ok (.aload_n 0, 1) := by decide +kernel
theorem dX2_foundPart_1 : decode cX2_foundPart 1 = .ok (.iload_n 1, 1) := by decide +kernel
theorem dX2_foundPart_2 : decode cX2_foundPart 2 = .ok (.invokevirtual 50, 3) := by decide +kernel
theorem dX2_foundPart_5 : decode cX2_foundPart 5 = .ok (.ifCond .ne 5, 3) := by decide +kernel
theorem dX2_foundPart_8 : decode cX2_foundPart 8 = .ok (.iconst (-1), 1) := by decide +kernel
theorem dX2_foundPart_9 : decode cX2_foundPart 9 = .ok (.ireturn, 1) := by decide +kernel
theorem dX2_foundPart_10 : decode cX2_foundPart 10 = .ok (.iload_n 2, 1) := by decide +kernel
theorem dX2_foundPart_11 : decode cX2_foundPart 11 = .ok (.tableswitch 52 0 2 #[25, 32, 42], 25) := by decide +kernel
theorem dX2_foundPart_36 : decode cX2_foundPart 36 = .ok (.aload_n 0, 1) := by decide +kernel
theorem dX2_foundPart_37 : decode cX2_foundPart 37 = .ok (.getfield 25, 3) := by decide +kernel
theorem dX2_foundPart_40 : decode cX2_foundPart 40 = .ok (.iload_n 1, 1) := by decide +kernel
theorem dX2_foundPart_41 : decode cX2_foundPart 41 = .ok (.iaload, 1) := by decide +kernel
theorem dX2_foundPart_42 : decode cX2_foundPart 42 = .ok (.ireturn, 1) := by decide +kernel
theorem dX2_foundPart_43 : decode cX2_foundPart 43 = .ok (.aload_n 0, 1) := by decide +kernel
theorem dX2_foundPart_44 : decode cX2_foundPart 44 = .ok (.getfield 28, 3) := by decide +kernel
theorem dX2_foundPart_47 : decode cX2_foundPart 47 = .ok (.iload_n 1, 1) := by decide +kernel
theorem dX2_foundPart_48 : decode cX2_foundPart 48 = .ok (.iaload, 1) := by decide +kernel
theorem dX2_foundPart_49 : decode cX2_foundPart 49 = .ok (.invokestatic 54, 3) := by decide +kernel
theorem dX2_foundPart_52 : decode cX2_foundPart 52 = .ok (.ireturn, 1) := by decide +kernel
theorem dX2_foundPart_53 : decode cX2_foundPart 53 = .ok (.aload_n 0, 1) := by decide +kernel
theorem dX2_foundPart_54 : decode cX2_foundPart 54 = .ok (.getfield 28, 3) := by decide +kernel
theorem dX2_foundPart_57 : decode cX2_foundPart 57 = .ok (.iload_n 1, 1) := by decide +kernel
theorem dX2_foundPart_58 : decode cX2_foundPart 58 = .ok (.iaload, 1) := by decide +kernel
theorem dX2_foundPart_59 : decode cX2_foundPart 59 = .ok (.invokestatic 58, 3) := by decide +kernel
theorem dX2_foundPart_62 : decode cX2_foundPart 62 = .ok (.ireturn, 1) := by decide +kernel
theorem dX2_foundPart_63 : decode cX2_foundPart 63 = .ok (.iconst (-1), 1) := by decide +kernel
theorem dX2_foundPart_64 : decode cX2_foundPart 64 = .ok (.ireturn, 1) := by decide +kernel
set_option maxRecDepth 20000 in
theorem ggX2_turn_X2_hash : GoodIn wsX2_turn wsX2_hash := goodIn_r _ [8, 9, 10, 11, 12, 13, 14, 15, 16, 17, 18, 19, 20, 21, 22, 23, 24, 25] (by decide +kernel) (by decide +kernel)
set_option maxRecDepth 20000 in
theorem gX2_turn_X2_hash : GoodIn wsX2_turn (va_wsS RX2 61 yX2_hash wsX2_hash) := goodIn_app (goodIn_of _ (by decide +kernel)) ggX2_turn_X2_hash
set_option maxRecDepth 20000 in
theorem ggX2_turn_X2_cellOf : GoodIn wsX2_turn wsX2_cellOf := goodIn_r _ [29, 30, 31, 32, 33, 34, 35, 36, 37, 38, 39, 40] (by decide +kernel) (by decide +kernel)
set_option maxRecDepth 20000 in
theorem gX2_turn_X2_cellOf : GoodIn wsX2_turn (wsV RX2 65 RX2 yX2_cellOf wsX2_cellOf) := goodIn_app (goodIn_of _ (by decide +kernel)) ggX2_turn_X2_cellOf
theorem dX2_turn_0 : decode cX2_turn 0 = .ok (.iconst 3, 1) := by decide +kernel
theorem dX2_turn_1 : decode cX2_turn 1 = .ok (.iload_n 1, 1) := by decide +kernel
theorem dX2_turn_2 : decode cX2_turn 2 = .ok (.lload_n 2, 1) := by decide +kernel
theorem dX2_turn_3 : decode cX2_turn 3 = .ok (.invokestatic 61, 3) := by decide +kernel
theorem dX2_turn_6 : decode cX2_turn 6 = .ok (.istore 5, 2) := by decide +kernel
theorem dX2_turn_8 : decode cX2_turn 8 = .ok (.iconst 0, 1) := by decide +kernel
theorem dX2_turn_9 : decode cX2_turn 9 = .ok (.istore 6, 2) := by decide +kernel
theorem dX2_turn_11 : decode cX2_turn 11 = .ok (.iload 6, 2) := by decide +kernel
theorem dX2_turn_13 : decode cX2_turn 13 = .ok (.iconst 3, 1) := by decide +kernel
theorem dX2_turn_14 : decode cX2_turn 14 = .ok (.if_icmp .ge 82, 3) := by decide +kernel
theorem dX2_turn_17 : decode cX2_turn 17 = .ok (.aload_n 0, 1) := by decide +kernel
theorem dX2_turn_18 : decode cX2_turn 18 = .ok (.iload 6, 2) := by decide +kernel
theorem dX2_turn_20 : decode cX2_turn 20 = .ok (.iload 6, 2) := by decide +kernel
theorem dX2_turn_22 : decode cX2_turn 22 = .ok (.iload_n 1, 1) := by decide +kernel
theorem dX2_turn_23 : decode cX2_turn 23 = .ok (.lload_n 2, 1) := by decide +kernel
theorem dX2_turn_24 : decode cX2_turn 24 = .ok (.invokestatic 61, 3) := by decide +kernel
theorem dX2_turn_27 : decode cX2_turn 27 = .ok (.invokevirtual 65, 3) := by decide +kernel
theorem dX2_turn_30 : decode cX2_turn 30 = .ok (.istore 7, 2) := by decide +kernel
theorem dX2_turn_32 : decode cX2_turn 32 = .ok (.iload 7, 2) := by decide +kernel
theorem dX2_turn_34 : decode cX2_turn 34 = .ok (.ifCond .lt 56, 3) := by decide +kernel
theorem dX2_turn_37 : decode cX2_turn 37 = .ok (.iload 7, 2) := by decide +kernel
theorem dX2_turn_39 : decode cX2_turn 39 = .ok (.bipush 63, 2) := by decide +kernel
theorem dX2_turn_41 : decode cX2_turn 41 = .ok (.if_icmp .ge 49, 3) := by decide +kernel
theorem dX2_turn_44 : decode cX2_turn 44 = .ok (.aload_n 0, 1) := by decide +kernel
theorem dX2_turn_45 : decode cX2_turn 45 = .ok (.getfield 9, 3) := by decide +kernel
theorem dX2_turn_48 : decode cX2_turn 48 = .ok (.iload 7, 2) := by decide +kernel
theorem dX2_turn_50 : decode cX2_turn 50 = .ok (.dup2, 1) := by decide +kernel
theorem dX2_turn_51 : decode cX2_turn 51 = .ok (.iaload, 1) := by decide +kernel
theorem dX2_turn_52 : decode cX2_turn 52 = .ok (.iload 4, 2) := by decide +kernel
theorem dX2_turn_54 : decode cX2_turn 54 = .ok (.iadd, 1) := by decide +kernel
theorem dX2_turn_55 : decode cX2_turn 55 = .ok (.iastore, 1) := by decide +kernel
theorem dX2_turn_56 : decode cX2_turn 56 = .ok (.aload_n 0, 1) := by decide +kernel
theorem dX2_turn_57 : decode cX2_turn 57 = .ok (.getfield 15, 3) := by decide +kernel
theorem dX2_turn_60 : decode cX2_turn 60 = .ok (.iload 7, 2) := by decide +kernel
theorem dX2_turn_62 : decode cX2_turn 62 = .ok (.dup2, 1) := by decide +kernel
theorem dX2_turn_63 : decode cX2_turn 63 = .ok (.iaload, 1) := by decide +kernel
theorem dX2_turn_64 : decode cX2_turn 64 = .ok (.iload_n 1, 1) := by decide +kernel
theorem dX2_turn_65 : decode cX2_turn 65 = .ok (.ixor, 1) := by decide +kernel
theorem dX2_turn_66 : decode cX2_turn 66 = .ok (.iastore, 1) := by decide +kernel
theorem dX2_turn_67 : decode cX2_turn 67 = .ok (.aload_n 0, 1) := by decide +kernel
theorem dX2_turn_68 : decode cX2_turn 68 = .ok (.getfield 18, 3) := by decide +kernel
theorem dX2_turn_71 : decode cX2_turn 71 = .ok (.iload 7, 2) := by decide +kernel
theorem dX2_turn_73 : decode cX2_turn 73 = .ok (.dup2, 1) := by decide +kernel
theorem dX2_turn_74 : decode cX2_turn 74 = .ok (.laload, 1) := by decide +kernel
theorem dX2_turn_75 : decode cX2_turn 75 = .ok (.lload_n 2, 1) := by decide +kernel
theorem dX2_turn_76 : decode cX2_turn 76 = .ok (.lxor, 1) := by decide +kernel
theorem dX2_turn_77 : decode cX2_turn 77 = .ok (.lastore, 1) := by decide +kernel
theorem dX2_turn_78 : decode cX2_turn 78 = .ok (.aload_n 0, 1) := by decide +kernel
theorem dX2_turn_79 : decode cX2_turn 79 = .ok (.getfield 22, 3) := by decide +kernel
theorem dX2_turn_82 : decode cX2_turn 82 = .ok (.iload 7, 2) := by decide +kernel
theorem dX2_turn_84 : decode cX2_turn 84 = .ok (.dup2, 1) := by decide +kernel
theorem dX2_turn_85 : decode cX2_turn 85 = .ok (.iaload, 1) := by decide +kernel
theorem dX2_turn_86 : decode cX2_turn 86 = .ok (.iload 5, 2) := by decide +kernel
theorem dX2_turn_88 : decode cX2_turn 88 = .ok (.ixor, 1) := by decide +kernel
theorem dX2_turn_89 : decode cX2_turn 89 = .ok (.iastore, 1) := by decide +kernel
theorem dX2_turn_90 : decode cX2_turn 90 = .ok (.iinc 6 1, 3) := by decide +kernel
theorem dX2_turn_93 : decode cX2_turn 93 = .ok (.goto (-82), 3) := by decide +kernel
theorem dX2_turn_96 : decode cX2_turn 96 = .ok (.return_, 1) := by decide +kernel
set_option maxRecDepth 20000 in
theorem ggX2_peel_X2_firstPure : GoodIn wsX2_peel wsX2_firstPure := goodIn_r _ [8, 9, 10, 11, 7, 12, 1, 2, 13, 3, 14, 15, 16, 17, 18, 19, 20, 21, 22, 23, 24, 25, 26, 27, 28, 29, 30, 31, 32, 33, 52, 53, 54, 55, 56, 57, 58, 59, 60] (by decide +kernel) (by decide +kernel)
set_option maxRecDepth 20000 in
theorem gX2_peel_X2_firstPure : GoodIn wsX2_peel (wsV RX2 69 RX2 yX2_firstPure wsX2_firstPure) := goodIn_app (goodIn_of _ (by decide +kernel)) ggX2_peel_X2_firstPure
set_option maxRecDepth 20000 in
theorem ggX2_peel_X2_tell : GoodIn wsX2_peel wsX2_tell := goodIn_r _ [37, 38, 39, 40, 41, 52, 53, 54, 55, 56, 57, 58, 59, 60] (by decide +kernel) (by decide +kernel)
set_option maxRecDepth 20000 in
theorem gX2_peel_X2_tell : GoodIn wsX2_peel (wsV RX2 73 RX2 yX2_tell wsX2_tell) := goodIn_app (goodIn_of _ (by decide +kernel)) ggX2_peel_X2_tell
set_option maxRecDepth 20000 in
theorem ggX2_peel_X2_turn : GoodIn wsX2_peel wsX2_turn := goodIn_r _ [45, 1, 2, 3, 13, 14, 15, 7, 16, 17, 18, 19, 20, 21, 22, 23, 24, 25, 26, 27, 28, 29, 30, 31, 32, 33, 46, 47, 48, 49, 50, 51, 52, 53, 54, 55, 56, 57, 58, 59, 60] (by decide +kernel) (by decide +kernel)
set_option maxRecDepth 20000 in
theorem gX2_peel_X2_turn : GoodIn wsX2_peel (wsV RX2 77 RX2 yX2_turn wsX2_turn) := goodIn_app (goodIn_of _ (by decide +kernel)) ggX2_peel_X2_turn
theorem dX2_peel_0 : decode cX2_peel 0 = .ok (.iconst 0, 1) := by decide +kernel
theorem dX2_peel_1 : decode cX2_peel 1 = .ok (.istore_n 1, 1) := by decide +kernel
theorem dX2_peel_2 : decode cX2_peel 2 = .ok (.iload_n 1, 1) := by decide +kernel
theorem dX2_peel_3 : decode cX2_peel 3 = .ok (.sipush 256, 3) := by decide +kernel
theorem dX2_peel_6 : decode cX2_peel 6 = .ok (.if_icmp .ge 71, 3) := by decide +kernel
theorem dX2_peel_9 : decode cX2_peel 9 = .ok (.aload_n 0, 1) := by decide +kernel
theorem dX2_peel_10 : decode cX2_peel 10 = .ok (.invokevirtual 69, 3) := by decide +kernel
theorem dX2_peel_13 : decode cX2_peel 13 = .ok (.istore_n 2, 1) := by decide +kernel
theorem dX2_peel_14 : decode cX2_peel 14 = .ok (.iload_n 2, 1) := by decide +kernel
theorem dX2_peel_15 : decode cX2_peel 15 = .ok (.iconst (-1), 1) := by decide +kernel
theorem dX2_peel_16 : decode cX2_peel 16 = .ok (.if_icmp .ne 4, 3) := by decide +kernel
theorem dX2_peel_19 : decode cX2_peel 19 = .ok (.return_, 1) := by decide +kernel
theorem dX2_peel_20 : decode cX2_peel 20 = .ok (.aload_n 0, 1) := by decide +kernel
theorem dX2_peel_21 : decode cX2_peel 21 = .ok (.getfield 9, 3) := by decide +kernel
theorem dX2_peel_24 : decode cX2_peel 24 = .ok (.iload_n 2, 1) := by decide +kernel
theorem dX2_peel_25 : decode cX2_peel 25 = .ok (.iaload, 1) := by decide +kernel
theorem dX2_peel_26 : decode cX2_peel 26 = .ok (.istore_n 3, 1) := by decide +kernel
theorem dX2_peel_27 : decode cX2_peel 27 = .ok (.aload_n 0, 1) := by decide +kernel
theorem dX2_peel_28 : decode cX2_peel 28 = .ok (.getfield 15, 3) := by decide +kernel
theorem dX2_peel_31 : decode cX2_peel 31 = .ok (.iload_n 2, 1) := by decide +kernel
theorem dX2_peel_32 : decode cX2_peel 32 = .ok (.iaload, 1) := by decide +kernel
theorem dX2_peel_33 : decode cX2_peel 33 = .ok (.istore 4, 2) := by decide +kernel
theorem dX2_peel_35 : decode cX2_peel 35 = .ok (.aload_n 0, 1) := by decide +kernel
theorem dX2_peel_36 : decode cX2_peel 36 = .ok (.getfield 18, 3) := by decide +kernel
theorem dX2_peel_39 : decode cX2_peel 39 = .ok (.iload_n 2, 1) := by decide +kernel
theorem dX2_peel_40 : decode cX2_peel 40 = .ok (.laload, 1) := by decide +kernel
theorem dX2_peel_41 : decode cX2_peel 41 = .ok (.lstore 5, 2) := by decide +kernel
theorem dX2_peel_43 : decode cX2_peel 43 = .ok (.aload_n 0, 1) := by decide +kernel
theorem dX2_peel_44 : decode cX2_peel 44 = .ok (.iload_n 3, 1) := by decide +kernel
theorem dX2_peel_45 : decode cX2_peel 45 = .ok (.iconst 1, 1) := by decide +kernel
theorem dX2_peel_46 : decode cX2_peel 46 = .ok (.if_icmp .ne 7, 3) := by decide +kernel
theorem dX2_peel_49 : decode cX2_peel 49 = .ok (.iconst 0, 1) := by decide +kernel
theorem dX2_peel_50 : decode cX2_peel 50 = .ok (.goto 4, 3) := by decide +kernel
theorem dX2_peel_53 : decode cX2_peel 53 = .ok (.iconst 1, 1) := by decide +kernel
theorem dX2_peel_54 : decode cX2_peel 54 = .ok (.iload 4, 2) := by decide +kernel
theorem dX2_peel_56 : decode cX2_peel 56 = .ok (.lload 5, 2) := by decide +kernel
theorem dX2_peel_58 : decode cX2_peel 58 = .ok (.invokevirtual 73, 3) := by decide +kernel
theorem dX2_peel_61 : decode cX2_peel 61 = .ok (.aload_n 0, 1) := by decide +kernel
theorem dX2_peel_62 : decode cX2_peel 62 = .ok (.iload 4, 2) := by decide +kernel
theorem dX2_peel_64 : decode cX2_peel 64 = .ok (.lload 5, 2) := by decide +kernel
theorem dX2_peel_66 : decode cX2_peel 66 = .ok (.iload_n 3, 1) := by decide +kernel
theorem dX2_peel_67 : decode cX2_peel 67 = .ok (.ineg, 1) := by decide +kernel
theorem dX2_peel_68 : decode cX2_peel 68 = .ok (.invokevirtual 77, 3) := by decide +kernel
theorem dX2_peel_71 : decode cX2_peel 71 = .ok (.iinc 1 1, 3) := by decide +kernel
theorem dX2_peel_74 : decode cX2_peel 74 = .ok (.goto (-72), 3) := by decide +kernel
theorem dX2_peel_77 : decode cX2_peel 77 = .ok (.return_, 1) := by decide +kernel
theorem dX2_isZero_0 : decode cX2_isZero 0 = .ok (.iconst 0, 1) := by decide +kernel
theorem dX2_isZero_1 : decode cX2_isZero 1 = .ok (.istore_n 1, 1) := by decide +kernel
theorem dX2_isZero_2 : decode cX2_isZero 2 = .ok (.iload_n 1, 1) := by decide +kernel
theorem dX2_isZero_3 : decode cX2_isZero 3 = .ok (.bipush 63, 2) := by decide +kernel
theorem dX2_isZero_5 : decode cX2_isZero 5 = .ok (.if_icmp .ge 49, 3) := by decide +kernel
theorem dX2_isZero_8 : decode cX2_isZero 8 = .ok (.aload_n 0, 1) := by decide +kernel
theorem dX2_isZero_9 : decode cX2_isZero 9 = .ok (.getfield 9, 3) := by decide +kernel
theorem dX2_isZero_12 : decode cX2_isZero 12 = .ok (.iload_n 1, 1) := by decide +kernel
theorem dX2_isZero_13 : decode cX2_isZero 13 = .ok (.iaload, 1) := by decide +kernel
theorem dX2_isZero_14 : decode cX2_isZero 14 = .ok (.ifCond .ne 32, 3) := by decide +kernel
theorem dX2_isZero_17 : decode cX2_isZero 17 = .ok (.aload_n 0, 1) := by decide +kernel
theorem dX2_isZero_18 : decode cX2_isZero 18 = .ok (.getfield 15, 3) := by decide +kernel
theorem dX2_isZero_21 : decode cX2_isZero 21 = .ok (.iload_n 1, 1) := by decide +kernel
theorem dX2_isZero_22 : decode cX2_isZero 22 = .ok (.iaload, 1) := by decide +kernel
theorem dX2_isZero_23 : decode cX2_isZero 23 = .ok (.ifCond .ne 23, 3) := by decide +kernel
theorem dX2_isZero_26 : decode cX2_isZero 26 = .ok (.aload_n 0, 1) := by decide +kernel
theorem dX2_isZero_27 : decode cX2_isZero 27 = .ok (.getfield 18, 3) := by decide +kernel
theorem dX2_isZero_30 : decode cX2_isZero 30 = .ok (.iload_n 1, 1) := by decide +kernel
theorem dX2_isZero_31 : decode cX2_isZero 31 = .ok (.laload, 1) := by decide +kernel
theorem dX2_isZero_32 : decode cX2_isZero 32 = .ok (.lconst 0, 1) := by decide +kernel
theorem dX2_isZero_33 : decode cX2_isZero 33 = .ok (.lcmp, 1) := by decide +kernel
theorem dX2_isZero_34 : decode cX2_isZero 34 = .ok (.ifCond .ne 12, 3) := by decide +kernel
theorem dX2_isZero_37 : decode cX2_isZero 37 = .ok (.aload_n 0, 1) := by decide +kernel
theorem dX2_isZero_38 : decode cX2_isZero 38 = .ok (.getfield 22, 3) := by decide +kernel
theorem dX2_isZero_41 : decode cX2_isZero 41 = .ok (.iload_n 1, 1) := by decide +kernel
theorem dX2_isZero_42 : decode cX2_isZero 42 = .ok (.iaload, 1) := by decide +kernel
theorem dX2_isZero_43 : decode cX2_isZero 43 = .ok (.ifCond .eq 5, 3) := by decide +kernel
theorem dX2_isZero_46 : decode cX2_isZero 46 = .ok (.iconst 0, 1) := by decide +kernel
theorem dX2_isZero_47 : decode cX2_isZero 47 = .ok (.ireturn, 1) := by decide +kernel
theorem dX2_isZero_48 : decode cX2_isZero 48 = .ok (.iinc 1 1, 3) := by decide +kernel
theorem dX2_isZero_51 : decode cX2_isZero 51 = .ok (.goto (-49), 3) := by decide +kernel
theorem dX2_isZero_54 : decode cX2_isZero 54 = .ok (.iconst 1, 1) := by decide +kernel
theorem dX2_isZero_55 : decode cX2_isZero 55 = .ok (.ireturn, 1) := by decide +kernel
set_option maxRecDepth 20000 in
theorem ggX2_firstPure_X2_isPure : GoodIn wsX2_firstPure wsX2_isPure := goodIn_r _ [5, 6, 7, 8, 9, 10, 11, 4, 12, 13, 14, 15, 16, 17, 18, 19, 20, 21, 22, 23, 24, 25, 26, 27, 28, 29, 30, 31, 32, 33, 34, 35, 36, 37, 38] (by decide +kernel) (by decide +kernel)
set_option maxRecDepth 20000 in
theorem gX2_firstPure_X2_isPure : GoodIn wsX2_firstPure (wsV RX2 81 RX2 yX2_isPure wsX2_isPure) := goodIn_app (goodIn_of _ (by decide +kernel)) ggX2_firstPure_X2_isPure
theorem dX2_firstPure_0 : decode cX2_firstPure 0 = .ok (.iconst 0, 1) := by decide +kernel
theorem dX2_firstPure_1 : decode cX2_firstPure 1 = .ok (.istore_n 1, 1) := by decide +kernel
theorem dX2_firstPure_2 : decode cX2_firstPure 2 = .ok (.iload_n 1, 1) := by decide +kernel
theorem dX2_firstPure_3 : decode cX2_firstPure 3 = .ok (.bipush 63, 2) := by decide +kernel
theorem dX2_firstPure_5 : decode cX2_firstPure 5 = .ok (.if_icmp .ge 19, 3) := by decide +kernel
theorem dX2_firstPure_8 : decode cX2_firstPure 8 = .ok (.aload_n 0, 1) := by decide +kernel
theorem dX2_firstPure_9 : decode cX2_firstPure 9 = .ok (.iload_n 1, 1) := by decide +kernel
theorem dX2_firstPure_10 : decode cX2_firstPure 10 = .ok (.invokevirtual 81, 3) := by decide +kernel
theorem dX2_firstPure_13 : decode cX2_firstPure 13 = .ok (.ifCond .eq 5, 3) := by decide +kernel
theorem dX2_firstPure_16 : decode cX2_firstPure 16 = .ok (.iload_n 1, 1) := by decide +kernel
theorem dX2_firstPure_17 : decode cX2_firstPure 17 = .ok (.ireturn, 1) := by decide +kernel
theorem dX2_firstPure_18 : decode cX2_firstPure 18 = .ok (.iinc 1 1, 3) := by decide +kernel
theorem dX2_firstPure_21 : decode cX2_firstPure 21 = .ok (.goto (-19), 3) := by decide +kernel
theorem dX2_firstPure_24 : decode cX2_firstPure 24 = .ok (.iconst (-1), 1) := by decide +kernel
theorem dX2_firstPure_25 : decode cX2_firstPure 25 = .ok (.ireturn, 1) := by decide +kernel
set_option maxRecDepth 20000 in
theorem ggX2_isPure_X2_hash : GoodIn wsX2_isPure wsX2_hash := goodIn_r _ [8, 9, 10, 11, 12, 13, 14, 15, 16, 17, 18, 19, 20, 21, 22, 23, 24, 25] (by decide +kernel) (by decide +kernel)
set_option maxRecDepth 20000 in
theorem gX2_isPure_X2_hash : GoodIn wsX2_isPure (va_wsS RX2 61 yX2_hash wsX2_hash) := goodIn_app (goodIn_of _ (by decide +kernel)) ggX2_isPure_X2_hash
theorem dX2_isPure_0 : decode cX2_isPure 0 = .ok (.aload_n 0, 1) := by decide +kernel
theorem dX2_isPure_1 : decode cX2_isPure 1 = .ok (.getfield 9, 3) := by decide +kernel
theorem dX2_isPure_4 : decode cX2_isPure 4 = .ok (.iload_n 1, 1) := by decide +kernel
theorem dX2_isPure_5 : decode cX2_isPure 5 = .ok (.iaload, 1) := by decide +kernel
theorem dX2_isPure_6 : decode cX2_isPure 6 = .ok (.iconst 1, 1) := by decide +kernel
theorem dX2_isPure_7 : decode cX2_isPure 7 = .ok (.if_icmp .eq 15, 3) := by decide +kernel
theorem dX2_isPure_10 : decode cX2_isPure 10 = .ok (.aload_n 0, 1) := by decide +kernel
theorem dX2_isPure_11 : decode cX2_isPure 11 = .ok (.getfield 9, 3) := by decide +kernel
theorem dX2_isPure_14 : decode cX2_isPure 14 = .ok (.iload_n 1, 1) := by decide +kernel
theorem dX2_isPure_15 : decode cX2_isPure 15 = .ok (.iaload, 1) := by decide +kernel
theorem dX2_isPure_16 : decode cX2_isPure 16 = .ok (.iconst (-1), 1) := by decide +kernel
theorem dX2_isPure_17 : decode cX2_isPure 17 = .ok (.if_icmp .eq 5, 3) := by decide +kernel
theorem dX2_isPure_20 : decode cX2_isPure 20 = .ok (.iconst 0, 1) := by decide +kernel
theorem dX2_isPure_21 : decode cX2_isPure 21 = .ok (.ireturn, 1) := by decide +kernel
theorem dX2_isPure_22 : decode cX2_isPure 22 = .ok (.aload_n 0, 1) := by decide +kernel
theorem dX2_isPure_23 : decode cX2_isPure 23 = .ok (.getfield 15, 3) := by decide +kernel
theorem dX2_isPure_26 : decode cX2_isPure 26 = .ok (.iload_n 1, 1) := by decide +kernel
theorem dX2_isPure_27 : decode cX2_isPure 27 = .ok (.iaload, 1) := by decide +kernel
theorem dX2_isPure_28 : decode cX2_isPure 28 = .ok (.ifCond .lt 15, 3) := by decide +kernel
theorem dX2_isPure_31 : decode cX2_isPure 31 = .ok (.aload_n 0, 1) := by decide +kernel
theorem dX2_isPure_32 : decode cX2_isPure 32 = .ok (.getfield 15, 3) := by decide +kernel
theorem dX2_isPure_35 : decode cX2_isPure 35 = .ok (.iload_n 1, 1) := by decide +kernel
theorem dX2_isPure_36 : decode cX2_isPure 36 = .ok (.iaload, 1) := by decide +kernel
theorem dX2_isPure_37 : decode cX2_isPure 37 = .ok (.sipush 256, 3) := by decide +kernel
theorem dX2_isPure_40 : decode cX2_isPure 40 = .ok (.if_icmp .lt 5, 3) := by decide +kernel
theorem dX2_isPure_43 : decode cX2_isPure 43 = .ok (.iconst 0, 1) := by decide +kernel
theorem dX2_isPure_44 : decode cX2_isPure 44 = .ok (.ireturn, 1) := by decide +kernel
theorem dX2_isPure_45 : decode cX2_isPure 45 = .ok (.aload_n 0, 1) := by decide +kernel
theorem dX2_isPure_46 : decode cX2_isPure 46 = .ok (.getfield 22, 3) := by decide +kernel
theorem dX2_isPure_49 : decode cX2_isPure 49 = .ok (.iload_n 1, 1) := by decide +kernel
theorem dX2_isPure_50 : decode cX2_isPure 50 = .ok (.iaload, 1) := by decide +kernel
theorem dX2_isPure_51 : decode cX2_isPure 51 = .ok (.iconst 3, 1) := by decide +kernel
theorem dX2_isPure_52 : decode cX2_isPure 52 = .ok (.aload_n 0, 1) := by decide +kernel
theorem dX2_isPure_53 : decode cX2_isPure 53 = .ok (.getfield 15, 3) := by decide +kernel
theorem dX2_isPure_56 : decode cX2_isPure 56 = .ok (.iload_n 1, 1) := by decide +kernel
theorem dX2_isPure_57 : decode cX2_isPure 57 = .ok (.iaload, 1) := by decide +kernel
theorem dX2_isPure_58 : decode cX2_isPure 58 = .ok (.aload_n 0, 1) := by decide +kernel
theorem dX2_isPure_59 : decode cX2_isPure 59 = .ok (.getfield 18, 3) := by decide +kernel
theorem dX2_isPure_62 : decode cX2_isPure 62 = .ok (.iload_n 1, 1) := by decide +kernel
theorem dX2_isPure_63 : decode cX2_isPure 63 = .ok (.laload, 1) := by decide +kernel
theorem dX2_isPure_64 : decode cX2_isPure 64 = .ok (.invokestatic 61, 3) := by decide +kernel
theorem dX2_isPure_67 : decode cX2_isPure 67 = .ok (.if_icmp .ne 7, 3) := by decide +kernel
theorem dX2_isPure_70 : decode cX2_isPure 70 = .ok (.iconst 1, 1) := by decide +kernel
theorem dX2_isPure_71 : decode cX2_isPure 71 = .ok (.goto 4, 3) := by decide +kernel
theorem dX2_isPure_74 : decode cX2_isPure 74 = .ok (.iconst 0, 1) := by decide +kernel
theorem dX2_isPure_75 : decode cX2_isPure 75 = .ok (.ireturn, 1) := by decide +kernel
theorem dX2_tell_0 : decode cX2_tell 0 = .ok (.aload_n 0, 1) := by decide +kernel
theorem dX2_tell_1 : decode cX2_tell 1 = .ok (.getfield 47, 3) := by decide +kernel
theorem dX2_tell_4 : decode cX2_tell 4 = .ok (.sipush 256, 3) := by decide +kernel
theorem dX2_tell_7 : decode cX2_tell 7 = .ok (.if_icmp .ge 43, 3) := by decide +kernel
theorem dX2_tell_10 : decode cX2_tell 10 = .ok (.aload_n 0, 1) := by decide +kernel
theorem dX2_tell_11 : decode cX2_tell 11 = .ok (.getfield 25, 3) := by decide +kernel
theorem dX2_tell_14 : decode cX2_tell 14 = .ok (.aload_n 0, 1) := by decide +kernel
theorem dX2_tell_15 : decode cX2_tell 15 = .ok (.getfield 47, 3) := by decide +kernel
theorem dX2_tell_18 : decode cX2_tell 18 = .ok (.iload_n 1, 1) := by decide +kernel
theorem dX2_tell_19 : decode cX2_tell 19 = .ok (.iastore, 1) := by decide +kernel
theorem dX2_tell_20 : decode cX2_tell 20 = .ok (.aload_n 0, 1) := by decide +kernel
theorem dX2_tell_21 : decode cX2_tell 21 = .ok (.getfield 28, 3) := by decide +kernel
theorem dX2_tell_24 : decode cX2_tell 24 = .ok (.aload_n 0, 1) := by decide +kernel
theorem dX2_tell_25 : decode cX2_tell 25 = .ok (.getfield 47, 3) := by decide +kernel
theorem dX2_tell_28 : decode cX2_tell 28 = .ok (.iload_n 2, 1) := by decide +kernel
theorem dX2_tell_29 : decode cX2_tell 29 = .ok (.iastore, 1) := by decide +kernel
theorem dX2_tell_30 : decode cX2_tell 30 = .ok (.aload_n 0, 1) := by decide +kernel
theorem dX2_tell_31 : decode cX2_tell 31 = .ok (.getfield 31, 3) := by decide +kernel
theorem dX2_tell_34 : decode cX2_tell 34 = .ok (.aload_n 0, 1) := by decide +kernel
theorem dX2_tell_35 : decode cX2_tell 35 = .ok (.getfield 47, 3) := by decide +kernel
theorem dX2_tell_38 : decode cX2_tell 38 = .ok (.lload_n 3, 1) := by decide +kernel
theorem dX2_tell_39 : decode cX2_tell 39 = .ok (.lastore, 1) := by decide +kernel
theorem dX2_tell_40 : decode cX2_tell 40 = .ok (.aload_n 0, 1) := by decide +kernel
theorem dX2_tell_41 : decode cX2_tell 41 = .ok (.dup, 1) := by decide +kernel
theorem dX2_tell_42 : decode cX2_tell 42 = .ok (.getfield 47, 3) := by decide +kernel
theorem dX2_tell_45 : decode cX2_tell 45 = .ok (.iconst 1, 1) := by decide +kernel
theorem dX2_tell_46 : decode cX2_tell 46 = .ok (.iadd, 1) := by decide +kernel
theorem dX2_tell_47 : decode cX2_tell 47 = .ok (.putfield 47, 3) := by decide +kernel
theorem dX2_tell_50 : decode cX2_tell 50 = .ok (.return_, 1) := by decide +kernel
theorem dX2_cellOf_0 : decode cX2_cellOf 0 = .ok (.aload_n 0, 1) := by decide +kernel
theorem dX2_cellOf_1 : decode cX2_cellOf 1 = .ok (.getfield 34, 3) := by decide +kernel
theorem dX2_cellOf_4 : decode cX2_cellOf 4 = .ok (.iconst 1, 1) := by decide +kernel
theorem dX2_cellOf_5 : decode cX2_cellOf 5 = .ok (.if_icmp .ge 5, 3) := by decide +kernel
theorem dX2_cellOf_8 : decode cX2_cellOf 8 = .ok (.iconst (-1), 1) := by decide +kernel
theorem dX2_cellOf_9 : decode cX2_cellOf 9 = .ok (.ireturn, 1) := by decide +kernel
theorem dX2_cellOf_10 : decode cX2_cellOf 10 = .ok (.iload_n 2, 1) := by decide +kernel
theorem dX2_cellOf_11 : decode cX2_cellOf 11 = .ok (.i2l, 1) := by decide +kernel
theorem dX2_cellOf_12 : decode cX2_cellOf 12 = .ok (.ldc2_w 84, 3) := by decide +kernel
theorem dX2_cellOf_15 : decode cX2_cellOf 15 = .ok (.land, 1) := by decide +kernel
theorem dX2_cellOf_16 : decode cX2_cellOf 16 = .ok (.lstore_n 3, 1) := by decide +kernel
theorem dX2_cellOf_17 : decode cX2_cellOf 17 = .ok (.iload_n 1, 1) := by decide +kernel
theorem dX2_cellOf_18 : decode cX2_cellOf 18 = .ok (.aload_n 0, 1) := by decide +kernel
theorem dX2_cellOf_19 : decode cX2_cellOf 19 = .ok (.getfield 34, 3) := by decide +kernel
theorem dX2_cellOf_22 : decode cX2_cellOf 22 = .ok (.imul, 1) := by decide +kernel
theorem dX2_cellOf_23 : decode cX2_cellOf 23 = .ok (.lload_n 3, 1) := by decide +kernel
theorem dX2_cellOf_24 : decode cX2_cellOf 24 = .ok (.aload_n 0, 1) := by decide +kernel
theorem dX2_cellOf_25 : decode cX2_cellOf 25 = .ok (.getfield 34, 3) := by decide +kernel
theorem dX2_cellOf_28 : decode cX2_cellOf 28 = .ok (.i2l, 1) := by decide +kernel
theorem dX2_cellOf_29 : decode cX2_cellOf 29 = .ok (.lrem, 1) := by decide +kernel
theorem dX2_cellOf_30 : decode cX2_cellOf 30 = .ok (.l2i, 1) := by decide +kernel
theorem dX2_cellOf_31 : decode cX2_cellOf 31 = .ok (.iadd, 1) := by decide +kernel
theorem dX2_cellOf_32 : decode cX2_cellOf 32 = .ok (.ireturn, 1) := by decide +kernel
set_option maxRecDepth 20000 in
theorem ggX2_hash_X4_mix : GoodIn wsX2_hash wsX4_mix := goodIn_r _ [3, 4, 5, 6, 7, 8] (by decide +kernel) (by decide +kernel)
set_option maxRecDepth 20000 in
theorem gX2_hash_X4_mix_n86 : GoodIn wsX2_hash (wsX4_mix) := ggX2_hash_X4_mix
set_option maxRecDepth 20000 in
theorem ggX2_hash_X4_mixRow : GoodIn wsX2_hash wsX4_mixRow := goodIn_r _ [10, 11, 12, 2, 13, 14, 1, 3, 4, 5, 6, 7, 8, 15, 16, 17] (by decide +kernel) (by decide +kernel)
set_option maxRecDepth 20000 in
theorem gX2_hash_X4_mixRow_n90 : GoodIn wsX2_hash (wsX4_mixRow) := ggX2_hash_X4_mixRow
theorem dX2_hash_0 : decode cX2_hash 0 = .ok (.iconst 0, 1) := by decide +kernel
theorem dX2_hash_1 : decode cX2_hash 1 = .ok (.iload_n 0, 1) := by decide +kernel
theorem dX2_hash_2 : decode cX2_hash 2 = .ok (.i2l, 1) := by decide +kernel
theorem dX2_hash_3 : decode cX2_hash 3 = .ok (.iconst 1, 1) := by decide +kernel
theorem dX2_hash_4 : decode cX2_hash 4 = .ok (.invokestatic 86, 3) := by decide +kernel
theorem dX2_hash_7 : decode cX2_hash 7 = .ok (.iload_n 1, 1) := by decide +kernel
theorem dX2_hash_8 : decode cX2_hash 8 = .ok (.lload_n 2, 1) := by decide +kernel
theorem dX2_hash_9 : decode cX2_hash 9 = .ok (.invokestatic 90, 3) := by decide +kernel
theorem dX2_hash_12 : decode cX2_hash 12 = .ok (.ireturn, 1) := by decide +kernel
theorem dX3_init_0 : decode cX3_init 0 = .ok (.aload_n 0, 1) := by decide +kernel
theorem dX3_init_1 : decode cX3_init 1 = .ok (.invokespecial 3, 3) := by decide +kernel
theorem dX3_init_4 : decode cX3_init 4 = .ok (.aload_n 0, 1) := by decide +kernel
theorem dX3_init_5 : decode cX3_init 5 = .ok (.bipush 32, 2) := by decide +kernel
theorem dX3_init_7 : decode cX3_init 7 = .ok (.newarray .int, 2) := by decide +kernel
theorem dX3_init_9 : decode cX3_init 9 = .ok (.putfield 9, 3) := by decide +kernel
theorem dX3_init_12 : decode cX3_init 12 = .ok (.aload_n 0, 1) := by decide +kernel
theorem dX3_init_13 : decode cX3_init 13 = .ok (.bipush 32, 2) := by decide +kernel
theorem dX3_init_15 : decode cX3_init 15 = .ok (.newarray .int, 2) := by decide +kernel
theorem dX3_init_17 : decode cX3_init 17 = .ok (.putfield 15, 3) := by decide +kernel
theorem dX3_init_20 : decode cX3_init 20 = .ok (.aload_n 0, 1) := by decide +kernel
theorem dX3_init_21 : decode cX3_init 21 = .ok (.sipush 256, 3) := by decide +kernel
theorem dX3_init_24 : decode cX3_init 24 = .ok (.newarray .int, 2) := by decide +kernel
theorem dX3_init_26 : decode cX3_init 26 = .ok (.putfield 18, 3) := by decide +kernel
theorem dX3_init_29 : decode cX3_init 29 = .ok (.aload_n 0, 1) := by decide +kernel
theorem dX3_init_30 : decode cX3_init 30 = .ok (.sipush 256, 3) := by decide +kernel
theorem dX3_init_33 : decode cX3_init 33 = .ok (.newarray .int, 2) := by decide +kernel
theorem dX3_init_35 : decode cX3_init 35 = .ok (.putfield 21, 3) := by decide +kernel
theorem dX3_init_38 : decode cX3_init 38 = .ok (.aload_n 0, 1) := by decide +kernel
theorem dX3_init_39 : decode cX3_init 39 = .ok (.iconst (-1), 1) := by decide +kernel
theorem dX3_init_40 : decode cX3_init 40 = .ok (.putfield 24, 3) := by decide +kernel
theorem dX3_init_43 : decode cX3_init 43 = .ok (.return_, 1) := by decide +kernel
theorem dX3_restart_0 : decode cX3_restart 0 = .ok (.aload_n 0, 1) := by decide +kernel
theorem dX3_restart_1 : decode cX3_restart 1 = .ok (.getfield 9, 3) := by decide +kernel
theorem dX3_restart_4 : decode cX3_restart 4 = .ok (.iconst 0, 1) := by decide +kernel
theorem dX3_restart_5 : decode cX3_restart 5 = .ok (.iconst 1, 1) := by decide +kernel
theorem dX3_restart_6 : decode cX3_restart 6 = .ok (.iastore, 1) := by decide +kernel
theorem dX3_restart_7 : decode cX3_restart 7 = .ok (.aload_n 0, 1) := by decide +kernel
theorem dX3_restart_8 : decode cX3_restart 8 = .ok (.iconst 1, 1) := by decide +kernel
theorem dX3_restart_9 : decode cX3_restart 9 = .ok (.putfield 28, 3) := by decide +kernel
theorem dX3_restart_12 : decode cX3_restart 12 = .ok (.aload_n 0, 1) := by decide +kernel
theorem dX3_restart_13 : decode cX3_restart 13 = .ok (.iconst 0, 1) := by decide +kernel
theorem dX3_restart_14 : decode cX3_restart 14 = .ok (.putfield 31, 3) := by decide +kernel
theorem dX3_restart_17 : decode cX3_restart 17 = .ok (.aload_n 0, 1) := by decide +kernel
theorem dX3_restart_18 : decode cX3_restart 18 = .ok (.iconst 0, 1) := by decide +kernel
theorem dX3_restart_19 : decode cX3_restart 19 = .ok (.putfield 24, 3) := by decide +kernel
theorem dX3_restart_22 : decode cX3_restart 22 = .ok (.return_, 1) := by decide +kernel
theorem dX3_pending_0 : decode cX3_pending 0 = .ok (.aload_n 0, 1) := by decide +kernel
theorem dX3_pending_1 : decode cX3_pending 1 = .ok (.getfield 28, 3) := by decide +kernel
theorem dX3_pending_4 : decode cX3_pending 4 = .ok (.ireturn, 1) := by decide +kernel
theorem dX3_roundsDone_0 : decode cX3_roundsDone 0 = .ok (.aload_n 0, 1) := by decide +kernel
theorem dX3_roundsDone_1 : decode cX3_roundsDone 1 = .ok (.getfield 24, 3) := by decide +kernel
theorem dX3_roundsDone_4 : decode cX3_roundsDone 4 = .ok (.ireturn, 1) := by decide +kernel
set_option maxRecDepth 20000 in
theorem ggX3_told_X4_nodeOf : GoodIn wsX3_told wsX4_nodeOf := goodIn_r _ [6] (by decide +kernel) (by decide +kernel)
set_option maxRecDepth 20000 in
theorem gX3_told_X4_nodeOf_n34 : GoodIn wsX3_told (wsX4_nodeOf) := ggX3_told_X4_nodeOf
set_option maxRecDepth 20000 in
theorem ggX3_told_X4_numberOf : GoodIn wsX3_told wsX4_numberOf := goodIn_r _ [8] (by decide +kernel) (by decide +kernel)
set_option maxRecDepth 20000 in
theorem gX3_told_X4_numberOf_n38 : GoodIn wsX3_told (wsX4_numberOf) := ggX3_told_X4_numberOf
theorem dX3_told_0 : decode cX3_told 0 = .ok (.iload_n 1, 1) := by decide +kernel
theorem dX3_told_1 : decode cX3_told 1 = .ok (.ifCond .lt 18, 3) := by decide +kernel
theorem dX3_told_4 : decode cX3_told 4 = .ok (.iload_n 1, 1) := by decide +kernel
theorem dX3_told_5 : decode cX3_told 5 = .ok (.aload_n 0, 1) := by decide +kernel
theorem dX3_told_6 : decode cX3_told 6 = .ok (.getfield 31, 3) := by decide +kernel
theorem dX3_told_9 : decode cX3_told 9 = .ok (.if_icmp .ge 10, 3) := by decide +kernel
theorem dX3_told_12 : decode cX3_told 12 = .ok (.iload_n 1, 1) := by decide +kernel
theorem dX3_told_13 : decode cX3_told 13 = .ok (.sipush 256, 3) := by decide +kernel
theorem dX3_told_16 : decode cX3_told 16 = .ok (.if_icmp .lt 5, 3) := by decide +kernel
theorem dX3_told_19 : decode cX3_told 19 = .ok (.iconst (-1), 1) := by decide +kernel
theorem dX3_told_20 : decode cX3_told 20 = .ok (.ireturn, 1) := by decide +kernel
theorem dX3_told_21 : decode cX3_told 21 = .ok (.iload_n 2, 1) := by decide +kernel
theorem dX3_told_22 : decode cX3_told 22 = .ok (.tableswitch 53 0 2 #[26, 33, 43], 26) := by decide +kernel
theorem dX3_told_48 : decode cX3_told 48 = .ok (.aload_n 0, 1) := by decide +kernel
theorem dX3_told_49 : decode cX3_told 49 = .ok (.getfield 18, 3) := by decide +kernel
theorem dX3_told_52 : decode cX3_told 52 = .ok (.iload_n 1, 1) := by decide +kernel
theorem dX3_told_53 : decode cX3_told 53 = .ok (.iaload, 1) := by decide +kernel
theorem dX3_told_54 : decode cX3_told 54 = .ok (.ireturn, 1) := by decide +kernel
theorem dX3_told_55 : decode cX3_told 55 = .ok (.aload_n 0, 1) := by decide +kernel
theorem dX3_told_56 : decode cX3_told 56 = .ok (.getfield 21, 3) := by decide +kernel
theorem dX3_told_59 : decode cX3_told 59 = .ok (.iload_n 1, 1) := by decide +kernel
theorem dX3_told_60 : decode cX3_told 60 = .ok (.iaload, 1) := by decide +kernel
theorem dX3_told_61 : decode cX3_told 61 = .ok (.invokestatic 34, 3) := by decide +kernel
theorem dX3_told_64 : decode cX3_told 64 = .ok (.ireturn, 1) := by decide +kernel
theorem dX3_told_65 : decode cX3_told 65 = .ok (.aload_n 0, 1) := by decide +kernel
theorem dX3_told_66 : decode cX3_told 66 = .ok (.getfield 21, 3) := by decide +kernel
theorem dX3_told_69 : decode cX3_told 69 = .ok (.iload_n 1, 1) := by decide +kernel
theorem dX3_told_70 : decode cX3_told 70 = .ok (.iaload, 1) := by decide +kernel
theorem dX3_told_71 : decode cX3_told 71 = .ok (.invokestatic 38, 3) := by decide +kernel
theorem dX3_told_74 : decode cX3_told 74 = .ok (.ireturn, 1) := by decide +kernel
theorem dX3_told_75 : decode cX3_told 75 = .ok (.iconst (-1), 1) := by decide +kernel
theorem dX3_told_76 : decode cX3_told 76 = .ok (.ireturn, 1) := by decide +kernel
set_option maxRecDepth 20000 in
theorem ggX3_lookAtAll_X3_lookAt : GoodIn wsX3_lookAtAll wsX3_lookAt := goodIn_r _ [14, 15, 16, 17, 18, 19, 20, 21, 22, 23, 24, 25, 26, 13, 27, 28, 29, 30, 31, 32, 33, 34, 35, 36, 37, 38, 39, 40, 41, 42, 43, 44, 45, 46, 47, 48, 49, 50, 51, 52, 53, 1, 4, 62, 63, 64, 65, 66, 67, 68, 54, 55, 56, 57, 58, 59, 60, 61] (by decide +kernel) (by decide +kernel)
set_option maxRecDepth 20000 in
theorem gX3_lookAtAll_X3_lookAt : GoodIn wsX3_lookAtAll (wsV RX3 44 RX3 yX3_lookAt wsX3_lookAt) := goodIn_app (goodIn_of _ (by decide +kernel)) ggX3_lookAtAll_X3_lookAt
theorem dX3_lookAtAll_0 : decode cX3_lookAtAll 0 = .ok (.aload_n 0, 1) := by decide +kernel
theorem dX3_lookAtAll_1 : decode cX3_lookAtAll 1 = .ok (.iconst 0, 1) := by decide +kernel
theorem dX3_lookAtAll_2 : decode cX3_lookAtAll 2 = .ok (.putfield 41, 3) := by decide +kernel
theorem dX3_lookAtAll_5 : decode cX3_lookAtAll 5 = .ok (.iconst 0, 1) := by decide +kernel
theorem dX3_lookAtAll_6 : decode cX3_lookAtAll 6 = .ok (.istore_n 3, 1) := by decide +kernel
theorem dX3_lookAtAll_7 : decode cX3_lookAtAll 7 = .ok (.iload_n 3, 1) := by decide +kernel
theorem dX3_lookAtAll_8 : decode cX3_lookAtAll 8 = .ok (.aload_n 0, 1) := by decide +kernel
theorem dX3_lookAtAll_9 : decode cX3_lookAtAll 9 = .ok (.getfield 28, 3) := by decide +kernel
theorem dX3_lookAtAll_12 : decode cX3_lookAtAll 12 = .ok (.if_icmp .ge 30, 3) := by decide +kernel
theorem dX3_lookAtAll_15 : decode cX3_lookAtAll 15 = .ok (.iload_n 3, 1) := by decide +kernel
theorem dX3_lookAtAll_16 : decode cX3_lookAtAll 16 = .ok (.aload_n 0, 1) := by decide +kernel
theorem dX3_lookAtAll_17 : decode cX3_lookAtAll 17 = .ok (.getfield 9, 3) := by decide +kernel
theorem dX3_lookAtAll_20 : decode cX3_lookAtAll 20 = .ok (.arraylength, 1) := by decide +kernel
theorem dX3_lookAtAll_21 : decode cX3_lookAtAll 21 = .ok (.if_icmp .ge 21, 3) := by decide +kernel
theorem dX3_lookAtAll_24 : decode cX3_lookAtAll 24 = .ok (.aload_n 0, 1) := by decide +kernel
theorem dX3_lookAtAll_25 : decode cX3_lookAtAll 25 = .ok (.aload_n 0, 1) := by decide +kernel
theorem dX3_lookAtAll_26 : decode cX3_lookAtAll 26 = .ok (.getfield 9, 3) := by decide +kernel
theorem dX3_lookAtAll_29 : decode cX3_lookAtAll 29 = .ok (.iload_n 3, 1) := by decide +kernel
theorem dX3_lookAtAll_30 : decode cX3_lookAtAll 30 = .ok (.iaload, 1) := by decide +kernel
theorem dX3_lookAtAll_31 : decode cX3_lookAtAll 31 = .ok (.aload_n 1, 1) := by decide +kernel
theorem dX3_lookAtAll_32 : decode cX3_lookAtAll 32 = .ok (.aload_n 2, 1) := by decide +kernel
theorem dX3_lookAtAll_33 : decode cX3_lookAtAll 33 = .ok (.invokevirtual 44, 3) := by decide +kernel
theorem dX3_lookAtAll_36 : decode cX3_lookAtAll 36 = .ok (.iinc 3 1, 3) := by decide +kernel
theorem dX3_lookAtAll_39 : decode cX3_lookAtAll 39 = .ok (.goto (-32), 3) := by decide +kernel
theorem dX3_lookAtAll_42 : decode cX3_lookAtAll 42 = .ok (.aload_n 0, 1) := by decide +kernel
theorem dX3_lookAtAll_43 : decode cX3_lookAtAll 43 = .ok (.getfield 15, 3) := by decide +kernel
theorem dX3_lookAtAll_46 : decode cX3_lookAtAll 46 = .ok (.iconst 0, 1) := by decide +kernel
theorem dX3_lookAtAll_47 : decode cX3_lookAtAll 47 = .ok (.aload_n 0, 1) := by decide +kernel
theorem dX3_lookAtAll_48 : decode cX3_lookAtAll 48 = .ok (.getfield 9, 3) := by decide +kernel
theorem dX3_lookAtAll_51 : decode cX3_lookAtAll 51 = .ok (.iconst 0, 1) := by decide +kernel
theorem dX3_lookAtAll_52 : decode cX3_lookAtAll 52 = .ok (.aload_n 0, 1) := by decide +kernel
theorem dX3_lookAtAll_53 : decode cX3_lookAtAll 53 = .ok (.getfield 15, 3) := by decide +kernel
theorem dX3_lookAtAll_56 : decode cX3_lookAtAll 56 = .ok (.arraylength, 1) := by decide +kernel
theorem dX3_lookAtAll_57 : decode cX3_lookAtAll 57 = .ok (.invokestatic 48, 3) := by decide +kernel
theorem dX3_lookAtAll_60 : decode cX3_lookAtAll 60 = .ok (.aload_n 0, 1) := by decide +kernel
theorem dX3_lookAtAll_61 : decode cX3_lookAtAll 61 = .ok (.aload_n 0, 1) := by decide +kernel
theorem dX3_lookAtAll_62 : decode cX3_lookAtAll 62 = .ok (.getfield 41, 3) := by decide +kernel
theorem dX3_lookAtAll_65 : decode cX3_lookAtAll 65 = .ok (.putfield 28, 3) := by decide +kernel
theorem dX3_lookAtAll_68 : decode cX3_lookAtAll 68 = .ok (.aload_n 0, 1) := by decide +kernel
theorem dX3_lookAtAll_69 : decode cX3_lookAtAll 69 = .ok (.dup, 1) := by decide +kernel
theorem dX3_lookAtAll_70 : decode cX3_lookAtAll 70 = .ok (.getfield 24, 3) := by decide +kernel
theorem dX3_lookAtAll_73 : decode cX3_lookAtAll 73 = .ok (.iconst 1, 1) := by decide +kernel
theorem dX3_lookAtAll_74 : decode cX3_lookAtAll 74 = .ok (.iadd, 1) := by decide +kernel
theorem dX3_lookAtAll_75 : decode cX3_lookAtAll 75 = .ok (.putfield 24, 3) := by decide +kernel
theorem dX3_lookAtAll_78 : decode cX3_lookAtAll 78 = .ok (.return_, 1) := by decide +kernel
set_option maxRecDepth 20000 in
theorem ggX3_lookAt_X4_isRange : GoodIn wsX3_lookAt wsX4_isRange := goodIn_r _ [3] (by decide +kernel) (by decide +kernel)
set_option maxRecDepth 20000 in
theorem gX3_lookAt_X4_isRange_n54 : GoodIn wsX3_lookAt (wsX4_isRange) := ggX3_lookAt_X4_isRange
set_option maxRecDepth 20000 in
theorem ggX3_lookAt_X1_keepsLike : GoodIn wsX3_lookAt wsX1_keepsLike := goodIn_r _ [8, 9, 43, 44, 45, 46, 47, 48, 49] (by decide +kernel) (by decide +kernel)
set_option maxRecDepth 20000 in
theorem gX3_lookAt_X1_keepsLike : GoodIn wsX3_lookAt (wsV RX3 58 RX1 yX1_keepsLike wsX1_keepsLike) := goodIn_app (goodIn_of _ (by decide +kernel)) ggX3_lookAt_X1_keepsLike
set_option maxRecDepth 20000 in
theorem ggX3_lookAt_X3_tellLeaf : GoodIn wsX3_lookAt wsX3_tellLeaf := goodIn_r _ [14, 15, 2, 16, 17, 18, 19, 7, 20, 21, 22, 23, 24, 25, 26, 27, 13, 28, 29, 30, 31, 32, 33, 34, 35, 36, 43, 44, 45, 46, 47, 48, 49, 50, 51, 52, 53, 54, 55, 56, 57] (by decide +kernel) (by decide +kernel)
set_option maxRecDepth 20000 in
theorem gX3_lookAt_X3_tellLeaf : GoodIn wsX3_lookAt (wsV RX3 64 RX3 yX3_tellLeaf wsX3_tellLeaf) := goodIn_app (goodIn_of _ (by decide +kernel)) ggX3_lookAt_X3_tellLeaf
set_option maxRecDepth 20000 in
theorem ggX3_lookAt_X3_addComing : GoodIn wsX3_lookAt wsX3_addComing := goodIn_r _ [40, 41, 42, 50, 51, 52, 53, 54, 55, 56, 57] (by decide +kernel) (by decide +kernel)
set_option maxRecDepth 20000 in
theorem gX3_lookAt_X3_addComing : GoodIn wsX3_lookAt (wsV RX3 67 RX3 yX3_addComing wsX3_addComing) := goodIn_app (goodIn_of _ (by decide +kernel)) ggX3_lookAt_X3_addComing
theorem dX3_lookAt_0 : decode cX3_lookAt 0 = .ok (.iload_n 1, 1) := by decide +kernel
theorem dX3_lookAt_1 : decode cX3_lookAt 1 = .ok (.invokestatic 54, 3) := by decide +kernel
theorem dX3_lookAt_4 : decode cX3_lookAt 4 = .ok (.ifCond .eq 12, 3) := by decide +kernel
theorem dX3_lookAt_7 : decode cX3_lookAt 7 = .ok (.aload_n 2, 1) := by decide +kernel
theorem dX3_lookAt_8 : decode cX3_lookAt 8 = .ok (.aload_n 3, 1) := by decide +kernel
theorem dX3_lookAt_9 : decode cX3_lookAt 9 = .ok (.iload_n 1, 1) := by decide +kernel
theorem dX3_lookAt_10 : decode cX3_lookAt 10 = .ok (.invokevirtual 58, 3) := by decide +kernel
theorem dX3_lookAt_13 : decode cX3_lookAt 13 = .ok (.ifCond .eq 4, 3) := by decide +kernel
theorem dX3_lookAt_16 : decode cX3_lookAt 16 = .ok (.return_, 1) := by decide +kernel
theorem dX3_lookAt_17 : decode cX3_lookAt 17 = .ok (.iload_n 1, 1) := by decide +kernel
theorem dX3_lookAt_18 : decode cX3_lookAt 18 = .ok (.bipush 32, 2) := by decide +kernel
theorem dX3_lookAt_20 : decode cX3_lookAt 20 = .ok (.if_icmp .lt 13, 3) := by decide +kernel
theorem dX3_lookAt_23 : decode cX3_lookAt 23 = .ok (.aload_n 0, 1) := by decide +kernel
theorem dX3_lookAt_24 : decode cX3_lookAt 24 = .ok (.iload_n 1, 1) := by decide +kernel
theorem dX3_lookAt_25 : decode cX3_lookAt 25 = .ok (.aload_n 2, 1) := by decide +kernel
theorem dX3_lookAt_26 : decode cX3_lookAt 26 = .ok (.aload_n 3, 1) := by decide +kernel
theorem dX3_lookAt_27 : decode cX3_lookAt 27 = .ok (.invokevirtual 64, 3) := by decide +kernel
theorem dX3_lookAt_30 : decode cX3_lookAt 30 = .ok (.goto 19, 3) := by decide +kernel
theorem dX3_lookAt_33 : decode cX3_lookAt 33 = .ok (.aload_n 0, 1) := by decide +kernel
theorem dX3_lookAt_34 : decode cX3_lookAt 34 = .ok (.iconst 2, 1) := by decide +kernel
theorem dX3_lookAt_35 : decode cX3_lookAt 35 = .ok (.iload_n 1, 1) := by decide +kernel
theorem dX3_lookAt_36 : decode cX3_lookAt 36 = .ok (.imul, 1) := by decide +kernel
theorem dX3_lookAt_37 : decode cX3_lookAt 37 = .ok (.invokevirtual 67, 3) := by decide +kernel
theorem dX3_lookAt_40 : decode cX3_lookAt 40 = .ok (.aload_n 0, 1) := by decide +kernel
theorem dX3_lookAt_41 : decode cX3_lookAt 41 = .ok (.iconst 2, 1) := by decide +kernel
theorem dX3_lookAt_42 : decode cX3_lookAt 42 = .ok (.iload_n 1, 1) := by decide +kernel
theorem dX3_lookAt_43 : decode cX3_lookAt 43 = .ok (.imul, 1) := by decide +kernel
theorem dX3_lookAt_44 : decode cX3_lookAt 44 = .ok (.iconst 1, 1) := by decide +kernel
theorem dX3_lookAt_45 : decode cX3_lookAt 45 = .ok (.iadd, 1) := by decide +kernel
theorem dX3_lookAt_46 : decode cX3_lookAt 46 = .ok (.invokevirtual 67, 3) := by decide +kernel
theorem dX3_lookAt_49 : decode cX3_lookAt 49 = .ok (.return_, 1) := by decide +kernel
theorem dX3_addComing_0 : decode cX3_addComing 0 = .ok (.aload_n 0, 1) := by decide +kernel
theorem dX3_addComing_1 : decode cX3_addComing 1 = .ok (.getfield 41, 3) := by decide +kernel
theorem dX3_addComing_4 : decode cX3_addComing 4 = .ok (.aload_n 0, 1) := by decide +kernel
theorem dX3_addComing_5 : decode cX3_addComing 5 = .ok (.getfield 15, 3) := by decide +kernel
theorem dX3_addComing_8 : decode cX3_addComing 8 = .ok (.arraylength, 1) := by decide +kernel
theorem dX3_addComing_9 : decode cX3_addComing 9 = .ok (.if_icmp .ge 23, 3) := by decide +kernel
theorem dX3_addComing_12 : decode cX3_addComing 12 = .ok (.aload_n 0, 1) := by decide +kernel
theorem dX3_addComing_13 : decode cX3_addComing 13 = .ok (.getfield 15, 3) := by decide +kernel
theorem dX3_addComing_16 : decode cX3_addComing 16 = .ok (.aload_n 0, 1) := by decide +kernel
theorem dX3_addComing_17 : decode cX3_addComing 17 = .ok (.getfield 41, 3) := by decide +kernel
theorem dX3_addComing_20 : decode cX3_addComing 20 = .ok (.iload_n 1, 1) := by decide +kernel
theorem dX3_addComing_21 : decode cX3_addComing 21 = .ok (.iastore, 1) := by decide +kernel
theorem dX3_addComing_22 : decode cX3_addComing 22 = .ok (.aload_n 0, 1) := by decide +kernel
theorem dX3_addComing_23 : decode cX3_addComing 23 = .ok (.dup, 1) := by decide +kernel
theorem dX3_addComing_24 : decode cX3_addComing 24 = .ok (.getfield 41, 3) := by decide +kernel
theorem dX3_addComing_27 : decode cX3_addComing 27 = .ok (.iconst 1, 1) := by decide +kernel
theorem dX3_addComing_28 : decode cX3_addComing 28 = .ok (.iadd, 1) := by decide +kernel
theorem dX3_addComing_29 : decode cX3_addComing 29 = .ok (.putfield 41, 3) := by decide +kernel
theorem dX3_addComing_32 : decode cX3_addComing 32 = .ok (.return_, 1) := by decide +kernel
set_option maxRecDepth 20000 in
theorem ggX3_tellLeaf_X4_firstSlotOf : GoodIn wsX3_tellLeaf wsX4_firstSlotOf := goodIn_r _ [3] (by decide +kernel) (by decide +kernel)
set_option maxRecDepth 20000 in
theorem gX3_tellLeaf_X4_firstSlotOf_n71 : GoodIn wsX3_tellLeaf (wsX4_firstSlotOf) := ggX3_tellLeaf_X4_firstSlotOf
set_option maxRecDepth 20000 in
theorem ggX3_tellLeaf_X1_hasCounting : GoodIn wsX3_tellLeaf wsX1_hasCounting := goodIn_r _ [8, 9, 10, 11, 2, 12, 26, 27, 28, 29, 30, 31, 32] (by decide +kernel) (by decide +kernel)
set_option maxRecDepth 20000 in
theorem gX3_tellLeaf_X1_hasCounting : GoodIn wsX3_tellLeaf (wsV RX3 74 RX1 yX1_hasCounting wsX1_hasCounting) := goodIn_app (goodIn_of _ (by decide +kernel)) ggX3_tellLeaf_X1_hasCounting
set_option maxRecDepth 20000 in
theorem ggX3_tellLeaf_X3_tell : GoodIn wsX3_tellLeaf wsX3_tell := goodIn_r _ [17, 18, 19, 20, 33, 34, 35, 36, 37, 38, 39, 40] (by decide +kernel) (by decide +kernel)
set_option maxRecDepth 20000 in
theorem gX3_tellLeaf_X3_tell : GoodIn wsX3_tellLeaf (wsV RX3 78 RX3 yX3_tell wsX3_tell) := goodIn_app (goodIn_of _ (by decide +kernel)) ggX3_tellLeaf_X3_tell
set_option maxRecDepth 20000 in
theorem ggX3_tellLeaf_X1_value : GoodIn wsX3_tellLeaf wsX1_value := goodIn_r _ [24, 25, 26, 27, 28, 29, 30, 31, 32] (by decide +kernel) (by decide +kernel)
set_option maxRecDepth 20000 in
theorem gX3_tellLeaf_X1_value : GoodIn wsX3_tellLeaf (wsV RX3 82 RX1 yX1_value wsX1_value) := goodIn_app (goodIn_of _ (by decide +kernel)) ggX3_tellLeaf_X1_value
theorem dX3_tellLeaf_0 : decode cX3_tellLeaf 0 = .ok (.iload_n 1, 1) := by decide +kernel
theorem dX3_tellLeaf_1 : decode cX3_tellLeaf 1 = .ok (.invokestatic 71, 3) := by decide +kernel
theorem dX3_tellLeaf_4 : decode cX3_tellLeaf 4 = .ok (.istore 4, 2) := by decide +kernel
theorem dX3_tellLeaf_6 : decode cX3_tellLeaf 6 = .ok (.iload 4, 2) := by decide +kernel
theorem dX3_tellLeaf_8 : decode cX3_tellLeaf 8 = .ok (.istore 5, 2) := by decide +kernel
theorem dX3_tellLeaf_10 : decode cX3_tellLeaf 10 = .ok (.iload 5, 2) := by decide +kernel
theorem dX3_tellLeaf_12 : decode cX3_tellLeaf 12 = .ok (.iload 4, 2) := by decide +kernel
theorem dX3_tellLeaf_14 : decode cX3_tellLeaf 14 = .ok (.bipush 8, 2) := by decide +kernel
theorem dX3_tellLeaf_16 : decode cX3_tellLeaf 16 = .ok (.iadd, 1) := by decide +kernel
theorem dX3_tellLeaf_17 : decode cX3_tellLeaf 17 = .ok (.if_icmp .ge 95, 3) := by decide +kernel
theorem dX3_tellLeaf_20 : decode cX3_tellLeaf 20 = .ok (.aload_n 2, 1) := by decide +kernel
theorem dX3_tellLeaf_21 : decode cX3_tellLeaf 21 = .ok (.iload 5, 2) := by decide +kernel
theorem dX3_tellLeaf_23 : decode cX3_tellLeaf 23 = .ok (.aload_n 3, 1) := by decide +kernel
theorem dX3_tellLeaf_24 : decode cX3_tellLeaf 24 = .ok (.invokevirtual 74, 3) := by decide +kernel
theorem dX3_tellLeaf_27 : decode cX3_tellLeaf 27 = .ok (.istore 6, 2) := by decide +kernel
theorem dX3_tellLeaf_29 : decode cX3_tellLeaf 29 = .ok (.aload_n 3, 1) := by decide +kernel
theorem dX3_tellLeaf_30 : decode cX3_tellLeaf 30 = .ok (.iload 5, 2) := by decide +kernel
theorem dX3_tellLeaf_32 : decode cX3_tellLeaf 32 = .ok (.aload_n 2, 1) := by decide +kernel
theorem dX3_tellLeaf_33 : decode cX3_tellLeaf 33 = .ok (.invokevirtual 74, 3) := by decide +kernel
theorem dX3_tellLeaf_36 : decode cX3_tellLeaf 36 = .ok (.istore 7, 2) := by decide +kernel
theorem dX3_tellLeaf_38 : decode cX3_tellLeaf 38 = .ok (.iload 6, 2) := by decide +kernel
theorem dX3_tellLeaf_40 : decode cX3_tellLeaf 40 = .ok (.ifCond .eq 18, 3) := by decide +kernel
theorem dX3_tellLeaf_43 : decode cX3_tellLeaf 43 = .ok (.iload 7, 2) := by decide +kernel
theorem dX3_tellLeaf_45 : decode cX3_tellLeaf 45 = .ok (.ifCond .ne 13, 3) := by decide +kernel
theorem dX3_tellLeaf_48 : decode cX3_tellLeaf 48 = .ok (.aload_n 0, 1) := by decide +kernel
theorem dX3_tellLeaf_49 : decode cX3_tellLeaf 49 = .ok (.iconst 0, 1) := by decide +kernel
theorem dX3_tellLeaf_50 : decode cX3_tellLeaf 50 = .ok (.iload 5, 2) := by decide +kernel
theorem dX3_tellLeaf_52 : decode cX3_tellLeaf 52 = .ok (.invokevirtual 78, 3) := by decide +kernel
theorem dX3_tellLeaf_55 : decode cX3_tellLeaf 55 = .ok (.goto 51, 3) := by decide +kernel
theorem dX3_tellLeaf_58 : decode cX3_tellLeaf 58 = .ok (.iload 7, 2) := by decide +kernel
theorem dX3_tellLeaf_60 : decode cX3_tellLeaf 60 = .ok (.ifCond .eq 18, 3) := by decide +kernel
theorem dX3_tellLeaf_63 : decode cX3_tellLeaf 63 = .ok (.iload 6, 2) := by decide +kernel
theorem dX3_tellLeaf_65 : decode cX3_tellLeaf 65 = .ok (.ifCond .ne 13, 3) := by decide +kernel
theorem dX3_tellLeaf_68 : decode cX3_tellLeaf 68 = .ok (.aload_n 0, 1) := by decide +kernel
theorem dX3_tellLeaf_69 : decode cX3_tellLeaf 69 = .ok (.iconst 1, 1) := by decide +kernel
theorem dX3_tellLeaf_70 : decode cX3_tellLeaf 70 = .ok (.iload 5, 2) := by decide +kernel
theorem dX3_tellLeaf_72 : decode cX3_tellLeaf 72 = .ok (.invokevirtual 78, 3) := by decide +kernel
theorem dX3_tellLeaf_75 : decode cX3_tellLeaf 75 = .ok (.goto 31, 3) := by decide +kernel
theorem dX3_tellLeaf_78 : decode cX3_tellLeaf 78 = .ok (.iload 6, 2) := by decide +kernel
theorem dX3_tellLeaf_80 : decode cX3_tellLeaf 80 = .ok (.ifCond .eq 26, 3) := by decide +kernel
theorem dX3_tellLeaf_83 : decode cX3_tellLeaf 83 = .ok (.aload_n 2, 1) := by decide +kernel
theorem dX3_tellLeaf_84 : decode cX3_tellLeaf 84 = .ok (.iload 5, 2) := by decide +kernel
theorem dX3_tellLeaf_86 : decode cX3_tellLeaf 86 = .ok (.invokevirtual 82, 3) := by decide +kernel
theorem dX3_tellLeaf_89 : decode cX3_tellLeaf 89 = .ok (.aload_n 3, 1) := by decide +kernel
theorem dX3_tellLeaf_90 : decode cX3_tellLeaf 90 = .ok (.iload 5, 2) := by decide +kernel
theorem dX3_tellLeaf_92 : decode cX3_tellLeaf 92 = .ok (.invokevirtual 82, 3) := by decide +kernel
theorem dX3_tellLeaf_95 : decode cX3_tellLeaf 95 = .ok (.lcmp, 1) := by decide +kernel
theorem dX3_tellLeaf_96 : decode cX3_tellLeaf 96 = .ok (.ifCond .eq 10, 3) := by decide +kernel
theorem dX3_tellLeaf_99 : decode cX3_tellLeaf 99 = .ok (.aload_n 0, 1) := by decide +kernel
theorem dX3_tellLeaf_100 : decode cX3_tellLeaf 100 = .ok (.iconst 2, 1) := by decide +kernel
theorem dX3_tellLeaf_101 : decode cX3_tellLeaf 101 = .ok (.iload 5, 2) := by decide +kernel
theorem dX3_tellLeaf_103 : decode cX3_tellLeaf 103 = .ok (.invokevirtual 78, 3) := by decide +kernel
theorem dX3_tellLeaf_106 : decode cX3_tellLeaf 106 = .ok (.iinc 5 1, 3) := by decide +kernel
theorem dX3_tellLeaf_109 : decode cX3_tellLeaf 109 = .ok (.goto (-99), 3) := by decide +kernel
theorem dX3_tellLeaf_112 : decode cX3_tellLeaf 112 = .ok (.return_, 1) := by decide +kernel
theorem dX3_tell_0 : decode cX3_tell 0 = .ok (.aload_n 0, 1) := by decide +kernel
theorem dX3_tell_1 : decode cX3_tell 1 = .ok (.getfield 31, 3) := by decide +kernel
theorem dX3_tell_4 : decode cX3_tell 4 = .ok (.sipush 256, 3) := by decide +kernel
theorem dX3_tell_7 : decode cX3_tell 7 = .ok (.if_icmp .ge 33, 3) := by decide +kernel
theorem dX3_tell_10 : decode cX3_tell 10 = .ok (.aload_n 0, 1) := by decide +kernel
theorem dX3_tell_11 : decode cX3_tell 11 = .ok (.getfield 18, 3) := by decide +kernel
theorem dX3_tell_14 : decode cX3_tell 14 = .ok (.aload_n 0, 1) := by decide +kernel
theorem dX3_tell_15 : decode cX3_tell 15 = .ok (.getfield 31, 3) := by decide +kernel
theorem dX3_tell_18 : decode cX3_tell 18 = .ok (.iload_n 1, 1) := by decide +kernel
theorem dX3_tell_19 : decode cX3_tell 19 = .ok (.iastore, 1) := by decide +kernel
theorem dX3_tell_20 : decode cX3_tell 20 = .ok (.aload_n 0, 1) := by decide +kernel
theorem dX3_tell_21 : decode cX3_tell 21 = .ok (.getfield 21, 3) := by decide +kernel
theorem dX3_tell_24 : decode cX3_tell 24 = .ok (.aload_n 0, 1) := by decide +kernel
theorem dX3_tell_25 : decode cX3_tell 25 = .ok (.getfield 31, 3) := by decide +kernel
theorem dX3_tell_28 : decode cX3_tell 28 = .ok (.iload_n 2, 1) := by decide +kernel
theorem dX3_tell_29 : decode cX3_tell 29 = .ok (.iastore, 1) := by decide +kernel
theorem dX3_tell_30 : decode cX3_tell 30 = .ok (.aload_n 0, 1) := by decide +kernel
theorem dX3_tell_31 : decode cX3_tell 31 = .ok (.dup, 1) := by decide +kernel
theorem dX3_tell_32 : decode cX3_tell 32 = .ok (.getfield 31, 3) := by decide +kernel
theorem dX3_tell_35 : decode cX3_tell 35 = .ok (.iconst 1, 1) := by decide +kernel
theorem dX3_tell_36 : decode cX3_tell 36 = .ok (.iadd, 1) := by decide +kernel
theorem dX3_tell_37 : decode cX3_tell 37 = .ok (.putfield 31, 3) := by decide +kernel
theorem dX3_tell_40 : decode cX3_tell 40 = .ok (.return_, 1) := by decide +kernel
