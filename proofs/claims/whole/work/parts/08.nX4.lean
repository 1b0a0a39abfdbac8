set_option maxRecDepth 20000 in
theorem ggX4_init_X1_init : GoodIn wsX4_init wsX1_init := goodIn_r _ [23, 24, 2, 3, 25, 26, 27, 28, 29, 30, 31, 32, 33, 61, 62, 63, 64, 65, 66, 67] (by decide +kernel) (by decide +kernel)
set_option maxRecDepth 20000 in
theorem gX4_init_X1_init : GoodIn wsX4_init (wsX1_init) := ggX4_init_X1_init
set_option maxRecDepth 20000 in
theorem ggX4_init_X0_init : GoodIn wsX4_init wsX0_init := goodIn_r _ [36, 37, 2, 3, 30, 38, 39, 73, 74, 75] (by decide +kernel) (by decide +kernel)
set_option maxRecDepth 20000 in
theorem gX4_init_X0_init : GoodIn wsX4_init (wsX0_init) := ggX4_init_X0_init
set_option maxRecDepth 20000 in
theorem ggX4_init_X3_init : GoodIn wsX4_init wsX3_init := goodIn_r _ [42, 43, 2, 3, 30, 44, 45, 46, 47, 48, 76, 77, 78, 79, 80, 81, 82, 83] (by decide +kernel) (by decide +kernel)
set_option maxRecDepth 20000 in
theorem gX4_init_X3_init : GoodIn wsX4_init (wsX3_init) := ggX4_init_X3_init
set_option maxRecDepth 20000 in
theorem ggX4_init_X2_init : GoodIn wsX4_init wsX2_init := goodIn_r _ [51, 52, 2, 3, 30, 53, 54, 27, 55, 56, 57, 58, 59, 60, 84, 85, 86, 87, 88, 89, 90, 91, 92] (by decide +kernel) (by decide +kernel)
set_option maxRecDepth 20000 in
theorem gX4_init_X2_init : GoodIn wsX4_init (wsX2_init) := ggX4_init_X2_init
theorem dX4_init_0 : decode cX4_init 0 = .ok (.aload_n 0, 1) := by decide +kernel
theorem dX4_init_1 : decode cX4_init 1 = .ok (.invokespecial 1, 3) := by decide +kernel
theorem dX4_init_4 : decode cX4_init 4 = .ok (.aload_n 0, 1) := by decide +kernel
theorem dX4_init_5 : decode cX4_init 5 = .ok (.new 7, 3) := by decide +kernel
theorem dX4_init_8 : decode cX4_init 8 = .ok (.dup, 1) := by decide +kernel
theorem dX4_init_9 : decode cX4_init 9 = .ok (.invokespecial 9, 3) := by decide +kernel
theorem dX4_init_12 : decode cX4_init 12 = .ok (.putfield 10, 3) := by decide +kernel
theorem dX4_init_15 : decode cX4_init 15 = .ok (.aload_n 0, 1) := by decide +kernel
theorem dX4_init_16 : decode cX4_init 16 = .ok (.new 7, 3) := by decide +kernel
theorem dX4_init_19 : decode cX4_init 19 = .ok (.dup, 1) := by decide +kernel
theorem dX4_init_20 : decode cX4_init 20 = .ok (.invokespecial 9, 3) := by decide +kernel
theorem dX4_init_23 : decode cX4_init 23 = .ok (.putfield 16, 3) := by decide +kernel
theorem dX4_init_26 : decode cX4_init 26 = .ok (.aload_n 0, 1) := by decide +kernel
theorem dX4_init_27 : decode cX4_init 27 = .ok (.new 19, 3) := by decide +kernel
theorem dX4_init_30 : decode cX4_init 30 = .ok (.dup, 1) := by decide +kernel
theorem dX4_init_31 : decode cX4_init 31 = .ok (.invokespecial 21, 3) := by decide +kernel
theorem dX4_init_34 : decode cX4_init 34 = .ok (.putfield 22, 3) := by decide +kernel
theorem dX4_init_37 : decode cX4_init 37 = .ok (.aload_n 0, 1) := by decide +kernel
theorem dX4_init_38 : decode cX4_init 38 = .ok (.new 26, 3) := by decide +kernel
theorem dX4_init_41 : decode cX4_init 41 = .ok (.dup, 1) := by decide +kernel
theorem dX4_init_42 : decode cX4_init 42 = .ok (.invokespecial 28, 3) := by decide +kernel
theorem dX4_init_45 : decode cX4_init 45 = .ok (.putfield 29, 3) := by decide +kernel
theorem dX4_init_48 : decode cX4_init 48 = .ok (.aload_n 0, 1) := by decide +kernel
theorem dX4_init_49 : decode cX4_init 49 = .ok (.new 33, 3) := by decide +kernel
theorem dX4_init_52 : decode cX4_init 52 = .ok (.dup, 1) := by decide +kernel
theorem dX4_init_53 : decode cX4_init 53 = .ok (.invokespecial 35, 3) := by decide +kernel
theorem dX4_init_56 : decode cX4_init 56 = .ok (.putfield 36, 3) := by decide +kernel
theorem dX4_init_59 : decode cX4_init 59 = .ok (.return_, 1) := by decide +kernel
set_option maxRecDepth 20000 in
theorem ggX4_row_X4_slotOf : GoodIn wsX4_row wsX4_slotOf := goodIn_r _ [7, 8, 9, 6, 10, 11, 12, 13] (by decide +kernel) (by decide +kernel)
set_option maxRecDepth 20000 in
theorem gX4_row_X4_slotOf : GoodIn wsX4_row (va_wsS RX4 40 yX4_slotOf wsX4_slotOf) := goodIn_app (goodIn_of _ (by decide +kernel)) ggX4_row_X4_slotOf
set_option maxRecDepth 20000 in
theorem ggX4_row_X4_sideOf : GoodIn wsX4_row wsX4_sideOf := goodIn_r _ [17, 18, 19, 145, 146, 147, 148, 149] (by decide +kernel) (by decide +kernel)
set_option maxRecDepth 20000 in
theorem gX4_row_X4_sideOf : GoodIn wsX4_row (wsV RX4 51 RX4 yX4_sideOf wsX4_sideOf) := goodIn_app (goodIn_of _ (by decide +kernel)) ggX4_row_X4_sideOf
set_option maxRecDepth 20000 in
theorem ggX4_row_X1_put : GoodIn wsX4_row wsX1_put := goodIn_r _ [24, 25, 26, 27, 150, 151, 152, 153, 154, 155, 156] (by decide +kernel) (by decide +kernel)
set_option maxRecDepth 20000 in
theorem gX4_row_X1_put : GoodIn wsX4_row (wsV RX4 55 RX1 yX1_put wsX1_put) := goodIn_app (goodIn_of _ (by decide +kernel)) ggX4_row_X1_put
set_option maxRecDepth 20000 in
theorem ggX4_row_X4_leafOf : GoodIn wsX4_row wsX4_leafOf := goodIn_r _ [30] (by decide +kernel) (by decide +kernel)
set_option maxRecDepth 20000 in
theorem gX4_row_X4_leafOf : GoodIn wsX4_row (va_wsS RX4 59 yX4_leafOf wsX4_leafOf) := goodIn_app (goodIn_of _ (by decide +kernel)) ggX4_row_X4_leafOf
set_option maxRecDepth 20000 in
theorem ggX4_row_X4_otherOf : GoodIn wsX4_row wsX4_otherOf := goodIn_r _ [34, 19, 18, 145, 146, 147, 148, 149] (by decide +kernel) (by decide +kernel)
set_option maxRecDepth 20000 in
theorem gX4_row_X4_otherOf : GoodIn wsX4_row (wsV RX4 63 RX4 yX4_otherOf wsX4_otherOf) := goodIn_app (goodIn_of _ (by decide +kernel)) ggX4_row_X4_otherOf
set_option maxRecDepth 20000 in
theorem ggX4_row_X1_remake : GoodIn wsX4_row wsX1_remake := goodIn_r _ [38, 39, 40, 41, 42, 43, 23, 44, 45, 6, 46, 47, 48, 49, 50, 25, 51, 52, 53, 54, 55, 56, 57, 27, 58, 59, 60, 61, 62, 63, 64, 65, 66, 67, 68, 69, 70, 71, 72, 73, 74, 75, 76, 77, 78, 79, 80, 81, 82, 83, 84, 85, 86, 87, 88, 89, 90, 91, 92, 93, 94, 95, 96, 97, 98, 99, 100, 101, 102, 103, 104, 105, 106, 107, 108, 109, 110, 111, 112, 113, 114, 115, 116, 117, 118, 119, 120, 121, 122, 123, 124, 125, 126, 127, 128, 129, 130, 131, 132, 133, 134, 135, 136, 137, 138, 139, 140, 150, 151, 152, 153, 154, 155, 156, 157, 158, 159] (by decide +kernel) (by decide +kernel)
set_option maxRecDepth 20000 in
theorem gX4_row_X1_remake : GoodIn wsX4_row (wsV RX4 66 RX1 yX1_remake wsX1_remake) := goodIn_app (goodIn_of _ (by decide +kernel)) ggX4_row_X1_remake
set_option maxRecDepth 20000 in
theorem ggX4_row_X1_size : GoodIn wsX4_row wsX1_size := goodIn_r _ [144, 26, 150, 151, 152, 153, 154, 155, 156] (by decide +kernel) (by decide +kernel)
set_option maxRecDepth 20000 in
theorem gX4_row_X1_size : GoodIn wsX4_row (wsV RX4 70 RX1 yX1_size wsX1_size) := goodIn_app (goodIn_of _ (by decide +kernel)) ggX4_row_X1_size
theorem dX4_row_0 : decode cX4_row 0 = .ok (.iload_n 1, 1) := by decide +kernel
theorem dX4_row_1 : decode cX4_row 1 = .ok (.iload_n 2, 1) := by decide +kernel
theorem dX4_row_2 : decode cX4_row 2 = .ok (.iload_n 3, 1) := by decide +kernel
theorem dX4_row_3 : decode cX4_row 3 = .ok (.invokestatic 40, 3) := by decide +kernel
theorem dX4_row_6 : decode cX4_row 6 = .ok (.istore 6, 2) := by decide +kernel
theorem dX4_row_8 : decode cX4_row 8 = .ok (.iload 6, 2) := by decide +kernel
theorem dX4_row_10 : decode cX4_row 10 = .ok (.iconst (-1), 1) := by decide +kernel
theorem dX4_row_11 : decode cX4_row 11 = .ok (.if_icmp .ne 13, 3) := by decide +kernel
theorem dX4_row_14 : decode cX4_row 14 = .ok (.new 44, 3) := by decide +kernel
theorem dX4_row_17 : decode cX4_row 17 = .ok (.dup, 1) := by decide +kernel
theorem dX4_row_18 : decode cX4_row 18 = .ok (.ldc 46, 2) := by decide +kernel
theorem dX4_row_20 : decode cX4_row 20 = .ok (.invokespecial 48, 3) := by decide +kernel
theorem dX4_row_23 : decode cX4_row 23 = .ok (.athrow, 1) := by decide +kernel
theorem dX4_row_24 : decode cX4_row 24 = .ok (.aload_n 0, 1) := by decide +kernel
theorem dX4_row_25 : decode cX4_row 25 = .ok (.iload_n 1, 1) := by decide +kernel
theorem dX4_row_26 : decode cX4_row 26 = .ok (.invokevirtual 51, 3) := by decide +kernel
theorem dX4_row_29 : decode cX4_row 29 = .ok (.astore 7, 2) := by decide +kernel
theorem dX4_row_31 : decode cX4_row 31 = .ok (.aload 7, 2) := by decide +kernel
theorem dX4_row_33 : decode cX4_row 33 = .ok (.iload 6, 2) := by decide +kernel
theorem dX4_row_35 : decode cX4_row 35 = .ok (.lload 4, 2) := by decide +kernel
theorem dX4_row_37 : decode cX4_row 37 = .ok (.invokevirtual 55, 3) := by decide +kernel
theorem dX4_row_40 : decode cX4_row 40 = .ok (.aload 7, 2) := by decide +kernel
theorem dX4_row_42 : decode cX4_row 42 = .ok (.iload 6, 2) := by decide +kernel
theorem dX4_row_44 : decode cX4_row 44 = .ok (.invokestatic 59, 3) := by decide +kernel
theorem dX4_row_47 : decode cX4_row 47 = .ok (.iload 6, 2) := by decide +kernel
theorem dX4_row_49 : decode cX4_row 49 = .ok (.invokestatic 59, 3) := by decide +kernel
theorem dX4_row_52 : decode cX4_row 52 = .ok (.aload_n 0, 1) := by decide +kernel
theorem dX4_row_53 : decode cX4_row 53 = .ok (.iload_n 1, 1) := by decide +kernel
theorem dX4_row_54 : decode cX4_row 54 = .ok (.invokevirtual 63, 3) := by decide +kernel
theorem dX4_row_57 : decode cX4_row 57 = .ok (.aload_n 0, 1) := by decide +kernel
theorem dX4_row_58 : decode cX4_row 58 = .ok (.getfield 22, 3) := by decide +kernel
theorem dX4_row_61 : decode cX4_row 61 = .ok (.invokevirtual 66, 3) := by decide +kernel
theorem dX4_row_64 : decode cX4_row 64 = .ok (.pop, 1) := by decide +kernel
theorem dX4_row_65 : decode cX4_row 65 = .ok (.aload 7, 2) := by decide +kernel
theorem dX4_row_67 : decode cX4_row 67 = .ok (.invokevirtual 70, 3) := by decide +kernel
theorem dX4_row_70 : decode cX4_row 70 = .ok (.ireturn, 1) := by decide +kernel
set_option maxRecDepth 20000 in
theorem ggX4_drop_X4_slotOf : GoodIn wsX4_drop wsX4_slotOf := goodIn_r _ [5, 6, 7, 4, 8, 9, 10, 11] (by decide +kernel) (by decide +kernel)
set_option maxRecDepth 20000 in
theorem gX4_drop_X4_slotOf : GoodIn wsX4_drop (va_wsS RX4 40 yX4_slotOf wsX4_slotOf) := goodIn_app (goodIn_of _ (by decide +kernel)) ggX4_drop_X4_slotOf
set_option maxRecDepth 20000 in
theorem ggX4_drop_X4_sideOf : GoodIn wsX4_drop wsX4_sideOf := goodIn_r _ [15, 16, 17, 143, 144, 145, 146, 147] (by decide +kernel) (by decide +kernel)
set_option maxRecDepth 20000 in
theorem gX4_drop_X4_sideOf : GoodIn wsX4_drop (wsV RX4 51 RX4 yX4_sideOf wsX4_sideOf) := goodIn_app (goodIn_of _ (by decide +kernel)) ggX4_drop_X4_sideOf
set_option maxRecDepth 20000 in
theorem ggX4_drop_X1_has : GoodIn wsX4_drop wsX1_has := goodIn_r _ [22, 23, 148, 149, 150, 151, 152, 153, 154] (by decide +kernel) (by decide +kernel)
set_option maxRecDepth 20000 in
theorem gX4_drop_X1_has : GoodIn wsX4_drop (wsV RX4 74 RX1 yX1_has wsX1_has) := goodIn_app (goodIn_of _ (by decide +kernel)) ggX4_drop_X1_has
set_option maxRecDepth 20000 in
theorem ggX4_drop_X1_remove : GoodIn wsX4_drop wsX1_remove := goodIn_r _ [27, 23, 28, 148, 149, 150, 151, 152, 153, 154] (by decide +kernel) (by decide +kernel)
set_option maxRecDepth 20000 in
theorem gX4_drop_X1_remove : GoodIn wsX4_drop (wsV RX4 78 RX1 yX1_remove wsX1_remove) := goodIn_app (goodIn_of _ (by decide +kernel)) ggX4_drop_X1_remove
set_option maxRecDepth 20000 in
theorem ggX4_drop_X4_leafOf : GoodIn wsX4_drop wsX4_leafOf := goodIn_r _ [31] (by decide +kernel) (by decide +kernel)
set_option maxRecDepth 20000 in
theorem gX4_drop_X4_leafOf : GoodIn wsX4_drop (va_wsS RX4 59 yX4_leafOf wsX4_leafOf) := goodIn_app (goodIn_of _ (by decide +kernel)) ggX4_drop_X4_leafOf
set_option maxRecDepth 20000 in
theorem ggX4_drop_X4_otherOf : GoodIn wsX4_drop wsX4_otherOf := goodIn_r _ [35, 17, 16, 143, 144, 145, 146, 147] (by decide +kernel) (by decide +kernel)
set_option maxRecDepth 20000 in
theorem gX4_drop_X4_otherOf : GoodIn wsX4_drop (wsV RX4 63 RX4 yX4_otherOf wsX4_otherOf) := goodIn_app (goodIn_of _ (by decide +kernel)) ggX4_drop_X4_otherOf
set_option maxRecDepth 20000 in
theorem ggX4_drop_X1_remake : GoodIn wsX4_drop wsX1_remake := goodIn_r _ [39, 40, 41, 42, 43, 44, 21, 45, 46, 4, 47, 48, 49, 50, 51, 23, 52, 53, 54, 55, 56, 57, 58, 59, 60, 61, 62, 63, 64, 65, 66, 67, 68, 69, 70, 71, 72, 73, 74, 75, 76, 77, 78, 79, 80, 81, 82, 83, 84, 85, 86, 87, 88, 89, 90, 91, 92, 93, 94, 95, 96, 97, 98, 99, 100, 101, 102, 103, 104, 105, 106, 107, 108, 109, 110, 111, 112, 113, 114, 115, 116, 117, 118, 119, 120, 121, 122, 123, 124, 125, 126, 127, 128, 129, 130, 131, 132, 133, 134, 135, 136, 137, 138, 139, 140, 141, 142, 148, 149, 150, 151, 152, 153, 154, 155, 156, 157] (by decide +kernel) (by decide +kernel)
set_option maxRecDepth 20000 in
theorem gX4_drop_X1_remake : GoodIn wsX4_drop (wsV RX4 66 RX1 yX1_remake wsX1_remake) := goodIn_app (goodIn_of _ (by decide +kernel)) ggX4_drop_X1_remake
theorem dX4_drop_0 : decode cX4_drop 0 = .ok (.iload_n 1, 1) := by decide +kernel
theorem dX4_drop_1 : decode cX4_drop 1 = .ok (.iload_n 2, 1) := by decide +kernel
theorem dX4_drop_2 : decode cX4_drop 2 = .ok (.iload_n 3, 1) := by decide +kernel
theorem dX4_drop_3 : decode cX4_drop 3 = .ok (.invokestatic 40, 3) := by decide +kernel
theorem dX4_drop_6 : decode cX4_drop 6 = .ok (.istore 4, 2) := by decide +kernel
theorem dX4_drop_8 : decode cX4_drop 8 = .ok (.iload 4, 2) := by decide +kernel
theorem dX4_drop_10 : decode cX4_drop 10 = .ok (.iconst (-1), 1) := by decide +kernel
theorem dX4_drop_11 : decode cX4_drop 11 = .ok (.if_icmp .eq 16, 3) := by decide +kernel
theorem dX4_drop_14 : decode cX4_drop 14 = .ok (.aload_n 0, 1) := by decide +kernel
theorem dX4_drop_15 : decode cX4_drop 15 = .ok (.iload_n 1, 1) := by decide +kernel
theorem dX4_drop_16 : decode cX4_drop 16 = .ok (.invokevirtual 51, 3) := by decide +kernel
theorem dX4_drop_19 : decode cX4_drop 19 = .ok (.iload 4, 2) := by decide +kernel
theorem dX4_drop_21 : decode cX4_drop 21 = .ok (.invokevirtual 74, 3) := by decide +kernel
theorem dX4_drop_24 : decode cX4_drop 24 = .ok (.ifCond .ne 5, 3) := by decide +kernel
theorem dX4_drop_27 : decode cX4_drop 27 = .ok (.iconst 0, 1) := by decide +kernel
theorem dX4_drop_28 : decode cX4_drop 28 = .ok (.ireturn, 1) := by decide +kernel
theorem dX4_drop_29 : decode cX4_drop 29 = .ok (.aload_n 0, 1) := by decide +kernel
theorem dX4_drop_30 : decode cX4_drop 30 = .ok (.iload_n 1, 1) := by decide +kernel
theorem dX4_drop_31 : decode cX4_drop 31 = .ok (.invokevirtual 51, 3) := by decide +kernel
theorem dX4_drop_34 : decode cX4_drop 34 = .ok (.iload 4, 2) := by decide +kernel
theorem dX4_drop_36 : decode cX4_drop 36 = .ok (.invokevirtual 78, 3) := by decide +kernel
theorem dX4_drop_39 : decode cX4_drop 39 = .ok (.aload_n 0, 1) := by decide +kernel
theorem dX4_drop_40 : decode cX4_drop 40 = .ok (.iload_n 1, 1) := by decide +kernel
theorem dX4_drop_41 : decode cX4_drop 41 = .ok (.invokevirtual 51, 3) := by decide +kernel
theorem dX4_drop_44 : decode cX4_drop 44 = .ok (.iload 4, 2) := by decide +kernel
theorem dX4_drop_46 : decode cX4_drop 46 = .ok (.invokestatic 59, 3) := by decide +kernel
theorem dX4_drop_49 : decode cX4_drop 49 = .ok (.iload 4, 2) := by decide +kernel
theorem dX4_drop_51 : decode cX4_drop 51 = .ok (.invokestatic 59, 3) := by decide +kernel
theorem dX4_drop_54 : decode cX4_drop 54 = .ok (.aload_n 0, 1) := by decide +kernel
theorem dX4_drop_55 : decode cX4_drop 55 = .ok (.iload_n 1, 1) := by decide +kernel
theorem dX4_drop_56 : decode cX4_drop 56 = .ok (.invokevirtual 63, 3) := by decide +kernel
theorem dX4_drop_59 : decode cX4_drop 59 = .ok (.aload_n 0, 1) := by decide +kernel
theorem dX4_drop_60 : decode cX4_drop 60 = .ok (.getfield 22, 3) := by decide +kernel
theorem dX4_drop_63 : decode cX4_drop 63 = .ok (.invokevirtual 66, 3) := by decide +kernel
theorem dX4_drop_66 : decode cX4_drop 66 = .ok (.pop, 1) := by decide +kernel
theorem dX4_drop_67 : decode cX4_drop 67 = .ok (.iconst 1, 1) := by decide +kernel
theorem dX4_drop_68 : decode cX4_drop 68 = .ok (.ireturn, 1) := by decide +kernel
set_option maxRecDepth 20000 in
theorem ggX4_hold_X4_isSide : GoodIn wsX4_hold wsX4_isSide := goodIn_r _ [7] (by decide +kernel) (by decide +kernel)
set_option maxRecDepth 20000 in
theorem gX4_hold_X4_isSide : GoodIn wsX4_hold (va_wsS RX4 82 yX4_isSide wsX4_isSide) := goodIn_app (goodIn_of _ (by decide +kernel)) ggX4_hold_X4_isSide
set_option maxRecDepth 20000 in
theorem ggX4_hold_X4_isNode : GoodIn wsX4_hold wsX4_isNode := goodIn_r _ [10] (by decide +kernel) (by decide +kernel)
set_option maxRecDepth 20000 in
theorem gX4_hold_X4_isNode : GoodIn wsX4_hold (va_wsS RX4 85 yX4_isNode wsX4_isNode) := goodIn_app (goodIn_of _ (by decide +kernel)) ggX4_hold_X4_isNode
set_option maxRecDepth 20000 in
theorem ggX4_hold_X4_sideOf : GoodIn wsX4_hold wsX4_sideOf := goodIn_r _ [14, 1, 2, 132, 133, 134, 135, 136] (by decide +kernel) (by decide +kernel)
set_option maxRecDepth 20000 in
theorem gX4_hold_X4_sideOf : GoodIn wsX4_hold (wsV RX4 51 RX4 yX4_sideOf wsX4_sideOf) := goodIn_app (goodIn_of _ (by decide +kernel)) ggX4_hold_X4_sideOf
set_option maxRecDepth 20000 in
theorem ggX4_hold_X1_holds : GoodIn wsX4_hold wsX1_holds := goodIn_r _ [19, 20, 137, 138, 139, 140, 141, 142, 143] (by decide +kernel) (by decide +kernel)
set_option maxRecDepth 20000 in
theorem gX4_hold_X1_holds : GoodIn wsX4_hold (wsV RX4 88 RX1 yX1_holds wsX1_holds) := goodIn_app (goodIn_of _ (by decide +kernel)) ggX4_hold_X1_holds
set_option maxRecDepth 20000 in
theorem ggX4_hold_X1_setHolding : GoodIn wsX4_hold wsX1_setHolding := goodIn_r _ [24, 20, 137, 138, 139, 140, 141, 142, 143] (by decide +kernel) (by decide +kernel)
set_option maxRecDepth 20000 in
theorem gX4_hold_X1_setHolding : GoodIn wsX4_hold (wsV RX4 91 RX1 yX1_setHolding wsX1_setHolding) := goodIn_app (goodIn_of _ (by decide +kernel)) ggX4_hold_X1_setHolding
set_option maxRecDepth 20000 in
theorem ggX4_hold_X1_remake : GoodIn wsX4_hold wsX1_remake := goodIn_r _ [28, 29, 30, 31, 32, 33, 18, 34, 35, 6, 36, 37, 38, 39, 40, 41, 20, 42, 43, 44, 45, 46, 47, 48, 49, 50, 51, 52, 53, 54, 55, 56, 57, 58, 59, 60, 61, 62, 63, 64, 65, 66, 67, 68, 69, 70, 71, 72, 73, 74, 75, 76, 77, 78, 79, 80, 81, 82, 83, 84, 85, 86, 87, 88, 89, 90, 91, 92, 93, 94, 95, 96, 97, 98, 99, 100, 101, 102, 103, 104, 105, 106, 107, 108, 109, 110, 111, 112, 113, 114, 115, 116, 117, 118, 119, 120, 121, 122, 123, 124, 125, 126, 127, 128, 129, 130, 131, 137, 138, 139, 140, 141, 142, 143, 144, 145, 146] (by decide +kernel) (by decide +kernel)
set_option maxRecDepth 20000 in
theorem gX4_hold_X1_remake : GoodIn wsX4_hold (wsV RX4 66 RX1 yX1_remake wsX1_remake) := goodIn_app (goodIn_of _ (by decide +kernel)) ggX4_hold_X1_remake
theorem dX4_hold_0 : decode cX4_hold 0 = .ok (.iload_n 1, 1) := by decide +kernel
theorem dX4_hold_1 : decode cX4_hold 1 = .ok (.invokestatic 82, 3) := by decide +kernel
theorem dX4_hold_4 : decode cX4_hold 4 = .ok (.ifCond .eq 23, 3) := by decide +kernel
theorem dX4_hold_7 : decode cX4_hold 7 = .ok (.iload_n 2, 1) := by decide +kernel
theorem dX4_hold_8 : decode cX4_hold 8 = .ok (.invokestatic 85, 3) := by decide +kernel
theorem dX4_hold_11 : decode cX4_hold 11 = .ok (.ifCond .eq 16, 3) := by decide +kernel
theorem dX4_hold_14 : decode cX4_hold 14 = .ok (.aload_n 0, 1) := by decide +kernel
theorem dX4_hold_15 : decode cX4_hold 15 = .ok (.iload_n 1, 1) := by decide +kernel
theorem dX4_hold_16 : decode cX4_hold 16 = .ok (.invokevirtual 51, 3) := by decide +kernel
theorem dX4_hold_19 : decode cX4_hold 19 = .ok (.iload_n 2, 1) := by decide +kernel
theorem dX4_hold_20 : decode cX4_hold 20 = .ok (.invokevirtual 88, 3) := by decide +kernel
theorem dX4_hold_23 : decode cX4_hold 23 = .ok (.iload_n 3, 1) := by decide +kernel
theorem dX4_hold_24 : decode cX4_hold 24 = .ok (.if_icmp .ne 5, 3) := by decide +kernel
theorem dX4_hold_27 : decode cX4_hold 27 = .ok (.iconst 0, 1) := by decide +kernel
theorem dX4_hold_28 : decode cX4_hold 28 = .ok (.ireturn, 1) := by decide +kernel
theorem dX4_hold_29 : decode cX4_hold 29 = .ok (.aload_n 0, 1) := by decide +kernel
theorem dX4_hold_30 : decode cX4_hold 30 = .ok (.iload_n 1, 1) := by decide +kernel
theorem dX4_hold_31 : decode cX4_hold 31 = .ok (.invokevirtual 51, 3) := by decide +kernel
theorem dX4_hold_34 : decode cX4_hold 34 = .ok (.iload_n 2, 1) := by decide +kernel
theorem dX4_hold_35 : decode cX4_hold 35 = .ok (.iload_n 3, 1) := by decide +kernel
theorem dX4_hold_36 : decode cX4_hold 36 = .ok (.invokevirtual 91, 3) := by decide +kernel
theorem dX4_hold_39 : decode cX4_hold 39 = .ok (.bipush 32, 2) := by decide +kernel
theorem dX4_hold_41 : decode cX4_hold 41 = .ok (.bipush 8, 2) := by decide +kernel
theorem dX4_hold_43 : decode cX4_hold 43 = .ok (.iload_n 2, 1) := by decide +kernel
theorem dX4_hold_44 : decode cX4_hold 44 = .ok (.imul, 1) := by decide +kernel
theorem dX4_hold_45 : decode cX4_hold 45 = .ok (.iadd, 1) := by decide +kernel
theorem dX4_hold_46 : decode cX4_hold 46 = .ok (.istore 4, 2) := by decide +kernel
theorem dX4_hold_48 : decode cX4_hold 48 = .ok (.iload 4, 2) := by decide +kernel
theorem dX4_hold_50 : decode cX4_hold 50 = .ok (.bipush 8, 2) := by decide +kernel
theorem dX4_hold_52 : decode cX4_hold 52 = .ok (.iadd, 1) := by decide +kernel
theorem dX4_hold_53 : decode cX4_hold 53 = .ok (.iconst 1, 1) := by decide +kernel
theorem dX4_hold_54 : decode cX4_hold 54 = .ok (.isub, 1) := by decide +kernel
theorem dX4_hold_55 : decode cX4_hold 55 = .ok (.istore 5, 2) := by decide +kernel
theorem dX4_hold_57 : decode cX4_hold 57 = .ok (.aload_n 0, 1) := by decide +kernel
theorem dX4_hold_58 : decode cX4_hold 58 = .ok (.getfield 10, 3) := by decide +kernel
theorem dX4_hold_61 : decode cX4_hold 61 = .ok (.iload 4, 2) := by decide +kernel
theorem dX4_hold_63 : decode cX4_hold 63 = .ok (.iload 5, 2) := by decide +kernel
theorem dX4_hold_65 : decode cX4_hold 65 = .ok (.aload_n 0, 1) := by decide +kernel
theorem dX4_hold_66 : decode cX4_hold 66 = .ok (.getfield 16, 3) := by decide +kernel
theorem dX4_hold_69 : decode cX4_hold 69 = .ok (.aload_n 0, 1) := by decide +kernel
theorem dX4_hold_70 : decode cX4_hold 70 = .ok (.getfield 22, 3) := by decide +kernel
theorem dX4_hold_73 : decode cX4_hold 73 = .ok (.invokevirtual 66, 3) := by decide +kernel
theorem dX4_hold_76 : decode cX4_hold 76 = .ok (.pop, 1) := by decide +kernel
theorem dX4_hold_77 : decode cX4_hold 77 = .ok (.aload_n 0, 1) := by decide +kernel
theorem dX4_hold_78 : decode cX4_hold 78 = .ok (.getfield 16, 3) := by decide +kernel
theorem dX4_hold_81 : decode cX4_hold 81 = .ok (.iload 4, 2) := by decide +kernel
theorem dX4_hold_83 : decode cX4_hold 83 = .ok (.iload 5, 2) := by decide +kernel
theorem dX4_hold_85 : decode cX4_hold 85 = .ok (.aload_n 0, 1) := by decide +kernel
theorem dX4_hold_86 : decode cX4_hold 86 = .ok (.getfield 10, 3) := by decide +kernel
theorem dX4_hold_89 : decode cX4_hold 89 = .ok (.aload_n 0, 1) := by decide +kernel
theorem dX4_hold_90 : decode cX4_hold 90 = .ok (.getfield 22, 3) := by decide +kernel
theorem dX4_hold_93 : decode cX4_hold 93 = .ok (.invokevirtual 66, 3) := by decide +kernel
theorem dX4_hold_96 : decode cX4_hold 96 = .ok (.pop, 1) := by decide +kernel
theorem dX4_hold_97 : decode cX4_hold 97 = .ok (.iconst 1, 1) := by decide +kernel
theorem dX4_hold_98 : decode cX4_hold 98 = .ok (.ireturn, 1) := by decide +kernel
set_option maxRecDepth 20000 in
theorem ggX4_poke_X4_slotOf : GoodIn wsX4_poke wsX4_slotOf := goodIn_r _ [4, 5, 6, 3, 7, 8, 9, 10] (by decide +kernel) (by decide +kernel)
set_option maxRecDepth 20000 in
theorem gX4_poke_X4_slotOf : GoodIn wsX4_poke (va_wsS RX4 40 yX4_slotOf wsX4_slotOf) := goodIn_app (goodIn_of _ (by decide +kernel)) ggX4_poke_X4_slotOf
set_option maxRecDepth 20000 in
theorem ggX4_poke_X4_sideOf : GoodIn wsX4_poke wsX4_sideOf := goodIn_r _ [14, 15, 16, 33, 34, 35, 36, 37] (by decide +kernel) (by decide +kernel)
set_option maxRecDepth 20000 in
theorem gX4_poke_X4_sideOf : GoodIn wsX4_poke (wsV RX4 51 RX4 yX4_sideOf wsX4_sideOf) := goodIn_app (goodIn_of _ (by decide +kernel)) ggX4_poke_X4_sideOf
set_option maxRecDepth 20000 in
theorem ggX4_poke_X1_has : GoodIn wsX4_poke wsX1_has := goodIn_r _ [21, 22, 38, 39, 40, 41, 42, 43, 44] (by decide +kernel) (by decide +kernel)
set_option maxRecDepth 20000 in
theorem gX4_poke_X1_has : GoodIn wsX4_poke (wsV RX4 74 RX1 yX1_has wsX1_has) := goodIn_app (goodIn_of _ (by decide +kernel)) ggX4_poke_X1_has
set_option maxRecDepth 20000 in
theorem ggX4_poke_X1_value : GoodIn wsX4_poke wsX1_value := goodIn_r _ [26, 27, 38, 39, 40, 41, 42, 43, 44] (by decide +kernel) (by decide +kernel)
set_option maxRecDepth 20000 in
theorem gX4_poke_X1_value : GoodIn wsX4_poke (wsV RX4 95 RX1 yX1_value wsX1_value) := goodIn_app (goodIn_of _ (by decide +kernel)) ggX4_poke_X1_value
set_option maxRecDepth 20000 in
theorem ggX4_poke_X1_put : GoodIn wsX4_poke wsX1_put := goodIn_r _ [31, 22, 32, 27, 38, 39, 40, 41, 42, 43, 44] (by decide +kernel) (by decide +kernel)
set_option maxRecDepth 20000 in
theorem gX4_poke_X1_put : GoodIn wsX4_poke (wsV RX4 55 RX1 yX1_put wsX1_put) := goodIn_app (goodIn_of _ (by decide +kernel)) ggX4_poke_X1_put
theorem dX4_poke_0 : decode cX4_poke 0 = .ok (.iload_n 1, 1) := by decide +kernel
theorem dX4_poke_1 : decode cX4_poke 1 = .ok (.iload_n 2, 1) := by decide +kernel
theorem dX4_poke_2 : decode cX4_poke 2 = .ok (.iload_n 3, 1) := by decide +kernel
theorem dX4_poke_3 : decode cX4_poke 3 = .ok (.invokestatic 40, 3) := by decide +kernel
theorem dX4_poke_6 : decode cX4_poke 6 = .ok (.istore 6, 2) := by decide +kernel
theorem dX4_poke_8 : decode cX4_poke 8 = .ok (.iload 6, 2) := by decide +kernel
theorem dX4_poke_10 : decode cX4_poke 10 = .ok (.iconst (-1), 1) := by decide +kernel
theorem dX4_poke_11 : decode cX4_poke 11 = .ok (.if_icmp .eq 23, 3) := by decide +kernel
theorem dX4_poke_14 : decode cX4_poke 14 = .ok (.lload 4, 2) := by decide +kernel
theorem dX4_poke_16 : decode cX4_poke 16 = .ok (.lconst 0, 1) := by decide +kernel
theorem dX4_poke_17 : decode cX4_poke 17 = .ok (.lcmp, 1) := by decide +kernel
theorem dX4_poke_18 : decode cX4_poke 18 = .ok (.ifCond .eq 16, 3) := by decide +kernel
theorem dX4_poke_21 : decode cX4_poke 21 = .ok (.aload_n 0, 1) := by decide +kernel
theorem dX4_poke_22 : decode cX4_poke 22 = .ok (.iload_n 1, 1) := by decide +kernel
theorem dX4_poke_23 : decode cX4_poke 23 = .ok (.invokevirtual 51, 3) := by decide +kernel
theorem dX4_poke_26 : decode cX4_poke 26 = .ok (.iload 6, 2) := by decide +kernel
theorem dX4_poke_28 : decode cX4_poke 28 = .ok (.invokevirtual 74, 3) := by decide +kernel
theorem dX4_poke_31 : decode cX4_poke 31 = .ok (.ifCond .ne 5, 3) := by decide +kernel
theorem dX4_poke_34 : decode cX4_poke 34 = .ok (.iconst 0, 1) := by decide +kernel
theorem dX4_poke_35 : decode cX4_poke 35 = .ok (.ireturn, 1) := by decide +kernel
theorem dX4_poke_36 : decode cX4_poke 36 = .ok (.aload_n 0, 1) := by decide +kernel
theorem dX4_poke_37 : decode cX4_poke 37 = .ok (.iload_n 1, 1) := by decide +kernel
theorem dX4_poke_38 : decode cX4_poke 38 = .ok (.invokevirtual 51, 3) := by decide +kernel
theorem dX4_poke_41 : decode cX4_poke 41 = .ok (.iload 6, 2) := by decide +kernel
theorem dX4_poke_43 : decode cX4_poke 43 = .ok (.aload_n 0, 1) := by decide +kernel
theorem dX4_poke_44 : decode cX4_poke 44 = .ok (.iload_n 1, 1) := by decide +kernel
theorem dX4_poke_45 : decode cX4_poke 45 = .ok (.invokevirtual 51, 3) := by decide +kernel
theorem dX4_poke_48 : decode cX4_poke 48 = .ok (.iload 6, 2) := by decide +kernel
theorem dX4_poke_50 : decode cX4_poke 50 = .ok (.invokevirtual 95, 3) := by decide +kernel
theorem dX4_poke_53 : decode cX4_poke 53 = .ok (.lload 4, 2) := by decide +kernel
theorem dX4_poke_55 : decode cX4_poke 55 = .ok (.lxor, 1) := by decide +kernel
theorem dX4_poke_56 : decode cX4_poke 56 = .ok (.invokevirtual 55, 3) := by decide +kernel
theorem dX4_poke_59 : decode cX4_poke 59 = .ok (.iconst 1, 1) := by decide +kernel
theorem dX4_poke_60 : decode cX4_poke 60 = .ok (.ireturn, 1) := by decide +kernel
set_option maxRecDepth 20000 in
theorem ggX4_get_X4_slotOf : GoodIn wsX4_get wsX4_slotOf := goodIn_r _ [6, 7, 8, 5, 9, 10, 11, 12] (by decide +kernel) (by decide +kernel)
set_option maxRecDepth 20000 in
theorem gX4_get_X4_slotOf : GoodIn wsX4_get (va_wsS RX4 40 yX4_slotOf wsX4_slotOf) := goodIn_app (goodIn_of _ (by decide +kernel)) ggX4_get_X4_slotOf
set_option maxRecDepth 20000 in
theorem ggX4_get_X4_sideOf : GoodIn wsX4_get wsX4_sideOf := goodIn_r _ [16, 17, 18, 30, 31, 32, 33, 34] (by decide +kernel) (by decide +kernel)
set_option maxRecDepth 20000 in
theorem gX4_get_X4_sideOf : GoodIn wsX4_get (wsV RX4 51 RX4 yX4_sideOf wsX4_sideOf) := goodIn_app (goodIn_of _ (by decide +kernel)) ggX4_get_X4_sideOf
set_option maxRecDepth 20000 in
theorem ggX4_get_X1_has : GoodIn wsX4_get wsX1_has := goodIn_r _ [23, 24, 35, 36, 37, 38, 39, 40, 41] (by decide +kernel) (by decide +kernel)
set_option maxRecDepth 20000 in
theorem gX4_get_X1_has : GoodIn wsX4_get (wsV RX4 74 RX1 yX1_has wsX1_has) := goodIn_app (goodIn_of _ (by decide +kernel)) ggX4_get_X1_has
set_option maxRecDepth 20000 in
theorem ggX4_get_X1_value : GoodIn wsX4_get wsX1_value := goodIn_r _ [28, 29, 35, 36, 37, 38, 39, 40, 41] (by decide +kernel) (by decide +kernel)
set_option maxRecDepth 20000 in
theorem gX4_get_X1_value : GoodIn wsX4_get (wsV RX4 95 RX1 yX1_value wsX1_value) := goodIn_app (goodIn_of _ (by decide +kernel)) ggX4_get_X1_value
theorem dX4_get_0 : decode cX4_get 0 = .ok (.iload_n 1, 1) := by decide +kernel
theorem dX4_get_1 : decode cX4_get 1 = .ok (.iload_n 2, 1) := by decide +kernel
theorem dX4_get_2 : decode cX4_get 2 = .ok (.iload_n 3, 1) := by decide +kernel
theorem dX4_get_3 : decode cX4_get 3 = .ok (.invokestatic 40, 3) := by decide +kernel
theorem dX4_get_6 : decode cX4_get 6 = .ok (.istore 4, 2) := by decide +kernel
theorem dX4_get_8 : decode cX4_get 8 = .ok (.iload 4, 2) := by decide +kernel
theorem dX4_get_10 : decode cX4_get 10 = .ok (.iconst (-1), 1) := by decide +kernel
theorem dX4_get_11 : decode cX4_get 11 = .ok (.if_icmp .eq 16, 3) := by decide +kernel
theorem dX4_get_14 : decode cX4_get 14 = .ok (.aload_n 0, 1) := by decide +kernel
theorem dX4_get_15 : decode cX4_get 15 = .ok (.iload_n 1, 1) := by decide +kernel
theorem dX4_get_16 : decode cX4_get 16 = .ok (.invokevirtual 51, 3) := by decide +kernel
theorem dX4_get_19 : decode cX4_get 19 = .ok (.iload 4, 2) := by decide +kernel
theorem dX4_get_21 : decode cX4_get 21 = .ok (.invokevirtual 74, 3) := by decide +kernel
theorem dX4_get_24 : decode cX4_get 24 = .ok (.ifCond .ne 13, 3) := by decide +kernel
theorem dX4_get_27 : decode cX4_get 27 = .ok (.new 99, 3) := by decide +kernel
theorem dX4_get_30 : decode cX4_get 30 = .ok (.dup, 1) := by decide +kernel
theorem dX4_get_31 : decode cX4_get 31 = .ok (.ldc 101, 2) := by decide +kernel
theorem dX4_get_33 : decode cX4_get 33 = .ok (.invokespecial 103, 3) := by decide +kernel
theorem dX4_get_36 : decode cX4_get 36 = .ok (.athrow, 1) := by decide +kernel
theorem dX4_get_37 : decode cX4_get 37 = .ok (.aload_n 0, 1) := by decide +kernel
theorem dX4_get_38 : decode cX4_get 38 = .ok (.iload_n 1, 1) := by decide +kernel
theorem dX4_get_39 : decode cX4_get 39 = .ok (.invokevirtual 51, 3) := by decide +kernel
theorem dX4_get_42 : decode cX4_get 42 = .ok (.iload 4, 2) := by decide +kernel
theorem dX4_get_44 : decode cX4_get 44 = .ok (.invokevirtual 95, 3) := by decide +kernel
theorem dX4_get_47 : decode cX4_get 47 = .ok (.lreturn, 1) := by decide +kernel
set_option maxRecDepth 20000 in
theorem ggX4_begin_X3_restart : GoodIn wsX4_begin wsX3_restart := goodIn_r _ [6, 7, 8, 9, 10, 16, 17, 18, 19, 20, 21, 22, 23] (by decide +kernel) (by decide +kernel)
set_option maxRecDepth 20000 in
theorem gX4_begin_X3_restart : GoodIn wsX4_begin (wsV RX4 104 RX3 yX3_restart wsX3_restart) := goodIn_app (goodIn_of _ (by decide +kernel)) ggX4_begin_X3_restart
theorem dX4_begin_0 : decode cX4_begin 0 = .ok (.aload_n 0, 1) := by decide +kernel
theorem dX4_begin_1 : decode cX4_begin 1 = .ok (.getfield 29, 3) := by decide +kernel
theorem dX4_begin_4 : decode cX4_begin 4 = .ok (.invokevirtual 104, 3) := by decide +kernel
theorem dX4_begin_7 : decode cX4_begin 7 = .ok (.return_, 1) := by decide +kernel
set_option maxRecDepth 20000 in
theorem ggX4_round_X3_pending : GoodIn wsX4_round wsX3_pending := goodIn_r _ [10, 11, 72, 73, 74, 75, 76, 77, 78, 79] (by decide +kernel) (by decide +kernel)
set_option maxRecDepth 20000 in
theorem gX4_round_X3_pending : GoodIn wsX4_round (wsV RX4 107 RX3 yX3_pending wsX3_pending) := goodIn_app (goodIn_of _ (by decide +kernel)) ggX4_round_X3_pending
set_option maxRecDepth 20000 in
theorem ggX4_round_X3_lookAtAll : GoodIn wsX4_round wsX3_lookAtAll := goodIn_r _ [15, 16, 11, 17, 18, 19, 20, 21, 22, 23, 24, 25, 26, 9, 27, 28, 29, 30, 31, 32, 33, 34, 35, 36, 37, 38, 39, 40, 41, 42, 43, 44, 45, 46, 47, 48, 49, 50, 51, 52, 53, 54, 55, 56, 57, 58, 59, 60, 61, 62, 63, 64, 65, 66, 72, 73, 74, 75, 76, 77, 78, 79, 80, 81, 82, 83, 84, 85, 86] (by decide +kernel) (by decide +kernel)
set_option maxRecDepth 20000 in
theorem gX4_round_X3_lookAtAll : GoodIn wsX4_round (wsV RX4 115 RX3 yX3_lookAtAll wsX3_lookAtAll) := goodIn_app (goodIn_of _ (by decide +kernel)) ggX4_round_X3_lookAtAll
theorem dX4_round_0 : decode cX4_round 0 = .ok (.aload_n 0, 1) := by decide +kernel
theorem dX4_round_1 : decode cX4_round 1 = .ok (.getfield 29, 3) := by decide +kernel
theorem dX4_round_4 : decode cX4_round 4 = .ok (.invokevirtual 107, 3) := by decide +kernel
theorem dX4_round_7 : decode cX4_round 7 = .ok (.ifCond .ne 13, 3) := by decide +kernel
theorem dX4_round_10 : decode cX4_round 10 = .ok (.new 110, 3) := by decide +kernel
theorem dX4_round_13 : decode cX4_round 13 = .ok (.dup, 1) := by decide +kernel
theorem dX4_round_14 : decode cX4_round 14 = .ok (.ldc 112, 2) := by decide +kernel
theorem dX4_round_16 : decode cX4_round 16 = .ok (.invokespecial 114, 3) := by decide +kernel
theorem dX4_round_19 : decode cX4_round 19 = .ok (.athrow, 1) := by decide +kernel
theorem dX4_round_20 : decode cX4_round 20 = .ok (.aload_n 0, 1) := by decide +kernel
theorem dX4_round_21 : decode cX4_round 21 = .ok (.getfield 29, 3) := by decide +kernel
theorem dX4_round_24 : decode cX4_round 24 = .ok (.aload_n 0, 1) := by decide +kernel
theorem dX4_round_25 : decode cX4_round 25 = .ok (.getfield 10, 3) := by decide +kernel
theorem dX4_round_28 : decode cX4_round 28 = .ok (.aload_n 0, 1) := by decide +kernel
theorem dX4_round_29 : decode cX4_round 29 = .ok (.getfield 16, 3) := by decide +kernel
theorem dX4_round_32 : decode cX4_round 32 = .ok (.invokevirtual 115, 3) := by decide +kernel
theorem dX4_round_35 : decode cX4_round 35 = .ok (.aload_n 0, 1) := by decide +kernel
theorem dX4_round_36 : decode cX4_round 36 = .ok (.getfield 29, 3) := by decide +kernel
theorem dX4_round_39 : decode cX4_round 39 = .ok (.invokevirtual 107, 3) := by decide +kernel
theorem dX4_round_42 : decode cX4_round 42 = .ok (.ireturn, 1) := by decide +kernel
set_option maxRecDepth 20000 in
theorem ggX4_rounds_X3_roundsDone : GoodIn wsX4_rounds wsX3_roundsDone := goodIn_r _ [6, 7, 13, 14, 15, 16, 17, 18, 19, 20] (by decide +kernel) (by decide +kernel)
set_option maxRecDepth 20000 in
theorem gX4_rounds_X3_roundsDone : GoodIn wsX4_rounds (wsV RX4 119 RX3 yX3_roundsDone wsX3_roundsDone) := goodIn_app (goodIn_of _ (by decide +kernel)) ggX4_rounds_X3_roundsDone
theorem dX4_rounds_0 : decode cX4_rounds 0 = .ok (.aload_n 0, 1) := by decide +kernel
theorem dX4_rounds_1 : decode cX4_rounds 1 = .ok (.getfield 29, 3) := by decide +kernel
theorem dX4_rounds_4 : decode cX4_rounds 4 = .ok (.invokevirtual 119, 3) := by decide +kernel
theorem dX4_rounds_7 : decode cX4_rounds 7 = .ok (.ireturn, 1) := by decide +kernel
set_option maxRecDepth 20000 in
theorem ggX4_differ_X3_told : GoodIn wsX4_differ wsX3_told := goodIn_r _ [6, 7, 8, 9, 10, 11, 12, 13, 14, 20, 21, 22, 23, 24, 25, 26, 27] (by decide +kernel) (by decide +kernel)
set_option maxRecDepth 20000 in
theorem gX4_differ_X3_told : GoodIn wsX4_differ (wsV RX4 122 RX3 yX3_told wsX3_told) := goodIn_app (goodIn_of _ (by decide +kernel)) ggX4_differ_X3_told
theorem dX4_differ_0 : decode cX4_differ 0 = .ok (.aload_n 0, 1) := by decide +kernel
theorem dX4_differ_1 : decode cX4_differ 1 = .ok (.getfield 29, 3) := by decide +kernel
theorem dX4_differ_4 : decode cX4_differ 4 = .ok (.iload_n 1, 1) := by decide +kernel
theorem dX4_differ_5 : decode cX4_differ 5 = .ok (.iload_n 2, 1) := by decide +kernel
theorem dX4_differ_6 : decode cX4_differ 6 = .ok (.invokevirtual 122, 3) := by decide +kernel
theorem dX4_differ_9 : decode cX4_differ 9 = .ok (.ireturn, 1) := by decide +kernel
set_option maxRecDepth 20000 in
theorem ggX4_equal_X1_keepsLike : GoodIn wsX4_equal wsX1_keepsLike := goodIn_r _ [7, 8, 14, 15, 16, 17, 18, 19, 20] (by decide +kernel) (by decide +kernel)
set_option maxRecDepth 20000 in
theorem gX4_equal_X1_keepsLike : GoodIn wsX4_equal (wsV RX4 126 RX1 yX1_keepsLike wsX1_keepsLike) := goodIn_app (goodIn_of _ (by decide +kernel)) ggX4_equal_X1_keepsLike
theorem dX4_equal_0 : decode cX4_equal 0 = .ok (.aload_n 0, 1) := by decide +kernel
theorem dX4_equal_1 : decode cX4_equal 1 = .ok (.getfield 10, 3) := by decide +kernel
theorem dX4_equal_4 : decode cX4_equal 4 = .ok (.aload_n 0, 1) := by decide +kernel
theorem dX4_equal_5 : decode cX4_equal 5 = .ok (.getfield 16, 3) := by decide +kernel
theorem dX4_equal_8 : decode cX4_equal 8 = .ok (.iconst 1, 1) := by decide +kernel
theorem dX4_equal_9 : decode cX4_equal 9 = .ok (.invokevirtual 126, 3) := by decide +kernel
theorem dX4_equal_12 : decode cX4_equal 12 = .ok (.ireturn, 1) := by decide +kernel
set_option maxRecDepth 20000 in
theorem ggX4_table_X2_clear : GoodIn wsX4_table wsX2_clear := goodIn_r _ [10, 11, 12, 13, 14, 15, 16, 17, 18, 19, 20, 21, 22, 23, 98, 99, 100, 101, 102, 103, 104, 105, 106] (by decide +kernel) (by decide +kernel)
set_option maxRecDepth 20000 in
theorem gX4_table_X2_clear : GoodIn wsX4_table (wsV RX4 132 RX2 yX2_clear wsX2_clear) := goodIn_app (goodIn_of _ (by decide +kernel)) ggX4_table_X2_clear
set_option maxRecDepth 20000 in
theorem ggX4_table_X1_hasCounting : GoodIn wsX4_table wsX1_hasCounting := goodIn_r _ [28, 29, 30, 31, 32, 33, 107, 108, 109, 110, 111, 112, 113] (by decide +kernel) (by decide +kernel)
set_option maxRecDepth 20000 in
theorem gX4_table_X1_hasCounting : GoodIn wsX4_table (wsV RX4 135 RX1 yX1_hasCounting wsX1_hasCounting) := goodIn_app (goodIn_of _ (by decide +kernel)) ggX4_table_X1_hasCounting
set_option maxRecDepth 20000 in
theorem ggX4_table_X1_value : GoodIn wsX4_table wsX1_value := goodIn_r _ [37, 38, 107, 108, 109, 110, 111, 112, 113] (by decide +kernel) (by decide +kernel)
set_option maxRecDepth 20000 in
theorem gX4_table_X1_value : GoodIn wsX4_table (wsV RX4 95 RX1 yX1_value wsX1_value) := goodIn_app (goodIn_of _ (by decide +kernel)) ggX4_table_X1_value
set_option maxRecDepth 20000 in
theorem ggX4_table_X2_turn : GoodIn wsX4_table wsX2_turn := goodIn_r _ [42, 11, 12, 13, 14, 43, 44, 9, 45, 46, 32, 47, 48, 49, 50, 51, 52, 53, 54, 55, 31, 33, 56, 57, 58, 59, 60, 61, 62, 63, 15, 64, 98, 99, 100, 101, 102, 103, 104, 105, 106] (by decide +kernel) (by decide +kernel)
set_option maxRecDepth 20000 in
theorem gX4_table_X2_turn : GoodIn wsX4_table (wsV RX4 139 RX2 yX2_turn wsX2_turn) := goodIn_app (goodIn_of _ (by decide +kernel)) ggX4_table_X2_turn
set_option maxRecDepth 20000 in
theorem ggX4_table_X2_peel : GoodIn wsX4_table wsX2_peel := goodIn_r _ [68, 11, 12, 13, 69, 70, 71, 9, 72, 73, 74, 75, 76, 14, 43, 44, 45, 46, 32, 47, 48, 49, 50, 51, 52, 53, 54, 55, 31, 33, 56, 57, 58, 59, 77, 78, 79, 80, 16, 81, 82, 83, 84, 40, 41, 42, 60, 61, 62, 63, 15, 64, 98, 99, 100, 101, 102, 103, 104, 105, 106] (by decide +kernel) (by decide +kernel)
set_option maxRecDepth 20000 in
theorem gX4_table_X2_peel : GoodIn wsX4_table (wsV RX4 143 RX2 yX2_peel wsX2_peel) := goodIn_app (goodIn_of _ (by decide +kernel)) ggX4_table_X2_peel
set_option maxRecDepth 20000 in
theorem ggX4_table_X2_isZero : GoodIn wsX4_table wsX2_isZero := goodIn_r _ [88, 11, 12, 13, 14, 98, 99, 100, 101, 102, 103, 104, 105, 106] (by decide +kernel) (by decide +kernel)
set_option maxRecDepth 20000 in
theorem gX4_table_X2_isZero : GoodIn wsX4_table (wsV RX4 146 RX2 yX2_isZero wsX2_isZero) := goodIn_app (goodIn_of _ (by decide +kernel)) ggX4_table_X2_isZero
set_option maxRecDepth 20000 in
theorem ggX4_table_X2_foundSize : GoodIn wsX4_table wsX2_foundSize := goodIn_r _ [92, 16, 98, 99, 100, 101, 102, 103, 104, 105, 106] (by decide +kernel) (by decide +kernel)
set_option maxRecDepth 20000 in
theorem gX4_table_X2_foundSize : GoodIn wsX4_table (wsV RX4 150 RX2 yX2_foundSize wsX2_foundSize) := goodIn_app (goodIn_of _ (by decide +kernel)) ggX4_table_X2_foundSize
theorem dX4_table_0 : decode cX4_table 0 = .ok (.iload_n 1, 1) := by decide +kernel
theorem dX4_table_1 : decode cX4_table 1 = .ok (.bipush 6, 2) := by decide +kernel
theorem dX4_table_3 : decode cX4_table 3 = .ok (.if_icmp .lt 15, 3) := by decide +kernel
theorem dX4_table_6 : decode cX4_table 6 = .ok (.iload_n 1, 1) := by decide +kernel
theorem dX4_table_7 : decode cX4_table 7 = .ok (.bipush 63, 2) := by decide +kernel
theorem dX4_table_9 : decode cX4_table 9 = .ok (.if_icmp .gt 9, 3) := by decide +kernel
theorem dX4_table_12 : decode cX4_table 12 = .ok (.iload_n 1, 1) := by decide +kernel
theorem dX4_table_13 : decode cX4_table 13 = .ok (.iconst 3, 1) := by decide +kernel
theorem dX4_table_14 : decode cX4_table 14 = .ok (.irem, 1) := by decide +kernel
theorem dX4_table_15 : decode cX4_table 15 = .ok (.ifCond .eq 13, 3) := by decide +kernel
theorem dX4_table_18 : decode cX4_table 18 = .ok (.new 44, 3) := by decide +kernel
theorem dX4_table_21 : decode cX4_table 21 = .ok (.dup, 1) := by decide +kernel
theorem dX4_table_22 : decode cX4_table 22 = .ok (.ldc 130, 2) := by decide +kernel
theorem dX4_table_24 : decode cX4_table 24 = .ok (.invokespecial 48, 3) := by decide +kernel
theorem dX4_table_27 : decode cX4_table 27 = .ok (.athrow, 1) := by decide +kernel
theorem dX4_table_28 : decode cX4_table 28 = .ok (.aload_n 0, 1) := by decide +kernel
theorem dX4_table_29 : decode cX4_table 29 = .ok (.getfield 36, 3) := by decide +kernel
theorem dX4_table_32 : decode cX4_table 32 = .ok (.iload_n 1, 1) := by decide +kernel
theorem dX4_table_33 : decode cX4_table 33 = .ok (.invokevirtual 132, 3) := by decide +kernel
theorem dX4_table_36 : decode cX4_table 36 = .ok (.iconst 0, 1) := by decide +kernel
theorem dX4_table_37 : decode cX4_table 37 = .ok (.istore_n 2, 1) := by decide +kernel
theorem dX4_table_38 : decode cX4_table 38 = .ok (.iload_n 2, 1) := by decide +kernel
theorem dX4_table_39 : decode cX4_table 39 = .ok (.sipush 256, 3) := by decide +kernel
theorem dX4_table_42 : decode cX4_table 42 = .ok (.if_icmp .ge 73, 3) := by decide +kernel
theorem dX4_table_45 : decode cX4_table 45 = .ok (.aload_n 0, 1) := by decide +kernel
theorem dX4_table_46 : decode cX4_table 46 = .ok (.getfield 10, 3) := by decide +kernel
theorem dX4_table_49 : decode cX4_table 49 = .ok (.iload_n 2, 1) := by decide +kernel
theorem dX4_table_50 : decode cX4_table 50 = .ok (.aload_n 0, 1) := by decide +kernel
theorem dX4_table_51 : decode cX4_table 51 = .ok (.getfield 16, 3) := by decide +kernel
theorem dX4_table_54 : decode cX4_table 54 = .ok (.invokevirtual 135, 3) := by decide +kernel
theorem dX4_table_57 : decode cX4_table 57 = .ok (.ifCond .eq 20, 3) := by decide +kernel
theorem dX4_table_60 : decode cX4_table 60 = .ok (.aload_n 0, 1) := by decide +kernel
theorem dX4_table_61 : decode cX4_table 61 = .ok (.getfield 36, 3) := by decide +kernel
theorem dX4_table_64 : decode cX4_table 64 = .ok (.iload_n 2, 1) := by decide +kernel
theorem dX4_table_65 : decode cX4_table 65 = .ok (.aload_n 0, 1) := by decide +kernel
theorem dX4_table_66 : decode cX4_table 66 = .ok (.getfield 10, 3) := by decide +kernel
theorem dX4_table_69 : decode cX4_table 69 = .ok (.iload_n 2, 1) := by decide +kernel
theorem dX4_table_70 : decode cX4_table 70 = .ok (.invokevirtual 95, 3) := by decide +kernel
theorem dX4_table_73 : decode cX4_table 73 = .ok (.iconst 1, 1) := by decide +kernel
theorem dX4_table_74 : decode cX4_table 74 = .ok (.invokevirtual 139, 3) := by decide +kernel
theorem dX4_table_77 : decode cX4_table 77 = .ok (.aload_n 0, 1) := by decide +kernel
theorem dX4_table_78 : decode cX4_table 78 = .ok (.getfield 16, 3) := by decide +kernel
theorem dX4_table_81 : decode cX4_table 81 = .ok (.iload_n 2, 1) := by decide +kernel
theorem dX4_table_82 : decode cX4_table 82 = .ok (.aload_n 0, 1) := by decide +kernel
theorem dX4_table_83 : decode cX4_table 83 = .ok (.getfield 10, 3) := by decide +kernel
theorem dX4_table_86 : decode cX4_table 86 = .ok (.invokevirtual 135, 3) := by decide +kernel
theorem dX4_table_89 : decode cX4_table 89 = .ok (.ifCond .eq 20, 3) := by decide +kernel
theorem dX4_table_92 : decode cX4_table 92 = .ok (.aload_n 0, 1) := by decide +kernel
theorem dX4_table_93 : decode cX4_table 93 = .ok (.getfield 36, 3) := by decide +kernel
theorem dX4_table_96 : decode cX4_table 96 = .ok (.iload_n 2, 1) := by decide +kernel
theorem dX4_table_97 : decode cX4_table 97 = .ok (.aload_n 0, 1) := by decide +kernel
theorem dX4_table_98 : decode cX4_table 98 = .ok (.getfield 16, 3) := by decide +kernel
theorem dX4_table_101 : decode cX4_table 101 = .ok (.iload_n 2, 1) := by decide +kernel
theorem dX4_table_102 : decode cX4_table 102 = .ok (.invokevirtual 95, 3) := by decide +kernel
theorem dX4_table_105 : decode cX4_table 105 = .ok (.iconst (-1), 1) := by decide +kernel
theorem dX4_table_106 : decode cX4_table 106 = .ok (.invokevirtual 139, 3) := by decide +kernel
theorem dX4_table_109 : decode cX4_table 109 = .ok (.iinc 2 1, 3) := by decide +kernel
theorem dX4_table_112 : decode cX4_table 112 = .ok (.goto (-74), 3) := by decide +kernel
theorem dX4_table_115 : decode cX4_table 115 = .ok (.aload_n 0, 1) := by decide +kernel
theorem dX4_table_116 : decode cX4_table 116 = .ok (.getfield 36, 3) := by decide +kernel
theorem dX4_table_119 : decode cX4_table 119 = .ok (.invokevirtual 143, 3) := by decide +kernel
theorem dX4_table_122 : decode cX4_table 122 = .ok (.aload_n 0, 1) := by decide +kernel
theorem dX4_table_123 : decode cX4_table 123 = .ok (.getfield 36, 3) := by decide +kernel
theorem dX4_table_126 : decode cX4_table 126 = .ok (.invokevirtual 146, 3) := by decide +kernel
theorem dX4_table_129 : decode cX4_table 129 = .ok (.ifCond .eq 13, 3) := by decide +kernel
theorem dX4_table_132 : decode cX4_table 132 = .ok (.aload_n 0, 1) := by decide +kernel
theorem dX4_table_133 : decode cX4_table 133 = .ok (.getfield 36, 3) := by decide +kernel
theorem dX4_table_136 : decode cX4_table 136 = .ok (.invokevirtual 150, 3) := by decide +kernel
theorem dX4_table_139 : decode cX4_table 139 = .ok (.goto 12, 3) := by decide +kernel
theorem dX4_table_142 : decode cX4_table 142 = .ok (.iconst (-1), 1) := by decide +kernel
theorem dX4_table_143 : decode cX4_table 143 = .ok (.aload_n 0, 1) := by decide +kernel
theorem dX4_table_144 : decode cX4_table 144 = .ok (.getfield 36, 3) := by decide +kernel
theorem dX4_table_147 : decode cX4_table 147 = .ok (.invokevirtual 150, 3) := by decide +kernel
theorem dX4_table_150 : decode cX4_table 150 = .ok (.isub, 1) := by decide +kernel
theorem dX4_table_151 : decode cX4_table 151 = .ok (.ireturn, 1) := by decide +kernel
set_option maxRecDepth 20000 in
theorem ggX4_found_X2_foundPart : GoodIn wsX4_found wsX2_foundPart := goodIn_r _ [6, 7, 8, 9, 10, 11, 5, 12, 13, 14, 15, 16, 17, 18, 24, 25, 26, 27, 28, 29, 30, 31, 32] (by decide +kernel) (by decide +kernel)
set_option maxRecDepth 20000 in
theorem gX4_found_X2_foundPart : GoodIn wsX4_found (wsV RX4 153 RX2 yX2_foundPart wsX2_foundPart) := goodIn_app (goodIn_of _ (by decide +kernel)) ggX4_found_X2_foundPart
theorem dX4_found_0 : decode cX4_found 0 = .ok (.aload_n 0, 1) := by decide +kernel
theorem dX4_found_1 : decode cX4_found 1 = .ok (.getfield 36, 3) := by decide +kernel
theorem dX4_found_4 : decode cX4_found 4 = .ok (.iload_n 1, 1) := by decide +kernel
theorem dX4_found_5 : decode cX4_found 5 = .ok (.iload_n 2, 1) := by decide +kernel
theorem dX4_found_6 : decode cX4_found 6 = .ok (.invokevirtual 153, 3) := by decide +kernel
theorem dX4_found_9 : decode cX4_found 9 = .ok (.ireturn, 1) := by decide +kernel
set_option maxRecDepth 20000 in
theorem ggX4_foundValue_X2_hasFound : GoodIn wsX4_foundValue wsX2_hasFound := goodIn_r _ [8, 9, 20, 21, 22, 23, 24, 25, 26, 27, 28] (by decide +kernel) (by decide +kernel)
set_option maxRecDepth 20000 in
theorem gX4_foundValue_X2_hasFound : GoodIn wsX4_foundValue (wsV RX4 156 RX2 yX2_hasFound wsX2_hasFound) := goodIn_app (goodIn_of _ (by decide +kernel)) ggX4_foundValue_X2_hasFound
set_option maxRecDepth 20000 in
theorem ggX4_foundValue_X2_valueFound : GoodIn wsX4_foundValue wsX2_valueFound := goodIn_r _ [13, 14, 20, 21, 22, 23, 24, 25, 26, 27, 28] (by decide +kernel) (by decide +kernel)
set_option maxRecDepth 20000 in
theorem gX4_foundValue_X2_valueFound : GoodIn wsX4_foundValue (wsV RX4 161 RX2 yX2_valueFound wsX2_valueFound) := goodIn_app (goodIn_of _ (by decide +kernel)) ggX4_foundValue_X2_valueFound
theorem dX4_foundValue_0 : decode cX4_foundValue 0 = .ok (.aload_n 0, 1) := by decide +kernel
theorem dX4_foundValue_1 : decode cX4_foundValue 1 = .ok (.getfield 36, 3) := by decide +kernel
theorem dX4_foundValue_4 : decode cX4_foundValue 4 = .ok (.iload_n 1, 1) := by decide +kernel
theorem dX4_foundValue_5 : decode cX4_foundValue 5 = .ok (.invokevirtual 156, 3) := by decide +kernel
theorem dX4_foundValue_8 : decode cX4_foundValue 8 = .ok (.ifCond .ne 13, 3) := by decide +kernel
theorem dX4_foundValue_11 : decode cX4_foundValue 11 = .ok (.new 99, 3) := by decide +kernel
theorem dX4_foundValue_14 : decode cX4_foundValue 14 = .ok (.dup, 1) := by decide +kernel
theorem dX4_foundValue_15 : decode cX4_foundValue 15 = .ok (.ldc 159, 2) := by decide +kernel
theorem dX4_foundValue_17 : decode cX4_foundValue 17 = .ok (.invokespecial 103, 3) := by decide +kernel
theorem dX4_foundValue_20 : decode cX4_foundValue 20 = .ok (.athrow, 1) := by decide +kernel
theorem dX4_foundValue_21 : decode cX4_foundValue 21 = .ok (.aload_n 0, 1) := by decide +kernel
theorem dX4_foundValue_22 : decode cX4_foundValue 22 = .ok (.getfield 36, 3) := by decide +kernel
theorem dX4_foundValue_25 : decode cX4_foundValue 25 = .ok (.iload_n 1, 1) := by decide +kernel
theorem dX4_foundValue_26 : decode cX4_foundValue 26 = .ok (.invokevirtual 161, 3) := by decide +kernel
theorem dX4_foundValue_29 : decode cX4_foundValue 29 = .ok (.lreturn, 1) := by decide +kernel
set_option maxRecDepth 20000 in
theorem ggX4_digest_X4_isSide : GoodIn wsX4_digest wsX4_isSide := goodIn_r _ [7] (by decide +kernel) (by decide +kernel)
set_option maxRecDepth 20000 in
theorem gX4_digest_X4_isSide : GoodIn wsX4_digest (va_wsS RX4 82 yX4_isSide wsX4_isSide) := goodIn_app (goodIn_of _ (by decide +kernel)) ggX4_digest_X4_isSide
set_option maxRecDepth 20000 in
theorem ggX4_digest_X4_isRange : GoodIn wsX4_digest wsX4_isRange := goodIn_r _ [10] (by decide +kernel) (by decide +kernel)
set_option maxRecDepth 20000 in
theorem gX4_digest_X4_isRange : GoodIn wsX4_digest (va_wsS RX4 164 yX4_isRange wsX4_isRange) := goodIn_app (goodIn_of _ (by decide +kernel)) ggX4_digest_X4_isRange
set_option maxRecDepth 20000 in
theorem ggX4_digest_X4_sideOf : GoodIn wsX4_digest wsX4_sideOf := goodIn_r _ [14, 15, 16, 29, 30, 31, 32, 33] (by decide +kernel) (by decide +kernel)
set_option maxRecDepth 20000 in
theorem gX4_digest_X4_sideOf : GoodIn wsX4_digest (wsV RX4 51 RX4 yX4_sideOf wsX4_sideOf) := goodIn_app (goodIn_of _ (by decide +kernel)) ggX4_digest_X4_sideOf
set_option maxRecDepth 20000 in
theorem ggX4_digest_X1_keptByte : GoodIn wsX4_digest wsX1_keptByte := goodIn_r _ [21, 22, 34, 35, 36, 37, 38, 39, 40] (by decide +kernel) (by decide +kernel)
set_option maxRecDepth 20000 in
theorem gX4_digest_X1_keptByte : GoodIn wsX4_digest (wsV RX4 172 RX1 yX1_keptByte wsX1_keptByte) := goodIn_app (goodIn_of _ (by decide +kernel)) ggX4_digest_X1_keptByte
theorem dX4_digest_0 : decode cX4_digest 0 = .ok (.iload_n 1, 1) := by decide +kernel
theorem dX4_digest_1 : decode cX4_digest 1 = .ok (.invokestatic 82, 3) := by decide +kernel
theorem dX4_digest_4 : decode cX4_digest 4 = .ok (.ifCond .eq 20, 3) := by decide +kernel
theorem dX4_digest_7 : decode cX4_digest 7 = .ok (.iload_n 2, 1) := by decide +kernel
theorem dX4_digest_8 : decode cX4_digest 8 = .ok (.invokestatic 164, 3) := by decide +kernel
theorem dX4_digest_11 : decode cX4_digest 11 = .ok (.ifCond .eq 13, 3) := by decide +kernel
theorem dX4_digest_14 : decode cX4_digest 14 = .ok (.iload_n 3, 1) := by decide +kernel
theorem dX4_digest_15 : decode cX4_digest 15 = .ok (.ifCond .lt 9, 3) := by decide +kernel
theorem dX4_digest_18 : decode cX4_digest 18 = .ok (.iload_n 3, 1) := by decide +kernel
theorem dX4_digest_19 : decode cX4_digest 19 = .ok (.bipush 32, 2) := by decide +kernel
theorem dX4_digest_21 : decode cX4_digest 21 = .ok (.if_icmp .lt 13, 3) := by decide +kernel
theorem dX4_digest_24 : decode cX4_digest 24 = .ok (.new 167, 3) := by decide +kernel
theorem dX4_digest_27 : decode cX4_digest 27 = .ok (.dup, 1) := by decide +kernel
theorem dX4_digest_28 : decode cX4_digest 28 = .ok (.ldc 169, 2) := by decide +kernel
theorem dX4_digest_30 : decode cX4_digest 30 = .ok (.invokespecial 171, 3) := by decide +kernel
theorem dX4_digest_33 : decode cX4_digest 33 = .ok (.athrow, 1) := by decide +kernel
theorem dX4_digest_34 : decode cX4_digest 34 = .ok (.aload_n 0, 1) := by decide +kernel
theorem dX4_digest_35 : decode cX4_digest 35 = .ok (.iload_n 1, 1) := by decide +kernel
theorem dX4_digest_36 : decode cX4_digest 36 = .ok (.invokevirtual 51, 3) := by decide +kernel
theorem dX4_digest_39 : decode cX4_digest 39 = .ok (.iload_n 2, 1) := by decide +kernel
theorem dX4_digest_40 : decode cX4_digest 40 = .ok (.iload_n 3, 1) := by decide +kernel
theorem dX4_digest_41 : decode cX4_digest 41 = .ok (.invokevirtual 172, 3) := by decide +kernel
theorem dX4_digest_44 : decode cX4_digest 44 = .ok (.ireturn, 1) := by decide +kernel
set_option maxRecDepth 20000 in
theorem ggX4_sum_X4_isSide : GoodIn wsX4_sum wsX4_isSide := goodIn_r _ [7] (by decide +kernel) (by decide +kernel)
set_option maxRecDepth 20000 in
theorem gX4_sum_X4_isSide : GoodIn wsX4_sum (va_wsS RX4 82 yX4_isSide wsX4_isSide) := goodIn_app (goodIn_of _ (by decide +kernel)) ggX4_sum_X4_isSide
set_option maxRecDepth 20000 in
theorem ggX4_sum_X4_isRange : GoodIn wsX4_sum wsX4_isRange := goodIn_r _ [10] (by decide +kernel) (by decide +kernel)
set_option maxRecDepth 20000 in
theorem gX4_sum_X4_isRange : GoodIn wsX4_sum (va_wsS RX4 164 yX4_isRange wsX4_isRange) := goodIn_app (goodIn_of _ (by decide +kernel)) ggX4_sum_X4_isRange
set_option maxRecDepth 20000 in
theorem ggX4_sum_X4_sideOf : GoodIn wsX4_sum wsX4_sideOf := goodIn_r _ [14, 15, 16, 29, 30, 31, 32, 33] (by decide +kernel) (by decide +kernel)
set_option maxRecDepth 20000 in
theorem gX4_sum_X4_sideOf : GoodIn wsX4_sum (wsV RX4 51 RX4 yX4_sideOf wsX4_sideOf) := goodIn_app (goodIn_of _ (by decide +kernel)) ggX4_sum_X4_sideOf
set_option maxRecDepth 20000 in
theorem ggX4_sum_X1_keptSum : GoodIn wsX4_sum wsX1_keptSum := goodIn_r _ [21, 22, 34, 35, 36, 37, 38, 39, 40] (by decide +kernel) (by decide +kernel)
set_option maxRecDepth 20000 in
theorem gX4_sum_X1_keptSum : GoodIn wsX4_sum (wsV RX4 177 RX1 yX1_keptSum wsX1_keptSum) := goodIn_app (goodIn_of _ (by decide +kernel)) ggX4_sum_X1_keptSum
theorem dX4_sum_0 : decode cX4_sum 0 = .ok (.iload_n 1, 1) := by decide +kernel
theorem dX4_sum_1 : decode cX4_sum 1 = .ok (.invokestatic 82, 3) := by decide +kernel
theorem dX4_sum_4 : decode cX4_sum 4 = .ok (.ifCond .eq 10, 3) := by decide +kernel
theorem dX4_sum_7 : decode cX4_sum 7 = .ok (.iload_n 2, 1) := by decide +kernel
theorem dX4_sum_8 : decode cX4_sum 8 = .ok (.invokestatic 164, 3) := by decide +kernel
theorem dX4_sum_11 : decode cX4_sum 11 = .ok (.ifCond .ne 13, 3) := by decide +kernel
theorem dX4_sum_14 : decode cX4_sum 14 = .ok (.new 167, 3) := by decide +kernel
theorem dX4_sum_17 : decode cX4_sum 17 = .ok (.dup, 1) := by decide +kernel
theorem dX4_sum_18 : decode cX4_sum 18 = .ok (.ldc 175, 2) := by decide +kernel
theorem dX4_sum_20 : decode cX4_sum 20 = .ok (.invokespecial 171, 3) := by decide +kernel
theorem dX4_sum_23 : decode cX4_sum 23 = .ok (.athrow, 1) := by decide +kernel
theorem dX4_sum_24 : decode cX4_sum 24 = .ok (.aload_n 0, 1) := by decide +kernel
theorem dX4_sum_25 : decode cX4_sum 25 = .ok (.iload_n 1, 1) := by decide +kernel
theorem dX4_sum_26 : decode cX4_sum 26 = .ok (.invokevirtual 51, 3) := by decide +kernel
theorem dX4_sum_29 : decode cX4_sum 29 = .ok (.iload_n 2, 1) := by decide +kernel
theorem dX4_sum_30 : decode cX4_sum 30 = .ok (.invokevirtual 177, 3) := by decide +kernel
theorem dX4_sum_33 : decode cX4_sum 33 = .ok (.ireturn, 1) := by decide +kernel
set_option maxRecDepth 20000 in
theorem ggX4_broken_X4_isSide : GoodIn wsX4_broken wsX4_isSide := goodIn_r _ [5] (by decide +kernel) (by decide +kernel)
set_option maxRecDepth 20000 in
theorem gX4_broken_X4_isSide : GoodIn wsX4_broken (va_wsS RX4 82 yX4_isSide wsX4_isSide) := goodIn_app (goodIn_of _ (by decide +kernel)) ggX4_broken_X4_isSide
set_option maxRecDepth 20000 in
theorem ggX4_broken_X4_sideOf : GoodIn wsX4_broken wsX4_sideOf := goodIn_r _ [9, 10, 11, 84, 85, 86, 87, 88] (by decide +kernel) (by decide +kernel)
set_option maxRecDepth 20000 in
theorem gX4_broken_X4_sideOf : GoodIn wsX4_broken (wsV RX4 51 RX4 yX4_sideOf wsX4_sideOf) := goodIn_app (goodIn_of _ (by decide +kernel)) ggX4_broken_X4_sideOf
set_option maxRecDepth 20000 in
theorem ggX4_broken_X1_isLeafTrue : GoodIn wsX4_broken wsX1_isLeafTrue := goodIn_r _ [16, 17, 18, 19, 15, 20, 21, 22, 23, 24, 25, 26, 27, 28, 29, 30, 31, 32, 33, 34, 4, 35, 36, 37, 38, 39, 40, 41, 42, 43, 44, 45, 46, 47, 48, 49, 50, 51, 52, 53, 54, 55, 56, 57, 58, 59, 60, 61, 62, 63, 64, 65, 66, 67, 68, 69, 70, 71, 72, 73, 74, 75, 76, 77, 78, 79, 80, 81, 82, 83, 89, 90, 91, 92, 93, 94, 95, 96, 97, 98] (by decide +kernel) (by decide +kernel)
set_option maxRecDepth 20000 in
theorem gX4_broken_X1_isLeafTrue : GoodIn wsX4_broken (wsV RX4 180 RX1 yX1_isLeafTrue wsX1_isLeafTrue) := goodIn_app (goodIn_of _ (by decide +kernel)) ggX4_broken_X1_isLeafTrue
theorem dX4_broken_0 : decode cX4_broken 0 = .ok (.iload_n 1, 1) := by decide +kernel
theorem dX4_broken_1 : decode cX4_broken 1 = .ok (.invokestatic 82, 3) := by decide +kernel
theorem dX4_broken_4 : decode cX4_broken 4 = .ok (.ifCond .ne 5, 3) := by decide +kernel
theorem dX4_broken_7 : decode cX4_broken 7 = .ok (.iconst (-1), 1) := by decide +kernel
theorem dX4_broken_8 : decode cX4_broken 8 = .ok (.ireturn, 1) := by decide +kernel
theorem dX4_broken_9 : decode cX4_broken 9 = .ok (.bipush 32, 2) := by decide +kernel
theorem dX4_broken_11 : decode cX4_broken 11 = .ok (.istore_n 2, 1) := by decide +kernel
theorem dX4_broken_12 : decode cX4_broken 12 = .ok (.iload_n 2, 1) := by decide +kernel
theorem dX4_broken_13 : decode cX4_broken 13 = .ok (.bipush 64, 2) := by decide +kernel
theorem dX4_broken_15 : decode cX4_broken 15 = .ok (.if_icmp .ge 27, 3) := by decide +kernel
theorem dX4_broken_18 : decode cX4_broken 18 = .ok (.aload_n 0, 1) := by decide +kernel
theorem dX4_broken_19 : decode cX4_broken 19 = .ok (.iload_n 1, 1) := by decide +kernel
theorem dX4_broken_20 : decode cX4_broken 20 = .ok (.invokevirtual 51, 3) := by decide +kernel
theorem dX4_broken_23 : decode cX4_broken 23 = .ok (.iload_n 2, 1) := by decide +kernel
theorem dX4_broken_24 : decode cX4_broken 24 = .ok (.aload_n 0, 1) := by decide +kernel
theorem dX4_broken_25 : decode cX4_broken 25 = .ok (.getfield 22, 3) := by decide +kernel
theorem dX4_broken_28 : decode cX4_broken 28 = .ok (.invokevirtual 180, 3) := by decide +kernel
theorem dX4_broken_31 : decode cX4_broken 31 = .ok (.ifCond .ne 5, 3) := by decide +kernel
theorem dX4_broken_34 : decode cX4_broken 34 = .ok (.iload_n 2, 1) := by decide +kernel
theorem dX4_broken_35 : decode cX4_broken 35 = .ok (.ireturn, 1) := by decide +kernel
theorem dX4_broken_36 : decode cX4_broken 36 = .ok (.iinc 2 1, 3) := by decide +kernel
theorem dX4_broken_39 : decode cX4_broken 39 = .ok (.goto (-27), 3) := by decide +kernel
theorem dX4_broken_42 : decode cX4_broken 42 = .ok (.iconst (-1), 1) := by decide +kernel
theorem dX4_broken_43 : decode cX4_broken 43 = .ok (.ireturn, 1) := by decide +kernel
set_option maxRecDepth 20000 in
theorem ggX4_anew_X4_isSide : GoodIn wsX4_anew wsX4_isSide := goodIn_r _ [5] (by decide +kernel) (by decide +kernel)
set_option maxRecDepth 20000 in
theorem gX4_anew_X4_isSide : GoodIn wsX4_anew (va_wsS RX4 82 yX4_isSide wsX4_isSide) := goodIn_app (goodIn_of _ (by decide +kernel)) ggX4_anew_X4_isSide
set_option maxRecDepth 20000 in
theorem ggX4_anew_X4_sideOf : GoodIn wsX4_anew wsX4_sideOf := goodIn_r _ [9, 10, 11, 125, 126, 127, 128, 129] (by decide +kernel) (by decide +kernel)
set_option maxRecDepth 20000 in
theorem gX4_anew_X4_sideOf : GoodIn wsX4_anew (wsV RX4 51 RX4 yX4_sideOf wsX4_sideOf) := goodIn_app (goodIn_of _ (by decide +kernel)) ggX4_anew_X4_sideOf
set_option maxRecDepth 20000 in
theorem ggX4_anew_X4_otherOf : GoodIn wsX4_anew wsX4_otherOf := goodIn_r _ [15, 11, 10, 125, 126, 127, 128, 129] (by decide +kernel) (by decide +kernel)
set_option maxRecDepth 20000 in
theorem gX4_anew_X4_otherOf : GoodIn wsX4_anew (wsV RX4 63 RX4 yX4_otherOf wsX4_otherOf) := goodIn_app (goodIn_of _ (by decide +kernel)) ggX4_anew_X4_otherOf
set_option maxRecDepth 20000 in
theorem ggX4_anew_X1_remake : GoodIn wsX4_anew wsX1_remake := goodIn_r _ [20, 21, 22, 23, 24, 25, 19, 26, 27, 4, 28, 29, 30, 31, 32, 33, 34, 35, 36, 37, 38, 39, 40, 41, 42, 43, 44, 45, 46, 47, 48, 49, 50, 51, 52, 53, 54, 55, 56, 57, 58, 59, 60, 61, 62, 63, 64, 65, 66, 67, 68, 69, 70, 71, 72, 73, 74, 75, 76, 77, 78, 79, 80, 81, 82, 83, 84, 85, 86, 87, 88, 89, 90, 91, 92, 93, 94, 95, 96, 97, 98, 99, 100, 101, 102, 103, 104, 105, 106, 107, 108, 109, 110, 111, 112, 113, 114, 115, 116, 117, 118, 119, 120, 121, 122, 123, 124, 130, 131, 132, 133, 134, 135, 136, 137, 138, 139] (by decide +kernel) (by decide +kernel)
set_option maxRecDepth 20000 in
theorem gX4_anew_X1_remake : GoodIn wsX4_anew (wsV RX4 66 RX1 yX1_remake wsX1_remake) := goodIn_app (goodIn_of _ (by decide +kernel)) ggX4_anew_X1_remake
theorem dX4_anew_0 : decode cX4_anew 0 = .ok (.iload_n 1, 1) := by decide +kernel
theorem dX4_anew_1 : decode cX4_anew 1 = .ok (.invokestatic 82, 3) := by decide +kernel
theorem dX4_anew_4 : decode cX4_anew 4 = .ok (.ifCond .ne 5, 3) := by decide +kernel
theorem dX4_anew_7 : decode cX4_anew 7 = .ok (.iconst (-1), 1) := by decide +kernel
theorem dX4_anew_8 : decode cX4_anew 8 = .ok (.ireturn, 1) := by decide +kernel
theorem dX4_anew_9 : decode cX4_anew 9 = .ok (.aload_n 0, 1) := by decide +kernel
theorem dX4_anew_10 : decode cX4_anew 10 = .ok (.iload_n 1, 1) := by decide +kernel
theorem dX4_anew_11 : decode cX4_anew 11 = .ok (.invokevirtual 51, 3) := by decide +kernel
theorem dX4_anew_14 : decode cX4_anew 14 = .ok (.bipush 32, 2) := by decide +kernel
theorem dX4_anew_16 : decode cX4_anew 16 = .ok (.bipush 63, 2) := by decide +kernel
theorem dX4_anew_18 : decode cX4_anew 18 = .ok (.aload_n 0, 1) := by decide +kernel
theorem dX4_anew_19 : decode cX4_anew 19 = .ok (.iload_n 1, 1) := by decide +kernel
theorem dX4_anew_20 : decode cX4_anew 20 = .ok (.invokevirtual 63, 3) := by decide +kernel
theorem dX4_anew_23 : decode cX4_anew 23 = .ok (.aload_n 0, 1) := by decide +kernel
theorem dX4_anew_24 : decode cX4_anew 24 = .ok (.getfield 22, 3) := by decide +kernel
theorem dX4_anew_27 : decode cX4_anew 27 = .ok (.invokevirtual 66, 3) := by decide +kernel
theorem dX4_anew_30 : decode cX4_anew 30 = .ok (.ireturn, 1) := by decide +kernel
set_option maxRecDepth 20000 in
theorem ggX4_leaf_X4_isRange : GoodIn wsX4_leaf wsX4_isRange := goodIn_r _ [6] (by decide +kernel) (by decide +kernel)
set_option maxRecDepth 20000 in
theorem gX4_leaf_X4_isRange : GoodIn wsX4_leaf (va_wsS RX4 164 yX4_isRange wsX4_isRange) := goodIn_app (goodIn_of _ (by decide +kernel)) ggX4_leaf_X4_isRange
set_option maxRecDepth 20000 in
theorem ggX4_leaf_X4_nodeOf : GoodIn wsX4_leaf wsX4_nodeOf := goodIn_r _ [9] (by decide +kernel) (by decide +kernel)
set_option maxRecDepth 20000 in
theorem gX4_leaf_X4_nodeOf : GoodIn wsX4_leaf (va_wsS RX4 184 yX4_nodeOf wsX4_nodeOf) := goodIn_app (goodIn_of _ (by decide +kernel)) ggX4_leaf_X4_nodeOf
set_option maxRecDepth 20000 in
theorem ggX4_leaf_X4_numberOf : GoodIn wsX4_leaf wsX4_numberOf := goodIn_r _ [12] (by decide +kernel) (by decide +kernel)
set_option maxRecDepth 20000 in
theorem gX4_leaf_X4_numberOf : GoodIn wsX4_leaf (va_wsS RX4 187 yX4_numberOf wsX4_numberOf) := goodIn_app (goodIn_of _ (by decide +kernel)) ggX4_leaf_X4_numberOf
set_option maxRecDepth 20000 in
theorem ggX4_leaf_X1_countingIn : GoodIn wsX4_leaf wsX1_countingIn := goodIn_r _ [17, 18, 24, 25, 26, 27, 28, 29, 30] (by decide +kernel) (by decide +kernel)
set_option maxRecDepth 20000 in
theorem gX4_leaf_X1_countingIn : GoodIn wsX4_leaf (wsV RX4 190 RX1 yX1_countingIn wsX1_countingIn) := goodIn_app (goodIn_of _ (by decide +kernel)) ggX4_leaf_X1_countingIn
theorem dX4_leaf_0 : decode cX4_leaf 0 = .ok (.iload_n 1, 1) := by decide +kernel
theorem dX4_leaf_1 : decode cX4_leaf 1 = .ok (.invokestatic 164, 3) := by decide +kernel
theorem dX4_leaf_4 : decode cX4_leaf 4 = .ok (.ifCond .ne 5, 3) := by decide +kernel
theorem dX4_leaf_7 : decode cX4_leaf 7 = .ok (.iconst (-1), 1) := by decide +kernel
theorem dX4_leaf_8 : decode cX4_leaf 8 = .ok (.ireturn, 1) := by decide +kernel
theorem dX4_leaf_9 : decode cX4_leaf 9 = .ok (.iload_n 1, 1) := by decide +kernel
theorem dX4_leaf_10 : decode cX4_leaf 10 = .ok (.istore_n 3, 1) := by decide +kernel
theorem dX4_leaf_11 : decode cX4_leaf 11 = .ok (.iload_n 1, 1) := by decide +kernel
theorem dX4_leaf_12 : decode cX4_leaf 12 = .ok (.istore 4, 2) := by decide +kernel
theorem dX4_leaf_14 : decode cX4_leaf 14 = .ok (.iconst 0, 1) := by decide +kernel
theorem dX4_leaf_15 : decode cX4_leaf 15 = .ok (.istore 5, 2) := by decide +kernel
theorem dX4_leaf_17 : decode cX4_leaf 17 = .ok (.iload 5, 2) := by decide +kernel
theorem dX4_leaf_19 : decode cX4_leaf 19 = .ok (.bipush 6, 2) := by decide +kernel
theorem dX4_leaf_21 : decode cX4_leaf 21 = .ok (.if_icmp .ge 27, 3) := by decide +kernel
theorem dX4_leaf_24 : decode cX4_leaf 24 = .ok (.iload_n 3, 1) := by decide +kernel
theorem dX4_leaf_25 : decode cX4_leaf 25 = .ok (.bipush 32, 2) := by decide +kernel
theorem dX4_leaf_27 : decode cX4_leaf 27 = .ok (.if_icmp .ge 21, 3) := by decide +kernel
theorem dX4_leaf_30 : decode cX4_leaf 30 = .ok (.iconst 2, 1) := by decide +kernel
theorem dX4_leaf_31 : decode cX4_leaf 31 = .ok (.iload_n 3, 1) := by decide +kernel
theorem dX4_leaf_32 : decode cX4_leaf 32 = .ok (.imul, 1) := by decide +kernel
theorem dX4_leaf_33 : decode cX4_leaf 33 = .ok (.istore_n 3, 1) := by decide +kernel
theorem dX4_leaf_34 : decode cX4_leaf 34 = .ok (.iconst 2, 1) := by decide +kernel
theorem dX4_leaf_35 : decode cX4_leaf 35 = .ok (.iload 4, 2) := by decide +kernel
theorem dX4_leaf_37 : decode cX4_leaf 37 = .ok (.imul, 1) := by decide +kernel
theorem dX4_leaf_38 : decode cX4_leaf 38 = .ok (.iconst 1, 1) := by decide +kernel
theorem dX4_leaf_39 : decode cX4_leaf 39 = .ok (.iadd, 1) := by decide +kernel
theorem dX4_leaf_40 : decode cX4_leaf 40 = .ok (.istore 4, 2) := by decide +kernel
theorem dX4_leaf_42 : decode cX4_leaf 42 = .ok (.iinc 5 1, 3) := by decide +kernel
theorem dX4_leaf_45 : decode cX4_leaf 45 = .ok (.goto (-28), 3) := by decide +kernel
theorem dX4_leaf_48 : decode cX4_leaf 48 = .ok (.bipush 8, 2) := by decide +kernel
theorem dX4_leaf_50 : decode cX4_leaf 50 = .ok (.iload_n 3, 1) := by decide +kernel
theorem dX4_leaf_51 : decode cX4_leaf 51 = .ok (.bipush 32, 2) := by decide +kernel
theorem dX4_leaf_53 : decode cX4_leaf 53 = .ok (.isub, 1) := by decide +kernel
theorem dX4_leaf_54 : decode cX4_leaf 54 = .ok (.imul, 1) := by decide +kernel
theorem dX4_leaf_55 : decode cX4_leaf 55 = .ok (.istore 5, 2) := by decide +kernel
theorem dX4_leaf_57 : decode cX4_leaf 57 = .ok (.bipush 8, 2) := by decide +kernel
theorem dX4_leaf_59 : decode cX4_leaf 59 = .ok (.iload 4, 2) := by decide +kernel
theorem dX4_leaf_61 : decode cX4_leaf 61 = .ok (.bipush 32, 2) := by decide +kernel
theorem dX4_leaf_63 : decode cX4_leaf 63 = .ok (.isub, 1) := by decide +kernel
theorem dX4_leaf_64 : decode cX4_leaf 64 = .ok (.imul, 1) := by decide +kernel
theorem dX4_leaf_65 : decode cX4_leaf 65 = .ok (.bipush 8, 2) := by decide +kernel
theorem dX4_leaf_67 : decode cX4_leaf 67 = .ok (.iadd, 1) := by decide +kernel
theorem dX4_leaf_68 : decode cX4_leaf 68 = .ok (.iconst 1, 1) := by decide +kernel
theorem dX4_leaf_69 : decode cX4_leaf 69 = .ok (.isub, 1) := by decide +kernel
theorem dX4_leaf_70 : decode cX4_leaf 70 = .ok (.istore 6, 2) := by decide +kernel
theorem dX4_leaf_72 : decode cX4_leaf 72 = .ok (.iload_n 2, 1) := by decide +kernel
theorem dX4_leaf_73 : decode cX4_leaf 73 = .ok (.tableswitch 88 0 4 #[35, 58, 64, 70, 79], 35) := by decide +kernel
theorem dX4_leaf_108 : decode cX4_leaf 108 = .ok (.iload 5, 2) := by decide +kernel
theorem dX4_leaf_110 : decode cX4_leaf 110 = .ok (.invokestatic 184, 3) := by decide +kernel
theorem dX4_leaf_113 : decode cX4_leaf 113 = .ok (.iload 6, 2) := by decide +kernel
theorem dX4_leaf_115 : decode cX4_leaf 115 = .ok (.invokestatic 184, 3) := by decide +kernel
theorem dX4_leaf_118 : decode cX4_leaf 118 = .ok (.if_icmp .ne 11, 3) := by decide +kernel
theorem dX4_leaf_121 : decode cX4_leaf 121 = .ok (.iload 5, 2) := by decide +kernel
theorem dX4_leaf_123 : decode cX4_leaf 123 = .ok (.invokestatic 184, 3) := by decide +kernel
theorem dX4_leaf_126 : decode cX4_leaf 126 = .ok (.goto 4, 3) := by decide +kernel
theorem dX4_leaf_129 : decode cX4_leaf 129 = .ok (.iconst (-1), 1) := by decide +kernel
theorem dX4_leaf_130 : decode cX4_leaf 130 = .ok (.ireturn, 1) := by decide +kernel
theorem dX4_leaf_131 : decode cX4_leaf 131 = .ok (.iload 5, 2) := by decide +kernel
theorem dX4_leaf_133 : decode cX4_leaf 133 = .ok (.invokestatic 187, 3) := by decide +kernel
theorem dX4_leaf_136 : decode cX4_leaf 136 = .ok (.ireturn, 1) := by decide +kernel
theorem dX4_leaf_137 : decode cX4_leaf 137 = .ok (.iload 6, 2) := by decide +kernel
theorem dX4_leaf_139 : decode cX4_leaf 139 = .ok (.invokestatic 187, 3) := by decide +kernel
theorem dX4_leaf_142 : decode cX4_leaf 142 = .ok (.ireturn, 1) := by decide +kernel
theorem dX4_leaf_143 : decode cX4_leaf 143 = .ok (.aload_n 0, 1) := by decide +kernel
theorem dX4_leaf_144 : decode cX4_leaf 144 = .ok (.getfield 10, 3) := by decide +kernel
theorem dX4_leaf_147 : decode cX4_leaf 147 = .ok (.iload_n 1, 1) := by decide +kernel
theorem dX4_leaf_148 : decode cX4_leaf 148 = .ok (.invokevirtual 190, 3) := by decide +kernel
theorem dX4_leaf_151 : decode cX4_leaf 151 = .ok (.ireturn, 1) := by decide +kernel
theorem dX4_leaf_152 : decode cX4_leaf 152 = .ok (.aload_n 0, 1) := by decide +kernel
theorem dX4_leaf_153 : decode cX4_leaf 153 = .ok (.getfield 16, 3) := by decide +kernel
theorem dX4_leaf_156 : decode cX4_leaf 156 = .ok (.iload_n 1, 1) := by decide +kernel
theorem dX4_leaf_157 : decode cX4_leaf 157 = .ok (.invokevirtual 190, 3) := by decide +kernel
theorem dX4_leaf_160 : decode cX4_leaf 160 = .ok (.ireturn, 1) := by decide +kernel
theorem dX4_leaf_161 : decode cX4_leaf 161 = .ok (.iconst (-1), 1) := by decide +kernel
theorem dX4_leaf_162 : decode cX4_leaf 162 = .ok (.ireturn, 1) := by decide +kernel
theorem dX4_sideOf_0 : decode cX4_sideOf 0 = .ok (.iload_n 1, 1) := by decide +kernel
theorem dX4_sideOf_1 : decode cX4_sideOf 1 = .ok (.ifCond .ne 10, 3) := by decide +kernel
theorem dX4_sideOf_4 : decode cX4_sideOf 4 = .ok (.aload_n 0, 1) := by decide +kernel
theorem dX4_sideOf_5 : decode cX4_sideOf 5 = .ok (.getfield 10, 3) := by decide +kernel
theorem dX4_sideOf_8 : decode cX4_sideOf 8 = .ok (.goto 7, 3) := by decide +kernel
theorem dX4_sideOf_11 : decode cX4_sideOf 11 = .ok (.aload_n 0, 1) := by decide +kernel
theorem dX4_sideOf_12 : decode cX4_sideOf 12 = .ok (.getfield 16, 3) := by decide +kernel
theorem dX4_sideOf_15 : decode cX4_sideOf 15 = .ok (.areturn, 1) := by decide +kernel
theorem dX4_otherOf_0 : decode cX4_otherOf 0 = .ok (.iload_n 1, 1) := by decide +kernel
theorem dX4_otherOf_1 : decode cX4_otherOf 1 = .ok (.ifCond .ne 10, 3) := by decide +kernel
theorem dX4_otherOf_4 : decode cX4_otherOf 4 = .ok (.aload_n 0, 1) := by decide +kernel
theorem dX4_otherOf_5 : decode cX4_otherOf 5 = .ok (.getfield 16, 3) := by decide +kernel
theorem dX4_otherOf_8 : decode cX4_otherOf 8 = .ok (.goto 7, 3) := by decide +kernel
theorem dX4_otherOf_11 : decode cX4_otherOf 11 = .ok (.aload_n 0, 1) := by decide +kernel
theorem dX4_otherOf_12 : decode cX4_otherOf 12 = .ok (.getfield 10, 3) := by decide +kernel
theorem dX4_otherOf_15 : decode cX4_otherOf 15 = .ok (.areturn, 1) := by decide +kernel
theorem dX4_isSide_0 : decode cX4_isSide 0 = .ok (.iload_n 0, 1) := by decide +kernel
theorem dX4_isSide_1 : decode cX4_isSide 1 = .ok (.ifCond .lt 12, 3) := by decide +kernel
theorem dX4_isSide_4 : decode cX4_isSide 4 = .ok (.iload_n 0, 1) := by decide +kernel
theorem dX4_isSide_5 : decode cX4_isSide 5 = .ok (.iconst 2, 1) := by decide +kernel
theorem dX4_isSide_6 : decode cX4_isSide 6 = .ok (.if_icmp .ge 7, 3) := by decide +kernel
theorem dX4_isSide_9 : decode cX4_isSide 9 = .ok (.iconst 1, 1) := by decide +kernel
theorem dX4_isSide_10 : decode cX4_isSide 10 = .ok (.goto 4, 3) := by decide +kernel
theorem dX4_isSide_13 : decode cX4_isSide 13 = .ok (.iconst 0, 1) := by decide +kernel
theorem dX4_isSide_14 : decode cX4_isSide 14 = .ok (.ireturn, 1) := by decide +kernel
theorem dX4_isNode_0 : decode cX4_isNode 0 = .ok (.iload_n 0, 1) := by decide +kernel
theorem dX4_isNode_1 : decode cX4_isNode 1 = .ok (.ifCond .lt 12, 3) := by decide +kernel
theorem dX4_isNode_4 : decode cX4_isNode 4 = .ok (.iload_n 0, 1) := by decide +kernel
theorem dX4_isNode_5 : decode cX4_isNode 5 = .ok (.iconst 4, 1) := by decide +kernel
theorem dX4_isNode_6 : decode cX4_isNode 6 = .ok (.if_icmp .ge 7, 3) := by decide +kernel
theorem dX4_isNode_9 : decode cX4_isNode 9 = .ok (.iconst 1, 1) := by decide +kernel
theorem dX4_isNode_10 : decode cX4_isNode 10 = .ok (.goto 4, 3) := by decide +kernel
theorem dX4_isNode_13 : decode cX4_isNode 13 = .ok (.iconst 0, 1) := by decide +kernel
theorem dX4_isNode_14 : decode cX4_isNode 14 = .ok (.ireturn, 1) := by decide +kernel
theorem dX4_isRange_0 : decode cX4_isRange 0 = .ok (.iload_n 0, 1) := by decide +kernel
theorem dX4_isRange_1 : decode cX4_isRange 1 = .ok (.iconst 1, 1) := by decide +kernel
theorem dX4_isRange_2 : decode cX4_isRange 2 = .ok (.if_icmp .lt 13, 3) := by decide +kernel
theorem dX4_isRange_5 : decode cX4_isRange 5 = .ok (.iload_n 0, 1) := by decide +kernel
theorem dX4_isRange_6 : decode cX4_isRange 6 = .ok (.bipush 64, 2) := by decide +kernel
theorem dX4_isRange_8 : decode cX4_isRange 8 = .ok (.if_icmp .ge 7, 3) := by decide +kernel
theorem dX4_isRange_11 : decode cX4_isRange 11 = .ok (.iconst 1, 1) := by decide +kernel
theorem dX4_isRange_12 : decode cX4_isRange 12 = .ok (.goto 4, 3) := by decide +kernel
theorem dX4_isRange_15 : decode cX4_isRange 15 = .ok (.iconst 0, 1) := by decide +kernel
theorem dX4_isRange_16 : decode cX4_isRange 16 = .ok (.ireturn, 1) := by decide +kernel
set_option maxRecDepth 20000 in
theorem ggX4_slotOf_X4_isSide : GoodIn wsX4_slotOf wsX4_isSide := goodIn_r _ [4] (by decide +kernel) (by decide +kernel)
set_option maxRecDepth 20000 in
theorem gX4_slotOf_X4_isSide : GoodIn wsX4_slotOf (va_wsS RX4 82 yX4_isSide wsX4_isSide) := goodIn_app (goodIn_of _ (by decide +kernel)) ggX4_slotOf_X4_isSide
set_option maxRecDepth 20000 in
theorem ggX4_slotOf_X4_isNode : GoodIn wsX4_slotOf wsX4_isNode := goodIn_r _ [7] (by decide +kernel) (by decide +kernel)
set_option maxRecDepth 20000 in
theorem gX4_slotOf_X4_isNode : GoodIn wsX4_slotOf (va_wsS RX4 85 yX4_isNode wsX4_isNode) := goodIn_app (goodIn_of _ (by decide +kernel)) ggX4_slotOf_X4_isNode
theorem dX4_slotOf_0 : decode cX4_slotOf 0 = .ok (.iload_n 0, 1) := by decide +kernel
theorem dX4_slotOf_1 : decode cX4_slotOf 1 = .ok (.invokestatic 82, 3) := by decide +kernel
theorem dX4_slotOf_4 : decode cX4_slotOf 4 = .ok (.ifCond .eq 21, 3) := by decide +kernel
theorem dX4_slotOf_7 : decode cX4_slotOf 7 = .ok (.iload_n 1, 1) := by decide +kernel
theorem dX4_slotOf_8 : decode cX4_slotOf 8 = .ok (.invokestatic 85, 3) := by decide +kernel
theorem dX4_slotOf_11 : decode cX4_slotOf 11 = .ok (.ifCond .eq 14, 3) := by decide +kernel
theorem dX4_slotOf_14 : decode cX4_slotOf 14 = .ok (.iload_n 2, 1) := by decide +kernel
theorem dX4_slotOf_15 : decode cX4_slotOf 15 = .ok (.iconst 1, 1) := by decide +kernel
theorem dX4_slotOf_16 : decode cX4_slotOf 16 = .ok (.if_icmp .lt 9, 3) := by decide +kernel
theorem dX4_slotOf_19 : decode cX4_slotOf 19 = .ok (.iload_n 2, 1) := by decide +kernel
theorem dX4_slotOf_20 : decode cX4_slotOf 20 = .ok (.bipush 64, 2) := by decide +kernel
theorem dX4_slotOf_22 : decode cX4_slotOf 22 = .ok (.if_icmp .le 5, 3) := by decide +kernel
theorem dX4_slotOf_25 : decode cX4_slotOf 25 = .ok (.iconst (-1), 1) := by decide +kernel
theorem dX4_slotOf_26 : decode cX4_slotOf 26 = .ok (.ireturn, 1) := by decide +kernel
theorem dX4_slotOf_27 : decode cX4_slotOf 27 = .ok (.bipush 64, 2) := by decide +kernel
theorem dX4_slotOf_29 : decode cX4_slotOf 29 = .ok (.iload_n 1, 1) := by decide +kernel
theorem dX4_slotOf_30 : decode cX4_slotOf 30 = .ok (.imul, 1) := by decide +kernel
theorem dX4_slotOf_31 : decode cX4_slotOf 31 = .ok (.iload_n 2, 1) := by decide +kernel
theorem dX4_slotOf_32 : decode cX4_slotOf 32 = .ok (.iadd, 1) := by decide +kernel
theorem dX4_slotOf_33 : decode cX4_slotOf 33 = .ok (.iconst 1, 1) := by decide +kernel
theorem dX4_slotOf_34 : decode cX4_slotOf 34 = .ok (.isub, 1) := by decide +kernel
theorem dX4_slotOf_35 : decode cX4_slotOf 35 = .ok (.ireturn, 1) := by decide +kernel
theorem dX4_nodeOf_0 : decode cX4_nodeOf 0 = .ok (.iload_n 0, 1) := by decide +kernel
theorem dX4_nodeOf_1 : decode cX4_nodeOf 1 = .ok (.bipush 64, 2) := by decide +kernel
theorem dX4_nodeOf_3 : decode cX4_nodeOf 3 = .ok (.idiv, 1) := by decide +kernel
theorem dX4_nodeOf_4 : decode cX4_nodeOf 4 = .ok (.ireturn, 1) := by decide +kernel
theorem dX4_numberOf_0 : decode cX4_numberOf 0 = .ok (.iload_n 0, 1) := by decide +kernel
theorem dX4_numberOf_1 : decode cX4_numberOf 1 = .ok (.bipush 64, 2) := by decide +kernel
theorem dX4_numberOf_3 : decode cX4_numberOf 3 = .ok (.irem, 1) := by decide +kernel
theorem dX4_numberOf_4 : decode cX4_numberOf 4 = .ok (.iconst 1, 1) := by decide +kernel
theorem dX4_numberOf_5 : decode cX4_numberOf 5 = .ok (.iadd, 1) := by decide +kernel
theorem dX4_numberOf_6 : decode cX4_numberOf 6 = .ok (.ireturn, 1) := by decide +kernel
theorem dX4_leafOf_0 : decode cX4_leafOf 0 = .ok (.bipush 32, 2) := by decide +kernel
theorem dX4_leafOf_2 : decode cX4_leafOf 2 = .ok (.iload_n 0, 1) := by decide +kernel
theorem dX4_leafOf_3 : decode cX4_leafOf 3 = .ok (.bipush 8, 2) := by decide +kernel
theorem dX4_leafOf_5 : decode cX4_leafOf 5 = .ok (.idiv, 1) := by decide +kernel
theorem dX4_leafOf_6 : decode cX4_leafOf 6 = .ok (.iadd, 1) := by decide +kernel
theorem dX4_leafOf_7 : decode cX4_leafOf 7 = .ok (.ireturn, 1) := by decide +kernel
theorem dX4_firstSlotOf_0 : decode cX4_firstSlotOf 0 = .ok (.bipush 8, 2) := by decide +kernel
theorem dX4_firstSlotOf_2 : decode cX4_firstSlotOf 2 = .ok (.iload_n 0, 1) := by decide +kernel
theorem dX4_firstSlotOf_3 : decode cX4_firstSlotOf 3 = .ok (.bipush 32, 2) := by decide +kernel
theorem dX4_firstSlotOf_5 : decode cX4_firstSlotOf 5 = .ok (.isub, 1) := by decide +kernel
theorem dX4_firstSlotOf_6 : decode cX4_firstSlotOf 6 = .ok (.imul, 1) := by decide +kernel
theorem dX4_firstSlotOf_7 : decode cX4_firstSlotOf 7 = .ok (.ireturn, 1) := by decide +kernel
set_option maxRecDepth 20000 in
theorem ggX4_mix_J6_rotateLeft_7cf53 : GoodIn wsX4_mix wsJ6_rotateLeft_7cf53 := goodIn_r _ [5] (by decide +kernel) (by decide +kernel)
set_option maxRecDepth 20000 in
theorem gX4_mix_J6_rotateLeft_7cf53 : GoodIn wsX4_mix (va_wsS RX4 193 yJ6_rotateLeft_7cf53 wsJ6_rotateLeft_7cf53) := goodIn_app (goodIn_of _ (by decide +kernel)) ggX4_mix_J6_rotateLeft_7cf53
theorem dX4_mix_0 : decode cX4_mix 0 = .ok (.iload_n 0, 1) := by decide +kernel
theorem dX4_mix_1 : decode cX4_mix 1 = .ok (.istore 4, 2) := by decide +kernel
theorem dX4_mix_3 : decode cX4_mix 3 = .ok (.iload_n 3, 1) := by decide +kernel
theorem dX4_mix_4 : decode cX4_mix 4 = .ok (.iconst 1, 1) := by decide +kernel
theorem dX4_mix_5 : decode cX4_mix 5 = .ok (.isub, 1) := by decide +kernel
theorem dX4_mix_6 : decode cX4_mix 6 = .ok (.istore 5, 2) := by decide +kernel
theorem dX4_mix_8 : decode cX4_mix 8 = .ok (.iload 5, 2) := by decide +kernel
theorem dX4_mix_10 : decode cX4_mix 10 = .ok (.ifCond .lt 38, 3) := by decide +kernel
theorem dX4_mix_13 : decode cX4_mix 13 = .ok (.lload_n 1, 1) := by decide +kernel
theorem dX4_mix_14 : decode cX4_mix 14 = .ok (.bipush 8, 2) := by decide +kernel
theorem dX4_mix_16 : decode cX4_mix 16 = .ok (.iload 5, 2) := by decide +kernel
theorem dX4_mix_18 : decode cX4_mix 18 = .ok (.imul, 1) := by decide +kernel
theorem dX4_mix_19 : decode cX4_mix 19 = .ok (.lushr, 1) := by decide +kernel
theorem dX4_mix_20 : decode cX4_mix 20 = .ok (.l2i, 1) := by decide +kernel
theorem dX4_mix_21 : decode cX4_mix 21 = .ok (.sipush 255, 3) := by decide +kernel
theorem dX4_mix_24 : decode cX4_mix 24 = .ok (.iand, 1) := by decide +kernel
theorem dX4_mix_25 : decode cX4_mix 25 = .ok (.istore 6, 2) := by decide +kernel
theorem dX4_mix_27 : decode cX4_mix 27 = .ok (.iload 4, 2) := by decide +kernel
theorem dX4_mix_29 : decode cX4_mix 29 = .ok (.iload 6, 2) := by decide +kernel
theorem dX4_mix_31 : decode cX4_mix 31 = .ok (.ixor, 1) := by decide +kernel
theorem dX4_mix_32 : decode cX4_mix 32 = .ok (.bipush 7, 2) := by decide +kernel
theorem dX4_mix_34 : decode cX4_mix 34 = .ok (.invokestatic 193, 3) := by decide +kernel
theorem dX4_mix_37 : decode cX4_mix 37 = .ok (.ldc 198, 2) := by decide +kernel
theorem dX4_mix_39 : decode cX4_mix 39 = .ok (.imul, 1) := by decide +kernel
theorem dX4_mix_40 : decode cX4_mix 40 = .ok (.istore 4, 2) := by decide +kernel
theorem dX4_mix_42 : decode cX4_mix 42 = .ok (.iinc 5 (-1), 3) := by decide +kernel
theorem dX4_mix_45 : decode cX4_mix 45 = .ok (.goto (-37), 3) := by decide +kernel
theorem dX4_mix_48 : decode cX4_mix 48 = .ok (.iload 4, 2) := by decide +kernel
theorem dX4_mix_50 : decode cX4_mix 50 = .ok (.ireturn, 1) := by decide +kernel
set_option maxRecDepth 20000 in
theorem ggX4_mixRow_X4_nodeOf : GoodIn wsX4_mixRow wsX4_nodeOf := goodIn_r _ [4] (by decide +kernel) (by decide +kernel)
set_option maxRecDepth 20000 in
theorem gX4_mixRow_X4_nodeOf : GoodIn wsX4_mixRow (va_wsS RX4 184 yX4_nodeOf wsX4_nodeOf) := goodIn_app (goodIn_of _ (by decide +kernel)) ggX4_mixRow_X4_nodeOf
set_option maxRecDepth 20000 in
theorem ggX4_mixRow_X4_mix : GoodIn wsX4_mixRow wsX4_mix := goodIn_r _ [7, 8, 9, 10, 11, 12] (by decide +kernel) (by decide +kernel)
set_option maxRecDepth 20000 in
theorem gX4_mixRow_X4_mix : GoodIn wsX4_mixRow (va_wsS RX4 199 yX4_mix wsX4_mix) := goodIn_app (goodIn_of _ (by decide +kernel)) ggX4_mixRow_X4_mix
set_option maxRecDepth 20000 in
theorem ggX4_mixRow_X4_numberOf : GoodIn wsX4_mixRow wsX4_numberOf := goodIn_r _ [15] (by decide +kernel) (by decide +kernel)
set_option maxRecDepth 20000 in
theorem gX4_mixRow_X4_numberOf : GoodIn wsX4_mixRow (va_wsS RX4 187 yX4_numberOf wsX4_numberOf) := goodIn_app (goodIn_of _ (by decide +kernel)) ggX4_mixRow_X4_numberOf
theorem dX4_mixRow_0 : decode cX4_mixRow 0 = .ok (.iload_n 0, 1) := by decide +kernel
theorem dX4_mixRow_1 : decode cX4_mixRow 1 = .ok (.iload_n 1, 1) := by decide +kernel
theorem dX4_mixRow_2 : decode cX4_mixRow 2 = .ok (.invokestatic 184, 3) := by decide +kernel
theorem dX4_mixRow_5 : decode cX4_mixRow 5 = .ok (.i2l, 1) := by decide +kernel
theorem dX4_mixRow_6 : decode cX4_mixRow 6 = .ok (.iconst 1, 1) := by decide +kernel
theorem dX4_mixRow_7 : decode cX4_mixRow 7 = .ok (.invokestatic 199, 3) := by decide +kernel
theorem dX4_mixRow_10 : decode cX4_mixRow 10 = .ok (.iload_n 1, 1) := by decide +kernel
theorem dX4_mixRow_11 : decode cX4_mixRow 11 = .ok (.invokestatic 187, 3) := by decide +kernel
theorem dX4_mixRow_14 : decode cX4_mixRow 14 = .ok (.i2l, 1) := by decide +kernel
theorem dX4_mixRow_15 : decode cX4_mixRow 15 = .ok (.iconst 1, 1) := by decide +kernel
theorem dX4_mixRow_16 : decode cX4_mixRow 16 = .ok (.invokestatic 199, 3) := by decide +kernel
theorem dX4_mixRow_19 : decode cX4_mixRow 19 = .ok (.lload_n 2, 1) := by decide +kernel
theorem dX4_mixRow_20 : decode cX4_mixRow 20 = .ok (.bipush 8, 2) := by decide +kernel
theorem dX4_mixRow_22 : decode cX4_mixRow 22 = .ok (.invokestatic 199, 3) := by decide +kernel
theorem dX4_mixRow_25 : decode cX4_mixRow 25 = .ok (.ireturn, 1) := by decide +kernel
