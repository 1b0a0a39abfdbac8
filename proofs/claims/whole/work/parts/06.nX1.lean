theorem dX1_init_0 : decode cX1_init 0 = .ok (.aload_n 0, 1) := by decide +kernel
theorem dX1_init_1 : decode cX1_init 1 = .ok (.invokespecial 3, 3) := by decide +kernel
theorem dX1_init_4 : decode cX1_init 4 = .ok (.aload_n 0, 1) := by decide +kernel
theorem dX1_init_5 : decode cX1_init 5 = .ok (.sipush 256, 3) := by decide +kernel
theorem dX1_init_8 : decode cX1_init 8 = .ok (.newarray .boolean, 2) := by decide +kernel
theorem dX1_init_10 : decode cX1_init 10 = .ok (.putfield 9, 3) := by decide +kernel
theorem dX1_init_13 : decode cX1_init 13 = .ok (.aload_n 0, 1) := by decide +kernel
theorem dX1_init_14 : decode cX1_init 14 = .ok (.sipush 256, 3) := by decide +kernel
theorem dX1_init_17 : decode cX1_init 17 = .ok (.newarray .long, 2) := by decide +kernel
theorem dX1_init_19 : decode cX1_init 19 = .ok (.putfield 15, 3) := by decide +kernel
theorem dX1_init_22 : decode cX1_init 22 = .ok (.aload_n 0, 1) := by decide +kernel
theorem dX1_init_23 : decode cX1_init 23 = .ok (.iconst 4, 1) := by decide +kernel
theorem dX1_init_24 : decode cX1_init 24 = .ok (.newarray .boolean, 2) := by decide +kernel
theorem dX1_init_26 : decode cX1_init 26 = .ok (.dup, 1) := by decide +kernel
theorem dX1_init_27 : decode cX1_init 27 = .ok (.iconst 0, 1) := by decide +kernel
theorem dX1_init_28 : decode cX1_init 28 = .ok (.iconst 1, 1) := by decide +kernel
theorem dX1_init_29 : decode cX1_init 29 = .ok (.bastore, 1) := by decide +kernel
theorem dX1_init_30 : decode cX1_init 30 = .ok (.dup, 1) := by decide +kernel
theorem dX1_init_31 : decode cX1_init 31 = .ok (.iconst 1, 1) := by decide +kernel
theorem dX1_init_32 : decode cX1_init 32 = .ok (.iconst 1, 1) := by decide +kernel
theorem dX1_init_33 : decode cX1_init 33 = .ok (.bastore, 1) := by decide +kernel
theorem dX1_init_34 : decode cX1_init 34 = .ok (.dup, 1) := by decide +kernel
theorem dX1_init_35 : decode cX1_init 35 = .ok (.iconst 2, 1) := by decide +kernel
theorem dX1_init_36 : decode cX1_init 36 = .ok (.iconst 1, 1) := by decide +kernel
theorem dX1_init_37 : decode cX1_init 37 = .ok (.bastore, 1) := by decide +kernel
theorem dX1_init_38 : decode cX1_init 38 = .ok (.dup, 1) := by decide +kernel
theorem dX1_init_39 : decode cX1_init 39 = .ok (.iconst 3, 1) := by decide +kernel
theorem dX1_init_40 : decode cX1_init 40 = .ok (.iconst 1, 1) := by decide +kernel
theorem dX1_init_41 : decode cX1_init 41 = .ok (.bastore, 1) := by decide +kernel
theorem dX1_init_42 : decode cX1_init 42 = .ok (.putfield 19, 3) := by decide +kernel
theorem dX1_init_45 : decode cX1_init 45 = .ok (.aload_n 0, 1) := by decide +kernel
theorem dX1_init_46 : decode cX1_init 46 = .ok (.sipush 512, 3) := by decide +kernel
theorem dX1_init_49 : decode cX1_init 49 = .ok (.newarray .int, 2) := by decide +kernel
theorem dX1_init_51 : decode cX1_init 51 = .ok (.putfield 22, 3) := by decide +kernel
theorem dX1_init_54 : decode cX1_init 54 = .ok (.aload_n 0, 1) := by decide +kernel
theorem dX1_init_55 : decode cX1_init 55 = .ok (.bipush 64, 2) := by decide +kernel
theorem dX1_init_57 : decode cX1_init 57 = .ok (.newarray .int, 2) := by decide +kernel
theorem dX1_init_59 : decode cX1_init 59 = .ok (.putfield 26, 3) := by decide +kernel
theorem dX1_init_62 : decode cX1_init 62 = .ok (.aload_n 0, 1) := by decide +kernel
theorem dX1_init_63 : decode cX1_init 63 = .ok (.bipush 64, 2) := by decide +kernel
theorem dX1_init_65 : decode cX1_init 65 = .ok (.newarray .int, 2) := by decide +kernel
theorem dX1_init_67 : decode cX1_init 67 = .ok (.putfield 29, 3) := by decide +kernel
theorem dX1_init_70 : decode cX1_init 70 = .ok (.return_, 1) := by decide +kernel
theorem dX1_size_0 : decode cX1_size 0 = .ok (.aload_n 0, 1) := by decide +kernel
theorem dX1_size_1 : decode cX1_size 1 = .ok (.getfield 32, 3) := by decide +kernel
theorem dX1_size_4 : decode cX1_size 4 = .ok (.ireturn, 1) := by decide +kernel
theorem dX1_has_0 : decode cX1_has 0 = .ok (.aload_n 0, 1) := by decide +kernel
theorem dX1_has_1 : decode cX1_has 1 = .ok (.getfield 9, 3) := by decide +kernel
theorem dX1_has_4 : decode cX1_has 4 = .ok (.iload_n 1, 1) := by decide +kernel
theorem dX1_has_5 : decode cX1_has 5 = .ok (.baload, 1) := by decide +kernel
theorem dX1_has_6 : decode cX1_has 6 = .ok (.ireturn, 1) := by decide +kernel
theorem dX1_value_0 : decode cX1_value 0 = .ok (.aload_n 0, 1) := by decide +kernel
theorem dX1_value_1 : decode cX1_value 1 = .ok (.getfield 15, 3) := by decide +kernel
theorem dX1_value_4 : decode cX1_value 4 = .ok (.iload_n 1, 1) := by decide +kernel
theorem dX1_value_5 : decode cX1_value 5 = .ok (.laload, 1) := by decide +kernel
theorem dX1_value_6 : decode cX1_value 6 = .ok (.lreturn, 1) := by decide +kernel
theorem dX1_holds_0 : decode cX1_holds 0 = .ok (.aload_n 0, 1) := by decide +kernel
theorem dX1_holds_1 : decode cX1_holds 1 = .ok (.getfield 19, 3) := by decide +kernel
theorem dX1_holds_4 : decode cX1_holds 4 = .ok (.iload_n 1, 1) := by decide +kernel
theorem dX1_holds_5 : decode cX1_holds 5 = .ok (.baload, 1) := by decide +kernel
theorem dX1_holds_6 : decode cX1_holds 6 = .ok (.ireturn, 1) := by decide +kernel
theorem dX1_setHolding_0 : decode cX1_setHolding 0 = .ok (.aload_n 0, 1) := by decide +kernel
theorem dX1_setHolding_1 : decode cX1_setHolding 1 = .ok (.getfield 19, 3) := by decide +kernel
theorem dX1_setHolding_4 : decode cX1_setHolding 4 = .ok (.iload_n 1, 1) := by decide +kernel
theorem dX1_setHolding_5 : decode cX1_setHolding 5 = .ok (.iload_n 2, 1) := by decide +kernel
theorem dX1_setHolding_6 : decode cX1_setHolding 6 = .ok (.bastore, 1) := by decide +kernel
theorem dX1_setHolding_7 : decode cX1_setHolding 7 = .ok (.return_, 1) := by decide +kernel
theorem dX1_put_0 : decode cX1_put 0 = .ok (.aload_n 0, 1) := by decide +kernel
theorem dX1_put_1 : decode cX1_put 1 = .ok (.getfield 9, 3) := by decide +kernel
theorem dX1_put_4 : decode cX1_put 4 = .ok (.iload_n 1, 1) := by decide +kernel
theorem dX1_put_5 : decode cX1_put 5 = .ok (.baload, 1) := by decide +kernel
theorem dX1_put_6 : decode cX1_put 6 = .ok (.ifCond .ne 20, 3) := by decide +kernel
theorem dX1_put_9 : decode cX1_put 9 = .ok (.aload_n 0, 1) := by decide +kernel
theorem dX1_put_10 : decode cX1_put 10 = .ok (.getfield 9, 3) := by decide +kernel
theorem dX1_put_13 : decode cX1_put 13 = .ok (.iload_n 1, 1) := by decide +kernel
theorem dX1_put_14 : decode cX1_put 14 = .ok (.iconst 1, 1) := by decide +kernel
theorem dX1_put_15 : decode cX1_put 15 = .ok (.bastore, 1) := by decide +kernel
theorem dX1_put_16 : decode cX1_put 16 = .ok (.aload_n 0, 1) := by decide +kernel
theorem dX1_put_17 : decode cX1_put 17 = .ok (.dup, 1) := by decide +kernel
theorem dX1_put_18 : decode cX1_put 18 = .ok (.getfield 32, 3) := by decide +kernel
theorem dX1_put_21 : decode cX1_put 21 = .ok (.iconst 1, 1) := by decide +kernel
theorem dX1_put_22 : decode cX1_put 22 = .ok (.iadd, 1) := by decide +kernel
theorem dX1_put_23 : decode cX1_put 23 = .ok (.putfield 32, 3) := by decide +kernel
theorem dX1_put_26 : decode cX1_put 26 = .ok (.aload_n 0, 1) := by decide +kernel
theorem dX1_put_27 : decode cX1_put 27 = .ok (.getfield 15, 3) := by decide +kernel
theorem dX1_put_30 : decode cX1_put 30 = .ok (.iload_n 1, 1) := by decide +kernel
theorem dX1_put_31 : decode cX1_put 31 = .ok (.lload_n 2, 1) := by decide +kernel
theorem dX1_put_32 : decode cX1_put 32 = .ok (.lastore, 1) := by decide +kernel
theorem dX1_put_33 : decode cX1_put 33 = .ok (.return_, 1) := by decide +kernel
theorem dX1_remove_0 : decode cX1_remove 0 = .ok (.aload_n 0, 1) := by decide +kernel
theorem dX1_remove_1 : decode cX1_remove 1 = .ok (.getfield 9, 3) := by decide +kernel
theorem dX1_remove_4 : decode cX1_remove 4 = .ok (.iload_n 1, 1) := by decide +kernel
theorem dX1_remove_5 : decode cX1_remove 5 = .ok (.baload, 1) := by decide +kernel
theorem dX1_remove_6 : decode cX1_remove 6 = .ok (.ifCond .eq 20, 3) := by decide +kernel
theorem dX1_remove_9 : decode cX1_remove 9 = .ok (.aload_n 0, 1) := by decide +kernel
theorem dX1_remove_10 : decode cX1_remove 10 = .ok (.getfield 9, 3) := by decide +kernel
theorem dX1_remove_13 : decode cX1_remove 13 = .ok (.iload_n 1, 1) := by decide +kernel
theorem dX1_remove_14 : decode cX1_remove 14 = .ok (.iconst 0, 1) := by decide +kernel
theorem dX1_remove_15 : decode cX1_remove 15 = .ok (.bastore, 1) := by decide +kernel
theorem dX1_remove_16 : decode cX1_remove 16 = .ok (.aload_n 0, 1) := by decide +kernel
theorem dX1_remove_17 : decode cX1_remove 17 = .ok (.dup, 1) := by decide +kernel
theorem dX1_remove_18 : decode cX1_remove 18 = .ok (.getfield 32, 3) := by decide +kernel
theorem dX1_remove_21 : decode cX1_remove 21 = .ok (.iconst 1, 1) := by decide +kernel
theorem dX1_remove_22 : decode cX1_remove 22 = .ok (.isub, 1) := by decide +kernel
theorem dX1_remove_23 : decode cX1_remove 23 = .ok (.putfield 32, 3) := by decide +kernel
theorem dX1_remove_26 : decode cX1_remove 26 = .ok (.return_, 1) := by decide +kernel
set_option maxRecDepth 20000 in
theorem ggX1_hasCounting_X4_nodeOf : GoodIn wsX1_hasCounting wsX4_nodeOf := goodIn_r _ [5] (by decide +kernel) (by decide +kernel)
set_option maxRecDepth 20000 in
theorem gX1_hasCounting_X4_nodeOf_n36 : GoodIn wsX1_hasCounting (wsX4_nodeOf) := ggX1_hasCounting_X4_nodeOf
theorem dX1_hasCounting_0 : decode cX1_hasCounting 0 = .ok (.aload_n 0, 1) := by decide +kernel
theorem dX1_hasCounting_1 : decode cX1_hasCounting 1 = .ok (.getfield 9, 3) := by decide +kernel
theorem dX1_hasCounting_4 : decode cX1_hasCounting 4 = .ok (.iload_n 1, 1) := by decide +kernel
theorem dX1_hasCounting_5 : decode cX1_hasCounting 5 = .ok (.baload, 1) := by decide +kernel
theorem dX1_hasCounting_6 : decode cX1_hasCounting 6 = .ok (.ifCond .eq 31, 3) := by decide +kernel
theorem dX1_hasCounting_9 : decode cX1_hasCounting 9 = .ok (.aload_n 0, 1) := by decide +kernel
theorem dX1_hasCounting_10 : decode cX1_hasCounting 10 = .ok (.getfield 19, 3) := by decide +kernel
theorem dX1_hasCounting_13 : decode cX1_hasCounting 13 = .ok (.iload_n 1, 1) := by decide +kernel
theorem dX1_hasCounting_14 : decode cX1_hasCounting 14 = .ok (.invokestatic 36, 3) := by decide +kernel
theorem dX1_hasCounting_17 : decode cX1_hasCounting 17 = .ok (.baload, 1) := by decide +kernel
theorem dX1_hasCounting_18 : decode cX1_hasCounting 18 = .ok (.ifCond .eq 19, 3) := by decide +kernel
theorem dX1_hasCounting_21 : decode cX1_hasCounting 21 = .ok (.aload_n 2, 1) := by decide +kernel
theorem dX1_hasCounting_22 : decode cX1_hasCounting 22 = .ok (.getfield 19, 3) := by decide +kernel
theorem dX1_hasCounting_25 : decode cX1_hasCounting 25 = .ok (.iload_n 1, 1) := by decide +kernel
theorem dX1_hasCounting_26 : decode cX1_hasCounting 26 = .ok (.invokestatic 36, 3) := by decide +kernel
theorem dX1_hasCounting_29 : decode cX1_hasCounting 29 = .ok (.baload, 1) := by decide +kernel
theorem dX1_hasCounting_30 : decode cX1_hasCounting 30 = .ok (.ifCond .eq 7, 3) := by decide +kernel
theorem dX1_hasCounting_33 : decode cX1_hasCounting 33 = .ok (.iconst 1, 1) := by decide +kernel
theorem dX1_hasCounting_34 : decode cX1_hasCounting 34 = .ok (.goto 4, 3) := by decide +kernel
theorem dX1_hasCounting_37 : decode cX1_hasCounting 37 = .ok (.iconst 0, 1) := by decide +kernel
theorem dX1_hasCounting_38 : decode cX1_hasCounting 38 = .ok (.ireturn, 1) := by decide +kernel
theorem dX1_countingIn_0 : decode cX1_countingIn 0 = .ok (.aload_n 0, 1) := by decide +kernel
theorem dX1_countingIn_1 : decode cX1_countingIn 1 = .ok (.getfield 29, 3) := by decide +kernel
theorem dX1_countingIn_4 : decode cX1_countingIn 4 = .ok (.iload_n 1, 1) := by decide +kernel
theorem dX1_countingIn_5 : decode cX1_countingIn 5 = .ok (.iaload, 1) := by decide +kernel
theorem dX1_countingIn_6 : decode cX1_countingIn 6 = .ok (.ireturn, 1) := by decide +kernel
theorem dX1_keptSum_0 : decode cX1_keptSum 0 = .ok (.aload_n 0, 1) := by decide +kernel
theorem dX1_keptSum_1 : decode cX1_keptSum 1 = .ok (.getfield 26, 3) := by decide +kernel
theorem dX1_keptSum_4 : decode cX1_keptSum 4 = .ok (.iload_n 1, 1) := by decide +kernel
theorem dX1_keptSum_5 : decode cX1_keptSum 5 = .ok (.iaload, 1) := by decide +kernel
theorem dX1_keptSum_6 : decode cX1_keptSum 6 = .ok (.ireturn, 1) := by decide +kernel
theorem dX1_keptByte_0 : decode cX1_keptByte 0 = .ok (.aload_n 0, 1) := by decide +kernel
theorem dX1_keptByte_1 : decode cX1_keptByte 1 = .ok (.getfield 22, 3) := by decide +kernel
theorem dX1_keptByte_4 : decode cX1_keptByte 4 = .ok (.bipush 8, 2) := by decide +kernel
theorem dX1_keptByte_6 : decode cX1_keptByte 6 = .ok (.iload_n 1, 1) := by decide +kernel
theorem dX1_keptByte_7 : decode cX1_keptByte 7 = .ok (.imul, 1) := by decide +kernel
theorem dX1_keptByte_8 : decode cX1_keptByte 8 = .ok (.iload_n 2, 1) := by decide +kernel
theorem dX1_keptByte_9 : decode cX1_keptByte 9 = .ok (.iconst 4, 1) := by decide +kernel
theorem dX1_keptByte_10 : decode cX1_keptByte 10 = .ok (.idiv, 1) := by decide +kernel
theorem dX1_keptByte_11 : decode cX1_keptByte 11 = .ok (.iadd, 1) := by decide +kernel
theorem dX1_keptByte_12 : decode cX1_keptByte 12 = .ok (.iaload, 1) := by decide +kernel
theorem dX1_keptByte_13 : decode cX1_keptByte 13 = .ok (.bipush 24, 2) := by decide +kernel
theorem dX1_keptByte_15 : decode cX1_keptByte 15 = .ok (.bipush 8, 2) := by decide +kernel
theorem dX1_keptByte_17 : decode cX1_keptByte 17 = .ok (.iload_n 2, 1) := by decide +kernel
theorem dX1_keptByte_18 : decode cX1_keptByte 18 = .ok (.iconst 4, 1) := by decide +kernel
theorem dX1_keptByte_19 : decode cX1_keptByte 19 = .ok (.irem, 1) := by decide +kernel
theorem dX1_keptByte_20 : decode cX1_keptByte 20 = .ok (.imul, 1) := by decide +kernel
theorem dX1_keptByte_21 : decode cX1_keptByte 21 = .ok (.isub, 1) := by decide +kernel
theorem dX1_keptByte_22 : decode cX1_keptByte 22 = .ok (.iushr, 1) := by decide +kernel
theorem dX1_keptByte_23 : decode cX1_keptByte 23 = .ok (.sipush 255, 3) := by decide +kernel
theorem dX1_keptByte_26 : decode cX1_keptByte 26 = .ok (.iand, 1) := by decide +kernel
theorem dX1_keptByte_27 : decode cX1_keptByte 27 = .ok (.ireturn, 1) := by decide +kernel
theorem dX1_keepsLike_0 : decode cX1_keepsLike 0 = .ok (.bipush 8, 2) := by decide +kernel
theorem dX1_keepsLike_2 : decode cX1_keepsLike 2 = .ok (.iload_n 2, 1) := by decide +kernel
theorem dX1_keepsLike_3 : decode cX1_keepsLike 3 = .ok (.imul, 1) := by decide +kernel
theorem dX1_keepsLike_4 : decode cX1_keepsLike 4 = .ok (.istore_n 3, 1) := by decide +kernel
theorem dX1_keepsLike_5 : decode cX1_keepsLike 5 = .ok (.iload_n 3, 1) := by decide +kernel
theorem dX1_keepsLike_6 : decode cX1_keepsLike 6 = .ok (.istore 4, 2) := by decide +kernel
theorem dX1_keepsLike_8 : decode cX1_keepsLike 8 = .ok (.iload 4, 2) := by decide +kernel
theorem dX1_keepsLike_10 : decode cX1_keepsLike 10 = .ok (.iload_n 3, 1) := by decide +kernel
theorem dX1_keepsLike_11 : decode cX1_keepsLike 11 = .ok (.bipush 8, 2) := by decide +kernel
theorem dX1_keepsLike_13 : decode cX1_keepsLike 13 = .ok (.iadd, 1) := by decide +kernel
theorem dX1_keepsLike_14 : decode cX1_keepsLike 14 = .ok (.if_icmp .ge 28, 3) := by decide +kernel
theorem dX1_keepsLike_17 : decode cX1_keepsLike 17 = .ok (.aload_n 0, 1) := by decide +kernel
theorem dX1_keepsLike_18 : decode cX1_keepsLike 18 = .ok (.getfield 22, 3) := by decide +kernel
theorem dX1_keepsLike_21 : decode cX1_keepsLike 21 = .ok (.iload 4, 2) := by decide +kernel
theorem dX1_keepsLike_23 : decode cX1_keepsLike 23 = .ok (.iaload, 1) := by decide +kernel
theorem dX1_keepsLike_24 : decode cX1_keepsLike 24 = .ok (.aload_n 1, 1) := by decide +kernel
theorem dX1_keepsLike_25 : decode cX1_keepsLike 25 = .ok (.getfield 22, 3) := by decide +kernel
theorem dX1_keepsLike_28 : decode cX1_keepsLike 28 = .ok (.iload 4, 2) := by decide +kernel
theorem dX1_keepsLike_30 : decode cX1_keepsLike 30 = .ok (.iaload, 1) := by decide +kernel
theorem dX1_keepsLike_31 : decode cX1_keepsLike 31 = .ok (.if_icmp .eq 5, 3) := by decide +kernel
theorem dX1_keepsLike_34 : decode cX1_keepsLike 34 = .ok (.iconst 0, 1) := by decide +kernel
theorem dX1_keepsLike_35 : decode cX1_keepsLike 35 = .ok (.ireturn, 1) := by decide +kernel
theorem dX1_keepsLike_36 : decode cX1_keepsLike 36 = .ok (.iinc 4 1, 3) := by decide +kernel
theorem dX1_keepsLike_39 : decode cX1_keepsLike 39 = .ok (.goto (-31), 3) := by decide +kernel
theorem dX1_keepsLike_42 : decode cX1_keepsLike 42 = .ok (.iconst 1, 1) := by decide +kernel
theorem dX1_keepsLike_43 : decode cX1_keepsLike 43 = .ok (.ireturn, 1) := by decide +kernel
set_option maxRecDepth 20000 in
theorem ggX1_isLeafTrue_X1_hashLeaf : GoodIn wsX1_isLeafTrue wsX1_hashLeaf := goodIn_r _ [5, 6, 7, 8, 9, 10, 11, 12, 13, 14, 15, 16, 17, 18, 19, 20, 21, 22, 23, 24, 25, 26, 27, 28, 29, 30, 31, 32, 33, 34, 35, 36, 37, 38, 39, 40, 41, 42, 43, 44, 45, 46, 47, 48, 49, 50, 51, 52, 53, 54, 55, 56, 57, 58, 59, 60, 70, 71, 72, 73, 74, 75, 76, 77, 78, 79] (by decide +kernel) (by decide +kernel)
set_option maxRecDepth 20000 in
theorem gX1_isLeafTrue_X1_hashLeaf : GoodIn wsX1_isLeafTrue (wsV RX1 40 RX1 yX1_hashLeaf wsX1_hashLeaf) := goodIn_app (goodIn_of _ (by decide +kernel)) ggX1_isLeafTrue_X1_hashLeaf
set_option maxRecDepth 20000 in
theorem ggX1_isLeafTrue_X1_isKept : GoodIn wsX1_isLeafTrue wsX1_isKept := goodIn_r _ [64, 65, 66, 67, 68, 12, 69, 14, 70, 71, 72, 73, 74, 75, 76, 77, 78, 79] (by decide +kernel) (by decide +kernel)
set_option maxRecDepth 20000 in
theorem gX1_isLeafTrue_X1_isKept : GoodIn wsX1_isLeafTrue (wsV RX1 44 RX1 yX1_isKept wsX1_isKept) := goodIn_app (goodIn_of _ (by decide +kernel)) ggX1_isLeafTrue_X1_isKept
theorem dX1_isLeafTrue_0 : decode cX1_isLeafTrue 0 = .ok (.aload_n 0, 1) := by decide +kernel
theorem dX1_isLeafTrue_1 : decode cX1_isLeafTrue 1 = .ok (.iload_n 1, 1) := by decide +kernel
theorem dX1_isLeafTrue_2 : decode cX1_isLeafTrue 2 = .ok (.aload_n 2, 1) := by decide +kernel
theorem dX1_isLeafTrue_3 : decode cX1_isLeafTrue 3 = .ok (.invokevirtual 40, 3) := by decide +kernel
theorem dX1_isLeafTrue_6 : decode cX1_isLeafTrue 6 = .ok (.aload_n 0, 1) := by decide +kernel
theorem dX1_isLeafTrue_7 : decode cX1_isLeafTrue 7 = .ok (.iload_n 1, 1) := by decide +kernel
theorem dX1_isLeafTrue_8 : decode cX1_isLeafTrue 8 = .ok (.aload_n 2, 1) := by decide +kernel
theorem dX1_isLeafTrue_9 : decode cX1_isLeafTrue 9 = .ok (.invokevirtual 44, 3) := by decide +kernel
theorem dX1_isLeafTrue_12 : decode cX1_isLeafTrue 12 = .ok (.ireturn, 1) := by decide +kernel
set_option maxRecDepth 20000 in
theorem ggX1_remake_X1_countLeaf : GoodIn wsX1_remake wsX1_countLeaf := goodIn_r _ [7, 2, 8, 9, 10, 11, 12, 13, 6, 14, 15, 16, 17, 18, 107, 108, 109, 110, 111, 112, 113] (by decide +kernel) (by decide +kernel)
set_option maxRecDepth 20000 in
theorem gX1_remake_X1_countLeaf : GoodIn wsX1_remake (wsV RX1 48 RX1 yX1_countLeaf wsX1_countLeaf) := goodIn_app (goodIn_of _ (by decide +kernel)) ggX1_remake_X1_countLeaf
set_option maxRecDepth 20000 in
theorem ggX1_remake_X1_leafSum : GoodIn wsX1_remake wsX1_leafSum := goodIn_r _ [22, 2, 15, 23, 8, 9, 10, 24, 25, 26, 17, 18, 27, 28, 29, 30, 31, 32, 33, 34, 35, 36, 37, 107, 108, 109, 110, 111, 112, 113] (by decide +kernel) (by decide +kernel)
set_option maxRecDepth 20000 in
theorem gX1_remake_X1_leafSum : GoodIn wsX1_remake (wsV RX1 52 RX1 yX1_leafSum wsX1_leafSum) := goodIn_app (goodIn_of _ (by decide +kernel)) ggX1_remake_X1_leafSum
set_option maxRecDepth 20000 in
theorem ggX1_remake_X1_hashLeaf : GoodIn wsX1_remake wsX1_hashLeaf := goodIn_r _ [41, 2, 15, 23, 42, 43, 44, 45, 46, 47, 48, 49, 50, 51, 8, 9, 10, 52, 53, 54, 55, 56, 57, 58, 59, 60, 61, 17, 18, 62, 63, 64, 65, 66, 67, 68, 69, 70, 71, 72, 33, 73, 74, 75, 76, 77, 78, 36, 37, 79, 80, 81, 82, 83, 84, 85, 107, 108, 109, 110, 111, 112, 113, 114, 115, 116] (by decide +kernel) (by decide +kernel)
set_option maxRecDepth 20000 in
theorem gX1_remake_X1_hashLeaf : GoodIn wsX1_remake (wsV RX1 40 RX1 yX1_hashLeaf wsX1_hashLeaf) := goodIn_app (goodIn_of _ (by decide +kernel)) ggX1_remake_X1_hashLeaf
set_option maxRecDepth 20000 in
theorem ggX1_remake_X1_keep : GoodIn wsX1_remake wsX1_keep := goodIn_r _ [89, 90, 91, 92, 93, 6, 94, 95, 96, 97, 45, 98, 47, 107, 108, 109, 110, 111, 112, 113, 114, 115, 116] (by decide +kernel) (by decide +kernel)
set_option maxRecDepth 20000 in
theorem gX1_remake_X1_keep : GoodIn wsX1_remake (wsV RX1 55 RX1 yX1_keep wsX1_keep) := goodIn_app (goodIn_of _ (by decide +kernel)) ggX1_remake_X1_keep
set_option maxRecDepth 20000 in
theorem ggX1_remake_X1_innerSum : GoodIn wsX1_remake wsX1_innerSum := goodIn_r _ [102, 2, 1, 28, 9, 29, 30, 31, 32, 33, 34, 107, 108, 109, 110, 111, 112, 113] (by decide +kernel) (by decide +kernel)
set_option maxRecDepth 20000 in
theorem gX1_remake_X1_innerSum : GoodIn wsX1_remake (wsV RX1 59 RX1 yX1_innerSum wsX1_innerSum) := goodIn_app (goodIn_of _ (by decide +kernel)) ggX1_remake_X1_innerSum
set_option maxRecDepth 20000 in
theorem ggX1_remake_X1_hashInner : GoodIn wsX1_remake wsX1_hashInner := goodIn_r _ [106, 2, 90, 42, 43, 44, 45, 46, 47, 48, 49, 50, 51, 52, 53, 54, 55, 56, 57, 58, 59, 60, 61, 62, 63, 64, 65, 66, 67, 68, 69, 70, 71, 72, 33, 73, 74, 75, 76, 77, 78, 79, 80, 81, 82, 83, 84, 85, 107, 108, 109, 110, 111, 112, 113, 114, 115, 116] (by decide +kernel) (by decide +kernel)
set_option maxRecDepth 20000 in
theorem gX1_remake_X1_hashInner : GoodIn wsX1_remake (wsV RX1 62 RX1 yX1_hashInner wsX1_hashInner) := goodIn_app (goodIn_of _ (by decide +kernel)) ggX1_remake_X1_hashInner
theorem dX1_remake_0 : decode cX1_remake 0 = .ok (.iconst 0, 1) := by decide +kernel
theorem dX1_remake_1 : decode cX1_remake 1 = .ok (.istore 5, 2) := by decide +kernel
theorem dX1_remake_3 : decode cX1_remake 3 = .ok (.iload_n 1, 1) := by decide +kernel
theorem dX1_remake_4 : decode cX1_remake 4 = .ok (.istore 6, 2) := by decide +kernel
theorem dX1_remake_6 : decode cX1_remake 6 = .ok (.iload 6, 2) := by decide +kernel
theorem dX1_remake_8 : decode cX1_remake 8 = .ok (.iload_n 2, 1) := by decide +kernel
theorem dX1_remake_9 : decode cX1_remake 9 = .ok (.if_icmp .gt 50, 3) := by decide +kernel
theorem dX1_remake_12 : decode cX1_remake 12 = .ok (.aload_n 0, 1) := by decide +kernel
theorem dX1_remake_13 : decode cX1_remake 13 = .ok (.iload 6, 2) := by decide +kernel
theorem dX1_remake_15 : decode cX1_remake 15 = .ok (.aload_n 3, 1) := by decide +kernel
theorem dX1_remake_16 : decode cX1_remake 16 = .ok (.invokevirtual 48, 3) := by decide +kernel
theorem dX1_remake_19 : decode cX1_remake 19 = .ok (.aload_n 0, 1) := by decide +kernel
theorem dX1_remake_20 : decode cX1_remake 20 = .ok (.getfield 26, 3) := by decide +kernel
theorem dX1_remake_23 : decode cX1_remake 23 = .ok (.iload 6, 2) := by decide +kernel
theorem dX1_remake_25 : decode cX1_remake 25 = .ok (.aload_n 0, 1) := by decide +kernel
theorem dX1_remake_26 : decode cX1_remake 26 = .ok (.iload 6, 2) := by decide +kernel
theorem dX1_remake_28 : decode cX1_remake 28 = .ok (.invokevirtual 52, 3) := by decide +kernel
theorem dX1_remake_31 : decode cX1_remake 31 = .ok (.iastore, 1) := by decide +kernel
theorem dX1_remake_32 : decode cX1_remake 32 = .ok (.aload_n 0, 1) := by decide +kernel
theorem dX1_remake_33 : decode cX1_remake 33 = .ok (.iload 6, 2) := by decide +kernel
theorem dX1_remake_35 : decode cX1_remake 35 = .ok (.aload 4, 2) := by decide +kernel
theorem dX1_remake_37 : decode cX1_remake 37 = .ok (.invokevirtual 40, 3) := by decide +kernel
theorem dX1_remake_40 : decode cX1_remake 40 = .ok (.iload 5, 2) := by decide +kernel
theorem dX1_remake_42 : decode cX1_remake 42 = .ok (.aload_n 0, 1) := by decide +kernel
theorem dX1_remake_43 : decode cX1_remake 43 = .ok (.iload 6, 2) := by decide +kernel
theorem dX1_remake_45 : decode cX1_remake 45 = .ok (.aload 4, 2) := by decide +kernel
theorem dX1_remake_47 : decode cX1_remake 47 = .ok (.invokevirtual 55, 3) := by decide +kernel
theorem dX1_remake_50 : decode cX1_remake 50 = .ok (.iadd, 1) := by decide +kernel
theorem dX1_remake_51 : decode cX1_remake 51 = .ok (.istore 5, 2) := by decide +kernel
theorem dX1_remake_53 : decode cX1_remake 53 = .ok (.iinc 6 1, 3) := by decide +kernel
theorem dX1_remake_56 : decode cX1_remake 56 = .ok (.goto (-50), 3) := by decide +kernel
theorem dX1_remake_59 : decode cX1_remake 59 = .ok (.iload_n 1, 1) := by decide +kernel
theorem dX1_remake_60 : decode cX1_remake 60 = .ok (.iconst 2, 1) := by decide +kernel
theorem dX1_remake_61 : decode cX1_remake 61 = .ok (.idiv, 1) := by decide +kernel
theorem dX1_remake_62 : decode cX1_remake 62 = .ok (.istore 6, 2) := by decide +kernel
theorem dX1_remake_64 : decode cX1_remake 64 = .ok (.iload_n 2, 1) := by decide +kernel
theorem dX1_remake_65 : decode cX1_remake 65 = .ok (.iconst 2, 1) := by decide +kernel
theorem dX1_remake_66 : decode cX1_remake 66 = .ok (.idiv, 1) := by decide +kernel
theorem dX1_remake_67 : decode cX1_remake 67 = .ok (.istore 7, 2) := by decide +kernel
theorem dX1_remake_69 : decode cX1_remake 69 = .ok (.iload 6, 2) := by decide +kernel
theorem dX1_remake_71 : decode cX1_remake 71 = .ok (.iconst 1, 1) := by decide +kernel
theorem dX1_remake_72 : decode cX1_remake 72 = .ok (.if_icmp .lt 97, 3) := by decide +kernel
theorem dX1_remake_75 : decode cX1_remake 75 = .ok (.iload 6, 2) := by decide +kernel
theorem dX1_remake_77 : decode cX1_remake 77 = .ok (.istore 8, 2) := by decide +kernel
theorem dX1_remake_79 : decode cX1_remake 79 = .ok (.iload 8, 2) := by decide +kernel
theorem dX1_remake_81 : decode cX1_remake 81 = .ok (.iload 7, 2) := by decide +kernel
theorem dX1_remake_83 : decode cX1_remake 83 = .ok (.if_icmp .gt 71, 3) := by decide +kernel
theorem dX1_remake_86 : decode cX1_remake 86 = .ok (.aload_n 0, 1) := by decide +kernel
theorem dX1_remake_87 : decode cX1_remake 87 = .ok (.getfield 29, 3) := by decide +kernel
theorem dX1_remake_90 : decode cX1_remake 90 = .ok (.iload 8, 2) := by decide +kernel
theorem dX1_remake_92 : decode cX1_remake 92 = .ok (.aload_n 0, 1) := by decide +kernel
theorem dX1_remake_93 : decode cX1_remake 93 = .ok (.getfield 29, 3) := by decide +kernel
theorem dX1_remake_96 : decode cX1_remake 96 = .ok (.iconst 2, 1) := by decide +kernel
theorem dX1_remake_97 : decode cX1_remake 97 = .ok (.iload 8, 2) := by decide +kernel
theorem dX1_remake_99 : decode cX1_remake 99 = .ok (.imul, 1) := by decide +kernel
theorem dX1_remake_100 : decode cX1_remake 100 = .ok (.iaload, 1) := by decide +kernel
theorem dX1_remake_101 : decode cX1_remake 101 = .ok (.aload_n 0, 1) := by decide +kernel
theorem dX1_remake_102 : decode cX1_remake 102 = .ok (.getfield 29, 3) := by decide +kernel
theorem dX1_remake_105 : decode cX1_remake 105 = .ok (.iconst 2, 1) := by decide +kernel
theorem dX1_remake_106 : decode cX1_remake 106 = .ok (.iload 8, 2) := by decide +kernel
theorem dX1_remake_108 : decode cX1_remake 108 = .ok (.imul, 1) := by decide +kernel
theorem dX1_remake_109 : decode cX1_remake 109 = .ok (.iconst 1, 1) := by decide +kernel
theorem dX1_remake_110 : decode cX1_remake 110 = .ok (.iadd, 1) := by decide +kernel
theorem dX1_remake_111 : decode cX1_remake 111 = .ok (.iaload, 1) := by decide +kernel
theorem dX1_remake_112 : decode cX1_remake 112 = .ok (.iadd, 1) := by decide +kernel
theorem dX1_remake_113 : decode cX1_remake 113 = .ok (.iastore, 1) := by decide +kernel
theorem dX1_remake_114 : decode cX1_remake 114 = .ok (.aload_n 0, 1) := by decide +kernel
theorem dX1_remake_115 : decode cX1_remake 115 = .ok (.getfield 26, 3) := by decide +kernel
theorem dX1_remake_118 : decode cX1_remake 118 = .ok (.iload 8, 2) := by decide +kernel
theorem dX1_remake_120 : decode cX1_remake 120 = .ok (.aload_n 0, 1) := by decide +kernel
theorem dX1_remake_121 : decode cX1_remake 121 = .ok (.iload 8, 2) := by decide +kernel
theorem dX1_remake_123 : decode cX1_remake 123 = .ok (.invokevirtual 59, 3) := by decide +kernel
theorem dX1_remake_126 : decode cX1_remake 126 = .ok (.iastore, 1) := by decide +kernel
theorem dX1_remake_127 : decode cX1_remake 127 = .ok (.aload_n 0, 1) := by decide +kernel
theorem dX1_remake_128 : decode cX1_remake 128 = .ok (.iload 8, 2) := by decide +kernel
theorem dX1_remake_130 : decode cX1_remake 130 = .ok (.aload 4, 2) := by decide +kernel
theorem dX1_remake_132 : decode cX1_remake 132 = .ok (.invokevirtual 62, 3) := by decide +kernel
theorem dX1_remake_135 : decode cX1_remake 135 = .ok (.iload 5, 2) := by decide +kernel
theorem dX1_remake_137 : decode cX1_remake 137 = .ok (.aload_n 0, 1) := by decide +kernel
theorem dX1_remake_138 : decode cX1_remake 138 = .ok (.iload 8, 2) := by decide +kernel
theorem dX1_remake_140 : decode cX1_remake 140 = .ok (.aload 4, 2) := by decide +kernel
theorem dX1_remake_142 : decode cX1_remake 142 = .ok (.invokevirtual 55, 3) := by decide +kernel
theorem dX1_remake_145 : decode cX1_remake 145 = .ok (.iadd, 1) := by decide +kernel
theorem dX1_remake_146 : decode cX1_remake 146 = .ok (.istore 5, 2) := by decide +kernel
theorem dX1_remake_148 : decode cX1_remake 148 = .ok (.iinc 8 1, 3) := by decide +kernel
theorem dX1_remake_151 : decode cX1_remake 151 = .ok (.goto (-72), 3) := by decide +kernel
theorem dX1_remake_154 : decode cX1_remake 154 = .ok (.iload 6, 2) := by decide +kernel
theorem dX1_remake_156 : decode cX1_remake 156 = .ok (.iconst 2, 1) := by decide +kernel
theorem dX1_remake_157 : decode cX1_remake 157 = .ok (.idiv, 1) := by decide +kernel
theorem dX1_remake_158 : decode cX1_remake 158 = .ok (.istore 6, 2) := by decide +kernel
theorem dX1_remake_160 : decode cX1_remake 160 = .ok (.iload 7, 2) := by decide +kernel
theorem dX1_remake_162 : decode cX1_remake 162 = .ok (.iconst 2, 1) := by decide +kernel
theorem dX1_remake_163 : decode cX1_remake 163 = .ok (.idiv, 1) := by decide +kernel
theorem dX1_remake_164 : decode cX1_remake 164 = .ok (.istore 7, 2) := by decide +kernel
theorem dX1_remake_166 : decode cX1_remake 166 = .ok (.goto (-97), 3) := by decide +kernel
theorem dX1_remake_169 : decode cX1_remake 169 = .ok (.iload 5, 2) := by decide +kernel
theorem dX1_remake_171 : decode cX1_remake 171 = .ok (.ireturn, 1) := by decide +kernel
set_option maxRecDepth 20000 in
theorem ggX1_countLeaf_X4_firstSlotOf : GoodIn wsX1_countLeaf wsX4_firstSlotOf := goodIn_r _ [4] (by decide +kernel) (by decide +kernel)
set_option maxRecDepth 20000 in
theorem gX1_countLeaf_X4_firstSlotOf_n65 : GoodIn wsX1_countLeaf (wsX4_firstSlotOf) := ggX1_countLeaf_X4_firstSlotOf
set_option maxRecDepth 20000 in
theorem ggX1_countLeaf_X1_hasCounting : GoodIn wsX1_countLeaf wsX1_hasCounting := goodIn_r _ [9, 10, 11, 12, 3, 13, 14, 15, 16, 17, 18, 19, 20] (by decide +kernel) (by decide +kernel)
set_option maxRecDepth 20000 in
theorem gX1_countLeaf_X1_hasCounting : GoodIn wsX1_countLeaf (wsV RX1 68 RX1 yX1_hasCounting wsX1_hasCounting) := goodIn_app (goodIn_of _ (by decide +kernel)) ggX1_countLeaf_X1_hasCounting
theorem dX1_countLeaf_0 : decode cX1_countLeaf 0 = .ok (.iload_n 1, 1) := by decide +kernel
theorem dX1_countLeaf_1 : decode cX1_countLeaf 1 = .ok (.invokestatic 65, 3) := by decide +kernel
theorem dX1_countLeaf_4 : decode cX1_countLeaf 4 = .ok (.istore_n 3, 1) := by decide +kernel
theorem dX1_countLeaf_5 : decode cX1_countLeaf 5 = .ok (.iconst 0, 1) := by decide +kernel
theorem dX1_countLeaf_6 : decode cX1_countLeaf 6 = .ok (.istore 4, 2) := by decide +kernel
theorem dX1_countLeaf_8 : decode cX1_countLeaf 8 = .ok (.iload_n 3, 1) := by decide +kernel
theorem dX1_countLeaf_9 : decode cX1_countLeaf 9 = .ok (.istore 5, 2) := by decide +kernel
theorem dX1_countLeaf_11 : decode cX1_countLeaf 11 = .ok (.iload 5, 2) := by decide +kernel
theorem dX1_countLeaf_13 : decode cX1_countLeaf 13 = .ok (.iload_n 3, 1) := by decide +kernel
theorem dX1_countLeaf_14 : decode cX1_countLeaf 14 = .ok (.bipush 8, 2) := by decide +kernel
theorem dX1_countLeaf_16 : decode cX1_countLeaf 16 = .ok (.iadd, 1) := by decide +kernel
theorem dX1_countLeaf_17 : decode cX1_countLeaf 17 = .ok (.if_icmp .ge 22, 3) := by decide +kernel
theorem dX1_countLeaf_20 : decode cX1_countLeaf 20 = .ok (.aload_n 0, 1) := by decide +kernel
theorem dX1_countLeaf_21 : decode cX1_countLeaf 21 = .ok (.iload 5, 2) := by decide +kernel
theorem dX1_countLeaf_23 : decode cX1_countLeaf 23 = .ok (.aload_n 2, 1) := by decide +kernel
theorem dX1_countLeaf_24 : decode cX1_countLeaf 24 = .ok (.invokevirtual 68, 3) := by decide +kernel
theorem dX1_countLeaf_27 : decode cX1_countLeaf 27 = .ok (.ifCond .eq 6, 3) := by decide +kernel
theorem dX1_countLeaf_30 : decode cX1_countLeaf 30 = .ok (.iinc 4 1, 3) := by decide +kernel
theorem dX1_countLeaf_33 : decode cX1_countLeaf 33 = .ok (.iinc 5 1, 3) := by decide +kernel
theorem dX1_countLeaf_36 : decode cX1_countLeaf 36 = .ok (.goto (-25), 3) := by decide +kernel
theorem dX1_countLeaf_39 : decode cX1_countLeaf 39 = .ok (.aload_n 0, 1) := by decide +kernel
theorem dX1_countLeaf_40 : decode cX1_countLeaf 40 = .ok (.getfield 29, 3) := by decide +kernel
theorem dX1_countLeaf_43 : decode cX1_countLeaf 43 = .ok (.iload_n 1, 1) := by decide +kernel
theorem dX1_countLeaf_44 : decode cX1_countLeaf 44 = .ok (.iload 4, 2) := by decide +kernel
theorem dX1_countLeaf_46 : decode cX1_countLeaf 46 = .ok (.iastore, 1) := by decide +kernel
theorem dX1_countLeaf_47 : decode cX1_countLeaf 47 = .ok (.return_, 1) := by decide +kernel
set_option maxRecDepth 20000 in
theorem ggX1_leafSum_X4_firstSlotOf : GoodIn wsX1_leafSum wsX4_firstSlotOf := goodIn_r _ [6] (by decide +kernel) (by decide +kernel)
set_option maxRecDepth 20000 in
theorem gX1_leafSum_X4_firstSlotOf_n65 : GoodIn wsX1_leafSum (wsX4_firstSlotOf) := ggX1_leafSum_X4_firstSlotOf
set_option maxRecDepth 20000 in
theorem ggX1_leafSum_X4_mixRow : GoodIn wsX1_leafSum wsX4_mixRow := goodIn_r _ [8, 9, 10, 5, 11, 12, 13, 14, 15, 16, 17, 18, 19, 20, 21, 22] (by decide +kernel) (by decide +kernel)
set_option maxRecDepth 20000 in
theorem gX1_leafSum_X4_mixRow_n72 : GoodIn wsX1_leafSum (wsX4_mixRow) := ggX1_leafSum_X4_mixRow
theorem dX1_leafSum_0 : decode cX1_leafSum 0 = .ok (.aload_n 0, 1) := by decide +kernel
theorem dX1_leafSum_1 : decode cX1_leafSum 1 = .ok (.getfield 29, 3) := by decide +kernel
theorem dX1_leafSum_4 : decode cX1_leafSum 4 = .ok (.iload_n 1, 1) := by decide +kernel
theorem dX1_leafSum_5 : decode cX1_leafSum 5 = .ok (.iaload, 1) := by decide +kernel
theorem dX1_leafSum_6 : decode cX1_leafSum 6 = .ok (.ifCond .ne 5, 3) := by decide +kernel
theorem dX1_leafSum_9 : decode cX1_leafSum 9 = .ok (.iconst 0, 1) := by decide +kernel
theorem dX1_leafSum_10 : decode cX1_leafSum 10 = .ok (.ireturn, 1) := by decide +kernel
theorem dX1_leafSum_11 : decode cX1_leafSum 11 = .ok (.iload_n 1, 1) := by decide +kernel
theorem dX1_leafSum_12 : decode cX1_leafSum 12 = .ok (.invokestatic 65, 3) := by decide +kernel
theorem dX1_leafSum_15 : decode cX1_leafSum 15 = .ok (.istore_n 2, 1) := by decide +kernel
theorem dX1_leafSum_16 : decode cX1_leafSum 16 = .ok (.iconst 0, 1) := by decide +kernel
theorem dX1_leafSum_17 : decode cX1_leafSum 17 = .ok (.istore_n 3, 1) := by decide +kernel
theorem dX1_leafSum_18 : decode cX1_leafSum 18 = .ok (.iload_n 2, 1) := by decide +kernel
theorem dX1_leafSum_19 : decode cX1_leafSum 19 = .ok (.istore 4, 2) := by decide +kernel
theorem dX1_leafSum_21 : decode cX1_leafSum 21 = .ok (.iload 4, 2) := by decide +kernel
theorem dX1_leafSum_23 : decode cX1_leafSum 23 = .ok (.iload_n 2, 1) := by decide +kernel
theorem dX1_leafSum_24 : decode cX1_leafSum 24 = .ok (.bipush 8, 2) := by decide +kernel
theorem dX1_leafSum_26 : decode cX1_leafSum 26 = .ok (.iadd, 1) := by decide +kernel
theorem dX1_leafSum_27 : decode cX1_leafSum 27 = .ok (.if_icmp .ge 33, 3) := by decide +kernel
theorem dX1_leafSum_30 : decode cX1_leafSum 30 = .ok (.aload_n 0, 1) := by decide +kernel
theorem dX1_leafSum_31 : decode cX1_leafSum 31 = .ok (.getfield 9, 3) := by decide +kernel
theorem dX1_leafSum_34 : decode cX1_leafSum 34 = .ok (.iload 4, 2) := by decide +kernel
theorem dX1_leafSum_36 : decode cX1_leafSum 36 = .ok (.baload, 1) := by decide +kernel
theorem dX1_leafSum_37 : decode cX1_leafSum 37 = .ok (.ifCond .eq 17, 3) := by decide +kernel
theorem dX1_leafSum_40 : decode cX1_leafSum 40 = .ok (.iload_n 3, 1) := by decide +kernel
theorem dX1_leafSum_41 : decode cX1_leafSum 41 = .ok (.iload 4, 2) := by decide +kernel
theorem dX1_leafSum_43 : decode cX1_leafSum 43 = .ok (.aload_n 0, 1) := by decide +kernel
theorem dX1_leafSum_44 : decode cX1_leafSum 44 = .ok (.getfield 15, 3) := by decide +kernel
theorem dX1_leafSum_47 : decode cX1_leafSum 47 = .ok (.iload 4, 2) := by decide +kernel
theorem dX1_leafSum_49 : decode cX1_leafSum 49 = .ok (.laload, 1) := by decide +kernel
theorem dX1_leafSum_50 : decode cX1_leafSum 50 = .ok (.invokestatic 72, 3) := by decide +kernel
theorem dX1_leafSum_53 : decode cX1_leafSum 53 = .ok (.istore_n 3, 1) := by decide +kernel
theorem dX1_leafSum_54 : decode cX1_leafSum 54 = .ok (.iinc 4 1, 3) := by decide +kernel
theorem dX1_leafSum_57 : decode cX1_leafSum 57 = .ok (.goto (-36), 3) := by decide +kernel
theorem dX1_leafSum_60 : decode cX1_leafSum 60 = .ok (.iload_n 3, 1) := by decide +kernel
theorem dX1_leafSum_61 : decode cX1_leafSum 61 = .ok (.ireturn, 1) := by decide +kernel
set_option maxRecDepth 20000 in
theorem ggX1_innerSum_X4_mix : GoodIn wsX1_innerSum wsX4_mix := goodIn_r _ [5, 6, 7, 8, 9, 10] (by decide +kernel) (by decide +kernel)
set_option maxRecDepth 20000 in
theorem gX1_innerSum_X4_mix_n76 : GoodIn wsX1_innerSum (wsX4_mix) := ggX1_innerSum_X4_mix
theorem dX1_innerSum_0 : decode cX1_innerSum 0 = .ok (.aload_n 0, 1) := by decide +kernel
theorem dX1_innerSum_1 : decode cX1_innerSum 1 = .ok (.getfield 29, 3) := by decide +kernel
theorem dX1_innerSum_4 : decode cX1_innerSum 4 = .ok (.iload_n 1, 1) := by decide +kernel
theorem dX1_innerSum_5 : decode cX1_innerSum 5 = .ok (.iaload, 1) := by decide +kernel
theorem dX1_innerSum_6 : decode cX1_innerSum 6 = .ok (.ifCond .ne 5, 3) := by decide +kernel
theorem dX1_innerSum_9 : decode cX1_innerSum 9 = .ok (.iconst 0, 1) := by decide +kernel
theorem dX1_innerSum_10 : decode cX1_innerSum 10 = .ok (.ireturn, 1) := by decide +kernel
theorem dX1_innerSum_11 : decode cX1_innerSum 11 = .ok (.iconst 0, 1) := by decide +kernel
theorem dX1_innerSum_12 : decode cX1_innerSum 12 = .ok (.aload_n 0, 1) := by decide +kernel
theorem dX1_innerSum_13 : decode cX1_innerSum 13 = .ok (.getfield 26, 3) := by decide +kernel
theorem dX1_innerSum_16 : decode cX1_innerSum 16 = .ok (.iconst 2, 1) := by decide +kernel
theorem dX1_innerSum_17 : decode cX1_innerSum 17 = .ok (.iload_n 1, 1) := by decide +kernel
theorem dX1_innerSum_18 : decode cX1_innerSum 18 = .ok (.imul, 1) := by decide +kernel
theorem dX1_innerSum_19 : decode cX1_innerSum 19 = .ok (.iaload, 1) := by decide +kernel
theorem dX1_innerSum_20 : decode cX1_innerSum 20 = .ok (.i2l, 1) := by decide +kernel
theorem dX1_innerSum_21 : decode cX1_innerSum 21 = .ok (.iconst 4, 1) := by decide +kernel
theorem dX1_innerSum_22 : decode cX1_innerSum 22 = .ok (.invokestatic 76, 3) := by decide +kernel
theorem dX1_innerSum_25 : decode cX1_innerSum 25 = .ok (.aload_n 0, 1) := by decide +kernel
theorem dX1_innerSum_26 : decode cX1_innerSum 26 = .ok (.getfield 26, 3) := by decide +kernel
theorem dX1_innerSum_29 : decode cX1_innerSum 29 = .ok (.iconst 2, 1) := by decide +kernel
theorem dX1_innerSum_30 : decode cX1_innerSum 30 = .ok (.iload_n 1, 1) := by decide +kernel
theorem dX1_innerSum_31 : decode cX1_innerSum 31 = .ok (.imul, 1) := by decide +kernel
theorem dX1_innerSum_32 : decode cX1_innerSum 32 = .ok (.iconst 1, 1) := by decide +kernel
theorem dX1_innerSum_33 : decode cX1_innerSum 33 = .ok (.iadd, 1) := by decide +kernel
theorem dX1_innerSum_34 : decode cX1_innerSum 34 = .ok (.iaload, 1) := by decide +kernel
theorem dX1_innerSum_35 : decode cX1_innerSum 35 = .ok (.i2l, 1) := by decide +kernel
theorem dX1_innerSum_36 : decode cX1_innerSum 36 = .ok (.iconst 4, 1) := by decide +kernel
theorem dX1_innerSum_37 : decode cX1_innerSum 37 = .ok (.invokestatic 76, 3) := by decide +kernel
theorem dX1_innerSum_40 : decode cX1_innerSum 40 = .ok (.ireturn, 1) := by decide +kernel
set_option maxRecDepth 20000 in
theorem ggX1_hashLeaf_X0_setZero : GoodIn wsX1_hashLeaf wsX0_setZero := goodIn_r _ [8, 9, 10, 11, 12, 13, 63, 64, 65] (by decide +kernel) (by decide +kernel)
set_option maxRecDepth 20000 in
theorem gX1_hashLeaf_X0_setZero : GoodIn wsX1_hashLeaf (wsV RX1 80 RX0 yX0_setZero wsX0_setZero) := goodIn_app (goodIn_of _ (by decide +kernel)) ggX1_hashLeaf_X0_setZero
set_option maxRecDepth 20000 in
theorem ggX1_hashLeaf_X4_firstSlotOf : GoodIn wsX1_hashLeaf wsX4_firstSlotOf := goodIn_r _ [16] (by decide +kernel) (by decide +kernel)
set_option maxRecDepth 20000 in
theorem gX1_hashLeaf_X4_firstSlotOf_n65 : GoodIn wsX1_hashLeaf (wsX4_firstSlotOf) := ggX1_hashLeaf_X4_firstSlotOf
set_option maxRecDepth 20000 in
theorem ggX1_hashLeaf_X0_start : GoodIn wsX1_hashLeaf wsX0_start := goodIn_r _ [20, 21, 9, 22, 23, 24, 25, 26, 63, 64, 65] (by decide +kernel) (by decide +kernel)
set_option maxRecDepth 20000 in
theorem gX1_hashLeaf_X0_start : GoodIn wsX1_hashLeaf (wsV RX1 85 RX0 yX0_start wsX0_start) := goodIn_app (goodIn_of _ (by decide +kernel)) ggX1_hashLeaf_X0_start
set_option maxRecDepth 20000 in
theorem ggX1_hashLeaf_X4_nodeOf : GoodIn wsX1_hashLeaf wsX4_nodeOf := goodIn_r _ [28] (by decide +kernel) (by decide +kernel)
set_option maxRecDepth 20000 in
theorem gX1_hashLeaf_X4_nodeOf_n36 : GoodIn wsX1_hashLeaf (wsX4_nodeOf) := ggX1_hashLeaf_X4_nodeOf
set_option maxRecDepth 20000 in
theorem ggX1_hashLeaf_X0_take : GoodIn wsX1_hashLeaf wsX0_take := goodIn_r _ [32, 26, 33, 34, 35, 36, 7, 37, 38, 39, 40, 41, 42, 43, 44, 45, 9, 46, 63, 64, 65] (by decide +kernel) (by decide +kernel)
set_option maxRecDepth 20000 in
theorem gX1_hashLeaf_X0_take : GoodIn wsX1_hashLeaf (wsV RX1 88 RX0 yX0_take wsX0_take) := goodIn_app (goodIn_of _ (by decide +kernel)) ggX1_hashLeaf_X0_take
set_option maxRecDepth 20000 in
theorem ggX1_hashLeaf_X4_numberOf : GoodIn wsX1_hashLeaf wsX4_numberOf := goodIn_r _ [48] (by decide +kernel) (by decide +kernel)
set_option maxRecDepth 20000 in
theorem gX1_hashLeaf_X4_numberOf_n92 : GoodIn wsX1_hashLeaf (wsX4_numberOf) := ggX1_hashLeaf_X4_numberOf
set_option maxRecDepth 20000 in
theorem ggX1_hashLeaf_X0_finish : GoodIn wsX1_hashLeaf wsX0_finish := goodIn_r _ [52, 53, 26, 54, 55, 30, 31, 7, 32, 33, 34, 35, 36, 37, 38, 39, 40, 41, 42, 43, 44, 45, 9, 46, 63, 64, 65] (by decide +kernel) (by decide +kernel)
set_option maxRecDepth 20000 in
theorem gX1_hashLeaf_X0_finish : GoodIn wsX1_hashLeaf (wsV RX1 95 RX0 yX0_finish wsX0_finish) := goodIn_app (goodIn_of _ (by decide +kernel)) ggX1_hashLeaf_X0_finish
theorem dX1_hashLeaf_0 : decode cX1_hashLeaf 0 = .ok (.aload_n 0, 1) := by decide +kernel
theorem dX1_hashLeaf_1 : decode cX1_hashLeaf 1 = .ok (.getfield 29, 3) := by decide +kernel
theorem dX1_hashLeaf_4 : decode cX1_hashLeaf 4 = .ok (.iload_n 1, 1) := by decide +kernel
theorem dX1_hashLeaf_5 : decode cX1_hashLeaf 5 = .ok (.iaload, 1) := by decide +kernel
theorem dX1_hashLeaf_6 : decode cX1_hashLeaf 6 = .ok (.ifCond .ne 8, 3) := by decide +kernel
theorem dX1_hashLeaf_9 : decode cX1_hashLeaf 9 = .ok (.aload_n 2, 1) := by decide +kernel
theorem dX1_hashLeaf_10 : decode cX1_hashLeaf 10 = .ok (.invokevirtual 80, 3) := by decide +kernel
theorem dX1_hashLeaf_13 : decode cX1_hashLeaf 13 = .ok (.return_, 1) := by decide +kernel
theorem dX1_hashLeaf_14 : decode cX1_hashLeaf 14 = .ok (.iload_n 1, 1) := by decide +kernel
theorem dX1_hashLeaf_15 : decode cX1_hashLeaf 15 = .ok (.invokestatic 65, 3) := by decide +kernel
theorem dX1_hashLeaf_18 : decode cX1_hashLeaf 18 = .ok (.istore_n 3, 1) := by decide +kernel
theorem dX1_hashLeaf_19 : decode cX1_hashLeaf 19 = .ok (.aload_n 2, 1) := by decide +kernel
theorem dX1_hashLeaf_20 : decode cX1_hashLeaf 20 = .ok (.invokevirtual 85, 3) := by decide +kernel
theorem dX1_hashLeaf_23 : decode cX1_hashLeaf 23 = .ok (.iload_n 3, 1) := by decide +kernel
theorem dX1_hashLeaf_24 : decode cX1_hashLeaf 24 = .ok (.istore 4, 2) := by decide +kernel
theorem dX1_hashLeaf_26 : decode cX1_hashLeaf 26 = .ok (.iload 4, 2) := by decide +kernel
theorem dX1_hashLeaf_28 : decode cX1_hashLeaf 28 = .ok (.iload_n 3, 1) := by decide +kernel
theorem dX1_hashLeaf_29 : decode cX1_hashLeaf 29 = .ok (.bipush 8, 2) := by decide +kernel
theorem dX1_hashLeaf_31 : decode cX1_hashLeaf 31 = .ok (.iadd, 1) := by decide +kernel
theorem dX1_hashLeaf_32 : decode cX1_hashLeaf 32 = .ok (.if_icmp .ge 54, 3) := by decide +kernel
theorem dX1_hashLeaf_35 : decode cX1_hashLeaf 35 = .ok (.aload_n 0, 1) := by decide +kernel
theorem dX1_hashLeaf_36 : decode cX1_hashLeaf 36 = .ok (.getfield 9, 3) := by decide +kernel
theorem dX1_hashLeaf_39 : decode cX1_hashLeaf 39 = .ok (.iload 4, 2) := by decide +kernel
theorem dX1_hashLeaf_41 : decode cX1_hashLeaf 41 = .ok (.baload, 1) := by decide +kernel
theorem dX1_hashLeaf_42 : decode cX1_hashLeaf 42 = .ok (.ifCond .eq 38, 3) := by decide +kernel
theorem dX1_hashLeaf_45 : decode cX1_hashLeaf 45 = .ok (.aload_n 2, 1) := by decide +kernel
theorem dX1_hashLeaf_46 : decode cX1_hashLeaf 46 = .ok (.iload 4, 2) := by decide +kernel
theorem dX1_hashLeaf_48 : decode cX1_hashLeaf 48 = .ok (.invokestatic 36, 3) := by decide +kernel
theorem dX1_hashLeaf_51 : decode cX1_hashLeaf 51 = .ok (.i2l, 1) := by decide +kernel
theorem dX1_hashLeaf_52 : decode cX1_hashLeaf 52 = .ok (.iconst 1, 1) := by decide +kernel
theorem dX1_hashLeaf_53 : decode cX1_hashLeaf 53 = .ok (.invokevirtual 88, 3) := by decide +kernel
theorem dX1_hashLeaf_56 : decode cX1_hashLeaf 56 = .ok (.aload_n 2, 1) := by decide +kernel
theorem dX1_hashLeaf_57 : decode cX1_hashLeaf 57 = .ok (.iload 4, 2) := by decide +kernel
theorem dX1_hashLeaf_59 : decode cX1_hashLeaf 59 = .ok (.invokestatic 92, 3) := by decide +kernel
theorem dX1_hashLeaf_62 : decode cX1_hashLeaf 62 = .ok (.i2l, 1) := by decide +kernel
theorem dX1_hashLeaf_63 : decode cX1_hashLeaf 63 = .ok (.iconst 1, 1) := by decide +kernel
theorem dX1_hashLeaf_64 : decode cX1_hashLeaf 64 = .ok (.invokevirtual 88, 3) := by decide +kernel
theorem dX1_hashLeaf_67 : decode cX1_hashLeaf 67 = .ok (.aload_n 2, 1) := by decide +kernel
theorem dX1_hashLeaf_68 : decode cX1_hashLeaf 68 = .ok (.aload_n 0, 1) := by decide +kernel
theorem dX1_hashLeaf_69 : decode cX1_hashLeaf 69 = .ok (.getfield 15, 3) := by decide +kernel
theorem dX1_hashLeaf_72 : decode cX1_hashLeaf 72 = .ok (.iload 4, 2) := by decide +kernel
theorem dX1_hashLeaf_74 : decode cX1_hashLeaf 74 = .ok (.laload, 1) := by decide +kernel
theorem dX1_hashLeaf_75 : decode cX1_hashLeaf 75 = .ok (.bipush 8, 2) := by decide +kernel
theorem dX1_hashLeaf_77 : decode cX1_hashLeaf 77 = .ok (.invokevirtual 88, 3) := by decide +kernel
theorem dX1_hashLeaf_80 : decode cX1_hashLeaf 80 = .ok (.iinc 4 1, 3) := by decide +kernel
theorem dX1_hashLeaf_83 : decode cX1_hashLeaf 83 = .ok (.goto (-57), 3) := by decide +kernel
theorem dX1_hashLeaf_86 : decode cX1_hashLeaf 86 = .ok (.aload_n 2, 1) := by decide +kernel
theorem dX1_hashLeaf_87 : decode cX1_hashLeaf 87 = .ok (.invokevirtual 95, 3) := by decide +kernel
theorem dX1_hashLeaf_90 : decode cX1_hashLeaf 90 = .ok (.return_, 1) := by decide +kernel
set_option maxRecDepth 20000 in
theorem ggX1_hashInner_X0_setZero : GoodIn wsX1_hashInner wsX0_setZero := goodIn_r _ [7, 8, 9, 10, 11, 12, 55, 56, 57] (by decide +kernel) (by decide +kernel)
set_option maxRecDepth 20000 in
theorem gX1_hashInner_X0_setZero : GoodIn wsX1_hashInner (wsV RX1 80 RX0 yX0_setZero wsX0_setZero) := goodIn_app (goodIn_of _ (by decide +kernel)) ggX1_hashInner_X0_setZero
set_option maxRecDepth 20000 in
theorem ggX1_hashInner_X0_start : GoodIn wsX1_hashInner wsX0_start := goodIn_r _ [16, 17, 8, 18, 19, 20, 21, 22, 55, 56, 57] (by decide +kernel) (by decide +kernel)
set_option maxRecDepth 20000 in
theorem gX1_hashInner_X0_start : GoodIn wsX1_hashInner (wsV RX1 85 RX0 yX0_start wsX0_start) := goodIn_app (goodIn_of _ (by decide +kernel)) ggX1_hashInner_X0_start
set_option maxRecDepth 20000 in
theorem ggX1_hashInner_X0_take : GoodIn wsX1_hashInner wsX0_take := goodIn_r _ [26, 22, 27, 28, 29, 30, 6, 31, 32, 33, 34, 35, 36, 37, 38, 39, 8, 40, 55, 56, 57] (by decide +kernel) (by decide +kernel)
set_option maxRecDepth 20000 in
theorem gX1_hashInner_X0_take : GoodIn wsX1_hashInner (wsV RX1 88 RX0 yX0_take wsX0_take) := goodIn_app (goodIn_of _ (by decide +kernel)) ggX1_hashInner_X0_take
set_option maxRecDepth 20000 in
theorem ggX1_hashInner_X0_finish : GoodIn wsX1_hashInner wsX0_finish := goodIn_r _ [44, 45, 22, 46, 47, 24, 25, 6, 26, 27, 28, 29, 30, 31, 32, 33, 34, 35, 36, 37, 38, 39, 8, 40, 55, 56, 57] (by decide +kernel) (by decide +kernel)
set_option maxRecDepth 20000 in
theorem gX1_hashInner_X0_finish : GoodIn wsX1_hashInner (wsV RX1 95 RX0 yX0_finish wsX0_finish) := goodIn_app (goodIn_of _ (by decide +kernel)) ggX1_hashInner_X0_finish
theorem dX1_hashInner_0 : decode cX1_hashInner 0 = .ok (.aload_n 0, 1) := by decide +kernel
theorem dX1_hashInner_1 : decode cX1_hashInner 1 = .ok (.getfield 29, 3) := by decide +kernel
theorem dX1_hashInner_4 : decode cX1_hashInner 4 = .ok (.iload_n 1, 1) := by decide +kernel
theorem dX1_hashInner_5 : decode cX1_hashInner 5 = .ok (.iaload, 1) := by decide +kernel
theorem dX1_hashInner_6 : decode cX1_hashInner 6 = .ok (.ifCond .ne 8, 3) := by decide +kernel
theorem dX1_hashInner_9 : decode cX1_hashInner 9 = .ok (.aload_n 2, 1) := by decide +kernel
theorem dX1_hashInner_10 : decode cX1_hashInner 10 = .ok (.invokevirtual 80, 3) := by decide +kernel
theorem dX1_hashInner_13 : decode cX1_hashInner 13 = .ok (.return_, 1) := by decide +kernel
theorem dX1_hashInner_14 : decode cX1_hashInner 14 = .ok (.bipush 16, 2) := by decide +kernel
theorem dX1_hashInner_16 : decode cX1_hashInner 16 = .ok (.iload_n 1, 1) := by decide +kernel
theorem dX1_hashInner_17 : decode cX1_hashInner 17 = .ok (.imul, 1) := by decide +kernel
theorem dX1_hashInner_18 : decode cX1_hashInner 18 = .ok (.istore_n 3, 1) := by decide +kernel
theorem dX1_hashInner_19 : decode cX1_hashInner 19 = .ok (.aload_n 2, 1) := by decide +kernel
theorem dX1_hashInner_20 : decode cX1_hashInner 20 = .ok (.invokevirtual 85, 3) := by decide +kernel
theorem dX1_hashInner_23 : decode cX1_hashInner 23 = .ok (.iload_n 3, 1) := by decide +kernel
theorem dX1_hashInner_24 : decode cX1_hashInner 24 = .ok (.istore 4, 2) := by decide +kernel
theorem dX1_hashInner_26 : decode cX1_hashInner 26 = .ok (.iload 4, 2) := by decide +kernel
theorem dX1_hashInner_28 : decode cX1_hashInner 28 = .ok (.iload_n 3, 1) := by decide +kernel
theorem dX1_hashInner_29 : decode cX1_hashInner 29 = .ok (.bipush 16, 2) := by decide +kernel
theorem dX1_hashInner_31 : decode cX1_hashInner 31 = .ok (.iadd, 1) := by decide +kernel
theorem dX1_hashInner_32 : decode cX1_hashInner 32 = .ok (.if_icmp .ge 22, 3) := by decide +kernel
theorem dX1_hashInner_35 : decode cX1_hashInner 35 = .ok (.aload_n 2, 1) := by decide +kernel
theorem dX1_hashInner_36 : decode cX1_hashInner 36 = .ok (.aload_n 0, 1) := by decide +kernel
theorem dX1_hashInner_37 : decode cX1_hashInner 37 = .ok (.getfield 22, 3) := by decide +kernel
theorem dX1_hashInner_40 : decode cX1_hashInner 40 = .ok (.iload 4, 2) := by decide +kernel
theorem dX1_hashInner_42 : decode cX1_hashInner 42 = .ok (.iaload, 1) := by decide +kernel
theorem dX1_hashInner_43 : decode cX1_hashInner 43 = .ok (.i2l, 1) := by decide +kernel
theorem dX1_hashInner_44 : decode cX1_hashInner 44 = .ok (.iconst 4, 1) := by decide +kernel
theorem dX1_hashInner_45 : decode cX1_hashInner 45 = .ok (.invokevirtual 88, 3) := by decide +kernel
theorem dX1_hashInner_48 : decode cX1_hashInner 48 = .ok (.iinc 4 1, 3) := by decide +kernel
theorem dX1_hashInner_51 : decode cX1_hashInner 51 = .ok (.goto (-25), 3) := by decide +kernel
theorem dX1_hashInner_54 : decode cX1_hashInner 54 = .ok (.aload_n 2, 1) := by decide +kernel
theorem dX1_hashInner_55 : decode cX1_hashInner 55 = .ok (.invokevirtual 95, 3) := by decide +kernel
theorem dX1_hashInner_58 : decode cX1_hashInner 58 = .ok (.return_, 1) := by decide +kernel
set_option maxRecDepth 20000 in
theorem ggX1_isKept_X0_word : GoodIn wsX1_isKept wsX0_word := goodIn_r _ [6, 7, 15, 16, 17] (by decide +kernel) (by decide +kernel)
set_option maxRecDepth 20000 in
theorem gX1_isKept_X0_word : GoodIn wsX1_isKept (wsV RX1 98 RX0 yX0_word wsX0_word) := goodIn_app (goodIn_of _ (by decide +kernel)) ggX1_isKept_X0_word
theorem dX1_isKept_0 : decode cX1_isKept 0 = .ok (.iconst 0, 1) := by decide +kernel
theorem dX1_isKept_1 : decode cX1_isKept 1 = .ok (.istore_n 3, 1) := by decide +kernel
theorem dX1_isKept_2 : decode cX1_isKept 2 = .ok (.iload_n 3, 1) := by decide +kernel
theorem dX1_isKept_3 : decode cX1_isKept 3 = .ok (.bipush 8, 2) := by decide +kernel
theorem dX1_isKept_5 : decode cX1_isKept 5 = .ok (.if_icmp .ge 30, 3) := by decide +kernel
theorem dX1_isKept_8 : decode cX1_isKept 8 = .ok (.aload_n 0, 1) := by decide +kernel
theorem dX1_isKept_9 : decode cX1_isKept 9 = .ok (.getfield 22, 3) := by decide +kernel
theorem dX1_isKept_12 : decode cX1_isKept 12 = .ok (.bipush 8, 2) := by decide +kernel
theorem dX1_isKept_14 : decode cX1_isKept 14 = .ok (.iload_n 1, 1) := by decide +kernel
theorem dX1_isKept_15 : decode cX1_isKept 15 = .ok (.imul, 1) := by decide +kernel
theorem dX1_isKept_16 : decode cX1_isKept 16 = .ok (.iload_n 3, 1) := by decide +kernel
theorem dX1_isKept_17 : decode cX1_isKept 17 = .ok (.iadd, 1) := by decide +kernel
theorem dX1_isKept_18 : decode cX1_isKept 18 = .ok (.iaload, 1) := by decide +kernel
theorem dX1_isKept_19 : decode cX1_isKept 19 = .ok (.aload_n 2, 1) := by decide +kernel
theorem dX1_isKept_20 : decode cX1_isKept 20 = .ok (.iload_n 3, 1) := by decide +kernel
theorem dX1_isKept_21 : decode cX1_isKept 21 = .ok (.invokevirtual 98, 3) := by decide +kernel
theorem dX1_isKept_24 : decode cX1_isKept 24 = .ok (.if_icmp .eq 5, 3) := by decide +kernel
theorem dX1_isKept_27 : decode cX1_isKept 27 = .ok (.iconst 0, 1) := by decide +kernel
theorem dX1_isKept_28 : decode cX1_isKept 28 = .ok (.ireturn, 1) := by decide +kernel
theorem dX1_isKept_29 : decode cX1_isKept 29 = .ok (.iinc 3 1, 3) := by decide +kernel
theorem dX1_isKept_32 : decode cX1_isKept 32 = .ok (.goto (-30), 3) := by decide +kernel
theorem dX1_isKept_35 : decode cX1_isKept 35 = .ok (.iconst 1, 1) := by decide +kernel
theorem dX1_isKept_36 : decode cX1_isKept 36 = .ok (.ireturn, 1) := by decide +kernel
set_option maxRecDepth 20000 in
theorem ggX1_keep_X1_isKept : GoodIn wsX1_keep wsX1_isKept := goodIn_r _ [6, 1, 7, 8, 9, 10, 11, 12, 13, 14, 15, 16, 17, 18, 19, 20, 21, 22] (by decide +kernel) (by decide +kernel)
set_option maxRecDepth 20000 in
theorem gX1_keep_X1_isKept : GoodIn wsX1_keep (wsV RX1 44 RX1 yX1_isKept wsX1_isKept) := goodIn_app (goodIn_of _ (by decide +kernel)) ggX1_keep_X1_isKept
set_option maxRecDepth 20000 in
theorem ggX1_keep_X0_word : GoodIn wsX1_keep wsX0_word := goodIn_r _ [11, 12, 20, 21, 22] (by decide +kernel) (by decide +kernel)
set_option maxRecDepth 20000 in
theorem gX1_keep_X0_word : GoodIn wsX1_keep (wsV RX1 98 RX0 yX0_word wsX0_word) := goodIn_app (goodIn_of _ (by decide +kernel)) ggX1_keep_X0_word
theorem dX1_keep_0 : decode cX1_keep 0 = .ok (.aload_n 0, 1) := by decide +kernel
theorem dX1_keep_1 : decode cX1_keep 1 = .ok (.iload_n 1, 1) := by decide +kernel
theorem dX1_keep_2 : decode cX1_keep 2 = .ok (.aload_n 2, 1) := by decide +kernel
theorem dX1_keep_3 : decode cX1_keep 3 = .ok (.invokevirtual 44, 3) := by decide +kernel
theorem dX1_keep_6 : decode cX1_keep 6 = .ok (.ifCond .eq 5, 3) := by decide +kernel
theorem dX1_keep_9 : decode cX1_keep 9 = .ok (.iconst 0, 1) := by decide +kernel
theorem dX1_keep_10 : decode cX1_keep 10 = .ok (.ireturn, 1) := by decide +kernel
theorem dX1_keep_11 : decode cX1_keep 11 = .ok (.iconst 0, 1) := by decide +kernel
theorem dX1_keep_12 : decode cX1_keep 12 = .ok (.istore_n 3, 1) := by decide +kernel
theorem dX1_keep_13 : decode cX1_keep 13 = .ok (.iload_n 3, 1) := by decide +kernel
theorem dX1_keep_14 : decode cX1_keep 14 = .ok (.bipush 8, 2) := by decide +kernel
theorem dX1_keep_16 : decode cX1_keep 16 = .ok (.if_icmp .ge 25, 3) := by decide +kernel
theorem dX1_keep_19 : decode cX1_keep 19 = .ok (.aload_n 0, 1) := by decide +kernel
theorem dX1_keep_20 : decode cX1_keep 20 = .ok (.getfield 22, 3) := by decide +kernel
theorem dX1_keep_23 : decode cX1_keep 23 = .ok (.bipush 8, 2) := by decide +kernel
theorem dX1_keep_25 : decode cX1_keep 25 = .ok (.iload_n 1, 1) := by decide +kernel
theorem dX1_keep_26 : decode cX1_keep 26 = .ok (.imul, 1) := by decide +kernel
theorem dX1_keep_27 : decode cX1_keep 27 = .ok (.iload_n 3, 1) := by decide +kernel
theorem dX1_keep_28 : decode cX1_keep 28 = .ok (.iadd, 1) := by decide +kernel
theorem dX1_keep_29 : decode cX1_keep 29 = .ok (.aload_n 2, 1) := by decide +kernel
theorem dX1_keep_30 : decode cX1_keep 30 = .ok (.iload_n 3, 1) := by decide +kernel
theorem dX1_keep_31 : decode cX1_keep 31 = .ok (.invokevirtual 98, 3) := by decide +kernel
theorem dX1_keep_34 : decode cX1_keep 34 = .ok (.iastore, 1) := by decide +kernel
theorem dX1_keep_35 : decode cX1_keep 35 = .ok (.iinc 3 1, 3) := by decide +kernel
theorem dX1_keep_38 : decode cX1_keep 38 = .ok (.goto (-25), 3) := by decide +kernel
theorem dX1_keep_41 : decode cX1_keep 41 = .ok (.iconst 1, 1) := by decide +kernel
theorem dX1_keep_42 : decode cX1_keep 42 = .ok (.ireturn, 1) := by decide +kernel
