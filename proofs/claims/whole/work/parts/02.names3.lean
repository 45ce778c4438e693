theorem dX3_withoutLowest_39 : decode cX3_withoutLowest 39 = .ok (.ifCond .ne 15, 3) := by decide +kernel
theorem dX3_withoutLowest_42 : decode cX3_withoutLowest 42 = .ok (.lload_n 3, 1) := by decide +kernel
theorem dX3_withoutLowest_43 : decode cX3_withoutLowest 43 = .ok (.lconst 1, 1) := by decide +kernel
theorem dX3_withoutLowest_44 : decode cX3_withoutLowest 44 = .ok (.land, 1) := by decide +kernel
theorem dX3_withoutLowest_45 : decode cX3_withoutLowest 45 = .ok (.lconst 1, 1) := by decide +kernel
theorem dX3_withoutLowest_46 : decode cX3_withoutLowest 46 = .ok (.lcmp, 1) := by decide +kernel
theorem dX3_withoutLowest_47 : decode cX3_withoutLowest 47 = .ok (.ifCond .ne 7, 3) := by decide +kernel
theorem dX3_withoutLowest_50 : decode cX3_withoutLowest 50 = .ok (.iconst 1, 1) := by decide +kernel
theorem dX3_withoutLowest_51 : decode cX3_withoutLowest 51 = .ok (.goto 4, 3) := by decide +kernel
theorem dX3_withoutLowest_54 : decode cX3_withoutLowest 54 = .ok (.iconst 0, 1) := by decide +kernel
theorem dX3_withoutLowest_55 : decode cX3_withoutLowest 55 = .ok (.istore 9, 2) := by decide +kernel
theorem dX3_withoutLowest_57 : decode cX3_withoutLowest 57 = .ok (.iload 9, 2) := by decide +kernel
theorem dX3_withoutLowest_59 : decode cX3_withoutLowest 59 = .ok (.ifCond .eq 9, 3) := by decide +kernel
theorem dX3_withoutLowest_62 : decode cX3_withoutLowest 62 = .ok (.lload_n 3, 1) := by decide +kernel
theorem dX3_withoutLowest_63 : decode cX3_withoutLowest 63 = .ok (.lconst 1, 1) := by decide +kernel
theorem dX3_withoutLowest_64 : decode cX3_withoutLowest 64 = .ok (.ladd, 1) := by decide +kernel
theorem dX3_withoutLowest_65 : decode cX3_withoutLowest 65 = .ok (.goto 4, 3) := by decide +kernel
theorem dX3_withoutLowest_68 : decode cX3_withoutLowest 68 = .ok (.lload_n 3, 1) := by decide +kernel
theorem dX3_withoutLowest_69 : decode cX3_withoutLowest 69 = .ok (.lreturn, 1) := by decide +kernel
theorem dX3_shiftedWithTrace_0 : decode cX3_shiftedWithTrace 0 = .ok (.iload_n 2, 1) := by decide +kernel
theorem dX3_shiftedWithTrace_1 : decode cX3_shiftedWithTrace 1 = .ok (.bipush 63, 2) := by decide +kernel
theorem dX3_shiftedWithTrace_3 : decode cX3_shiftedWithTrace 3 = .ok (.if_icmp .le 5, 3) := by decide +kernel
theorem dX3_shiftedWithTrace_6 : decode cX3_shiftedWithTrace 6 = .ok (.lconst 0, 1) := by decide +kernel
theorem dX3_shiftedWithTrace_7 : decode cX3_shiftedWithTrace 7 = .ok (.lreturn, 1) := by decide +kernel
theorem dX3_shiftedWithTrace_8 : decode cX3_shiftedWithTrace 8 = .ok (.lload_n 0, 1) := by decide +kernel
theorem dX3_shiftedWithTrace_9 : decode cX3_shiftedWithTrace 9 = .ok (.iload_n 2, 1) := by decide +kernel
theorem dX3_shiftedWithTrace_10 : decode cX3_shiftedWithTrace 10 = .ok (.lushr, 1) := by decide +kernel
theorem dX3_shiftedWithTrace_11 : decode cX3_shiftedWithTrace 11 = .ok (.lstore_n 3, 1) := by decide +kernel
theorem dX3_shiftedWithTrace_12 : decode cX3_shiftedWithTrace 12 = .ok (.lload_n 3, 1) := by decide +kernel
theorem dX3_shiftedWithTrace_13 : decode cX3_shiftedWithTrace 13 = .ok (.iload_n 2, 1) := by decide +kernel
theorem dX3_shiftedWithTrace_14 : decode cX3_shiftedWithTrace 14 = .ok (.lshl, 1) := by decide +kernel
theorem dX3_shiftedWithTrace_15 : decode cX3_shiftedWithTrace 15 = .ok (.lload_n 0, 1) := by decide +kernel
theorem dX3_shiftedWithTrace_16 : decode cX3_shiftedWithTrace 16 = .ok (.lcmp, 1) := by decide +kernel
theorem dX3_shiftedWithTrace_17 : decode cX3_shiftedWithTrace 17 = .ok (.ifCond .ne 7, 3) := by decide +kernel
theorem dX3_shiftedWithTrace_20 : decode cX3_shiftedWithTrace 20 = .ok (.lload_n 3, 1) := by decide +kernel
theorem dX3_shiftedWithTrace_21 : decode cX3_shiftedWithTrace 21 = .ok (.goto 6, 3) := by decide +kernel
theorem dX3_shiftedWithTrace_24 : decode cX3_shiftedWithTrace 24 = .ok (.lload_n 3, 1) := by decide +kernel
theorem dX3_shiftedWithTrace_25 : decode cX3_shiftedWithTrace 25 = .ok (.lconst 1, 1) := by decide +kernel
theorem dX3_shiftedWithTrace_26 : decode cX3_shiftedWithTrace 26 = .ok (.lor, 1) := by decide +kernel
theorem dX3_shiftedWithTrace_27 : decode cX3_shiftedWithTrace 27 = .ok (.lreturn, 1) := by decide +kernel
theorem dX3_bitLength_0 : decode cX3_bitLength 0 = .ok (.iconst 0, 1) := by decide +kernel
theorem dX3_bitLength_1 : decode cX3_bitLength 1 = .ok (.istore_n 2, 1) := by decide +kernel
theorem dX3_bitLength_2 : decode cX3_bitLength 2 = .ok (.iload_n 2, 1) := by decide +kernel
theorem dX3_bitLength_3 : decode cX3_bitLength 3 = .ok (.bipush 64, 2) := by decide +kernel
theorem dX3_bitLength_5 : decode cX3_bitLength 5 = .ok (.if_icmp .ge 19, 3) := by decide +kernel
theorem dX3_bitLength_8 : decode cX3_bitLength 8 = .ok (.lload_n 0, 1) := by decide +kernel
theorem dX3_bitLength_9 : decode cX3_bitLength 9 = .ok (.iload_n 2, 1) := by decide +kernel
theorem dX3_bitLength_10 : decode cX3_bitLength 10 = .ok (.lushr, 1) := by decide +kernel
theorem dX3_bitLength_11 : decode cX3_bitLength 11 = .ok (.lconst 0, 1) := by decide +kernel
theorem dX3_bitLength_12 : decode cX3_bitLength 12 = .ok (.lcmp, 1) := by decide +kernel
theorem dX3_bitLength_13 : decode cX3_bitLength 13 = .ok (.ifCond .ne 5, 3) := by decide +kernel
theorem dX3_bitLength_16 : decode cX3_bitLength 16 = .ok (.iload_n 2, 1) := by decide +kernel
theorem dX3_bitLength_17 : decode cX3_bitLength 17 = .ok (.ireturn, 1) := by decide +kernel
theorem dX3_bitLength_18 : decode cX3_bitLength 18 = .ok (.iinc 2 1, 3) := by decide +kernel
theorem dX3_bitLength_21 : decode cX3_bitLength 21 = .ok (.goto (-19), 3) := by decide +kernel
theorem dX3_bitLength_24 : decode cX3_bitLength 24 = .ok (.bipush 64, 2) := by decide +kernel
theorem dX3_bitLength_26 : decode cX3_bitLength 26 = .ok (.ireturn, 1) := by decide +kernel
theorem dX4_init_0 : decode cX4_init 0 = .ok (.aload_n 0, 1) := by decide +kernel
theorem dX4_init_1 : decode cX4_init 1 = .ok (.invokespecial 1, 3) := by decide +kernel
theorem dX4_init_4 : decode cX4_init 4 = .ok (.aload_n 0, 1) := by decide +kernel
theorem dX4_init_5 : decode cX4_init 5 = .ok (.bipush 8, 2) := by decide +kernel
theorem dX4_init_7 : decode cX4_init 7 = .ok (.anewarray 9, 3) := by decide +kernel
theorem dX4_init_10 : decode cX4_init 10 = .ok (.putfield 11, 3) := by decide +kernel
theorem dX4_init_13 : decode cX4_init 13 = .ok (.aload_n 0, 1) := by decide +kernel
theorem dX4_init_14 : decode cX4_init 14 = .ok (.bipush 6, 2) := by decide +kernel
theorem dX4_init_16 : decode cX4_init 16 = .ok (.anewarray 15, 3) := by decide +kernel
theorem dX4_init_19 : decode cX4_init 19 = .ok (.putfield 17, 3) := by decide +kernel
theorem dX4_init_22 : decode cX4_init 22 = .ok (.aload_n 0, 1) := by decide +kernel
theorem dX4_init_23 : decode cX4_init 23 = .ok (.iconst 3, 1) := by decide +kernel
theorem dX4_init_24 : decode cX4_init 24 = .ok (.anewarray 21, 3) := by decide +kernel
theorem dX4_init_27 : decode cX4_init 27 = .ok (.putfield 23, 3) := by decide +kernel
theorem dX4_init_30 : decode cX4_init 30 = .ok (.aload_n 0, 1) := by decide +kernel
theorem dX4_init_31 : decode cX4_init 31 = .ok (.lconst 0, 1) := by decide +kernel
theorem dX4_init_32 : decode cX4_init 32 = .ok (.putfield 27, 3) := by decide +kernel
theorem dX4_init_35 : decode cX4_init 35 = .ok (.return_, 1) := by decide +kernel
set_option maxRecDepth 20000 in
theorem ggX4_row_X4_isBelow : GoodIn wsX4_row wsX4_isBelow := goodIn_r _ [9] (by decide +kernel) (by decide +kernel)
set_option maxRecDepth 20000 in
theorem gX4_row_X4_isBelow : GoodIn wsX4_row (va_wsS RX4 31 yX4_isBelow wsX4_isBelow) := goodIn_app (goodIn_of _ (by decide +kernel)) ggX4_row_X4_isBelow
set_option maxRecDepth 20000 in
theorem ggX4_row_X4_widthOf : GoodIn wsX4_row wsX4_widthOf := goodIn_r _ [12, 13, 14] (by decide +kernel) (by decide +kernel)
set_option maxRecDepth 20000 in
theorem gX4_row_X4_widthOf : GoodIn wsX4_row (va_wsS RX4 35 yX4_widthOf wsX4_widthOf) := goodIn_app (goodIn_of _ (by decide +kernel)) ggX4_row_X4_widthOf
set_option maxRecDepth 20000 in
theorem ggX4_row_X2_init : GoodIn wsX4_row wsX2_init := goodIn_r _ [17, 18, 19, 20, 21, 22, 27, 28] (by decide +kernel) (by decide +kernel)
set_option maxRecDepth 20000 in
theorem gX4_row_X2_init : GoodIn wsX4_row (wsX2_init) := ggX4_row_X2_init
theorem dX4_row_0 : decode cX4_row 0 = .ok (.iload_n 1, 1) := by decide +kernel
theorem dX4_row_1 : decode cX4_row 1 = .ok (.bipush 8, 2) := by decide +kernel
theorem dX4_row_3 : decode cX4_row 3 = .ok (.invokestatic 31, 3) := by decide +kernel
theorem dX4_row_6 : decode cX4_row 6 = .ok (.ifCond .eq 12, 3) := by decide +kernel
theorem dX4_row_9 : decode cX4_row 9 = .ok (.iload_n 3, 1) := by decide +kernel
theorem dX4_row_10 : decode cX4_row 10 = .ok (.bipush 13, 2) := by decide +kernel
theorem dX4_row_12 : decode cX4_row 12 = .ok (.invokestatic 31, 3) := by decide +kernel
theorem dX4_row_15 : decode cX4_row 15 = .ok (.ifCond .ne 5, 3) := by decide +kernel
theorem dX4_row_18 : decode cX4_row 18 = .ok (.iconst (-1), 1) := by decide +kernel
theorem dX4_row_19 : decode cX4_row 19 = .ok (.ireturn, 1) := by decide +kernel
theorem dX4_row_20 : decode cX4_row 20 = .ok (.aload_n 0, 1) := by decide +kernel
theorem dX4_row_21 : decode cX4_row 21 = .ok (.getfield 11, 3) := by decide +kernel
theorem dX4_row_24 : decode cX4_row 24 = .ok (.iload_n 1, 1) := by decide +kernel
theorem dX4_row_25 : decode cX4_row 25 = .ok (.new 9, 3) := by decide +kernel
theorem dX4_row_28 : decode cX4_row 28 = .ok (.dup, 1) := by decide +kernel
theorem dX4_row_29 : decode cX4_row 29 = .ok (.iload_n 2, 1) := by decide +kernel
theorem dX4_row_30 : decode cX4_row 30 = .ok (.invokestatic 35, 3) := by decide +kernel
theorem dX4_row_33 : decode cX4_row 33 = .ok (.iload_n 3, 1) := by decide +kernel
theorem dX4_row_34 : decode cX4_row 34 = .ok (.newarray .long, 2) := by decide +kernel
theorem dX4_row_36 : decode cX4_row 36 = .ok (.invokespecial 39, 3) := by decide +kernel
theorem dX4_row_39 : decode cX4_row 39 = .ok (.aastore, 1) := by decide +kernel
theorem dX4_row_40 : decode cX4_row 40 = .ok (.iconst 1, 1) := by decide +kernel
theorem dX4_row_41 : decode cX4_row 41 = .ok (.ireturn, 1) := by decide +kernel
set_option maxRecDepth 20000 in
theorem ggX4_share_X4_isBelow : GoodIn wsX4_share wsX4_isBelow := goodIn_r _ [5] (by decide +kernel) (by decide +kernel)
set_option maxRecDepth 20000 in
theorem gX4_share_X4_isBelow : GoodIn wsX4_share (va_wsS RX4 31 yX4_isBelow wsX4_isBelow) := goodIn_app (goodIn_of _ (by decide +kernel)) ggX4_share_X4_isBelow
theorem dX4_share_0 : decode cX4_share 0 = .ok (.iload_n 1, 1) := by decide +kernel
theorem dX4_share_1 : decode cX4_share 1 = .ok (.bipush 8, 2) := by decide +kernel
theorem dX4_share_3 : decode cX4_share 3 = .ok (.invokestatic 31, 3) := by decide +kernel
theorem dX4_share_6 : decode cX4_share 6 = .ok (.ifCond .eq 12, 3) := by decide +kernel
theorem dX4_share_9 : decode cX4_share 9 = .ok (.iload_n 2, 1) := by decide +kernel
theorem dX4_share_10 : decode cX4_share 10 = .ok (.bipush 8, 2) := by decide +kernel
theorem dX4_share_12 : decode cX4_share 12 = .ok (.invokestatic 31, 3) := by decide +kernel
theorem dX4_share_15 : decode cX4_share 15 = .ok (.ifCond .ne 5, 3) := by decide +kernel
theorem dX4_share_18 : decode cX4_share 18 = .ok (.iconst (-1), 1) := by decide +kernel
theorem dX4_share_19 : decode cX4_share 19 = .ok (.ireturn, 1) := by decide +kernel
theorem dX4_share_20 : decode cX4_share 20 = .ok (.aload_n 0, 1) := by decide +kernel
theorem dX4_share_21 : decode cX4_share 21 = .ok (.getfield 11, 3) := by decide +kernel
theorem dX4_share_24 : decode cX4_share 24 = .ok (.iload_n 2, 1) := by decide +kernel
theorem dX4_share_25 : decode cX4_share 25 = .ok (.aload_n 0, 1) := by decide +kernel
theorem dX4_share_26 : decode cX4_share 26 = .ok (.getfield 11, 3) := by decide +kernel
theorem dX4_share_29 : decode cX4_share 29 = .ok (.iload_n 1, 1) := by decide +kernel
theorem dX4_share_30 : decode cX4_share 30 = .ok (.aaload, 1) := by decide +kernel
theorem dX4_share_31 : decode cX4_share 31 = .ok (.aastore, 1) := by decide +kernel
theorem dX4_share_32 : decode cX4_share 32 = .ok (.aload_n 0, 1) := by decide +kernel
theorem dX4_share_33 : decode cX4_share 33 = .ok (.getfield 11, 3) := by decide +kernel
theorem dX4_share_36 : decode cX4_share 36 = .ok (.iload_n 2, 1) := by decide +kernel
theorem dX4_share_37 : decode cX4_share 37 = .ok (.aaload, 1) := by decide +kernel
theorem dX4_share_38 : decode cX4_share 38 = .ok (.ifnonnull 7, 3) := by decide +kernel
theorem dX4_share_41 : decode cX4_share 41 = .ok (.iconst 0, 1) := by decide +kernel
theorem dX4_share_42 : decode cX4_share 42 = .ok (.goto 4, 3) := by decide +kernel
theorem dX4_share_45 : decode cX4_share 45 = .ok (.iconst 1, 1) := by decide +kernel
theorem dX4_share_46 : decode cX4_share 46 = .ok (.ireturn, 1) := by decide +kernel
set_option maxRecDepth 20000 in
theorem ggX4_clear_X4_isBelow : GoodIn wsX4_clear wsX4_isBelow := goodIn_r _ [5] (by decide +kernel) (by decide +kernel)
set_option maxRecDepth 20000 in
theorem gX4_clear_X4_isBelow : GoodIn wsX4_clear (va_wsS RX4 31 yX4_isBelow wsX4_isBelow) := goodIn_app (goodIn_of _ (by decide +kernel)) ggX4_clear_X4_isBelow
theorem dX4_clear_0 : decode cX4_clear 0 = .ok (.iload_n 1, 1) := by decide +kernel
theorem dX4_clear_1 : decode cX4_clear 1 = .ok (.bipush 8, 2) := by decide +kernel
theorem dX4_clear_3 : decode cX4_clear 3 = .ok (.invokestatic 31, 3) := by decide +kernel
theorem dX4_clear_6 : decode cX4_clear 6 = .ok (.ifCond .ne 5, 3) := by decide +kernel
theorem dX4_clear_9 : decode cX4_clear 9 = .ok (.iconst (-1), 1) := by decide +kernel
theorem dX4_clear_10 : decode cX4_clear 10 = .ok (.ireturn, 1) := by decide +kernel
theorem dX4_clear_11 : decode cX4_clear 11 = .ok (.aload_n 0, 1) := by decide +kernel
theorem dX4_clear_12 : decode cX4_clear 12 = .ok (.getfield 11, 3) := by decide +kernel
theorem dX4_clear_15 : decode cX4_clear 15 = .ok (.iload_n 1, 1) := by decide +kernel
theorem dX4_clear_16 : decode cX4_clear 16 = .ok (.aaload, 1) := by decide +kernel
theorem dX4_clear_17 : decode cX4_clear 17 = .ok (.ifnonnull 7, 3) := by decide +kernel
theorem dX4_clear_20 : decode cX4_clear 20 = .ok (.iconst 0, 1) := by decide +kernel
theorem dX4_clear_21 : decode cX4_clear 21 = .ok (.goto 4, 3) := by decide +kernel
theorem dX4_clear_24 : decode cX4_clear 24 = .ok (.iconst 1, 1) := by decide +kernel
theorem dX4_clear_25 : decode cX4_clear 25 = .ok (.istore_n 2, 1) := by decide +kernel
theorem dX4_clear_26 : decode cX4_clear 26 = .ok (.aload_n 0, 1) := by decide +kernel
theorem dX4_clear_27 : decode cX4_clear 27 = .ok (.getfield 11, 3) := by decide +kernel
theorem dX4_clear_30 : decode cX4_clear 30 = .ok (.iload_n 1, 1) := by decide +kernel
theorem dX4_clear_31 : decode cX4_clear 31 = .ok (.aconst_null, 1) := by decide +kernel
theorem dX4_clear_32 : decode cX4_clear 32 = .ok (.aastore, 1) := by decide +kernel
theorem dX4_clear_33 : decode cX4_clear 33 = .ok (.iload_n 2, 1) := by decide +kernel
theorem dX4_clear_34 : decode cX4_clear 34 = .ok (.ireturn, 1) := by decide +kernel
set_option maxRecDepth 20000 in
theorem ggX4_put_X4_isBelow : GoodIn wsX4_put wsX4_isBelow := goodIn_r _ [6] (by decide +kernel) (by decide +kernel)
set_option maxRecDepth 20000 in
theorem gX4_put_X4_isBelow : GoodIn wsX4_put (va_wsS RX4 31 yX4_isBelow wsX4_isBelow) := goodIn_app (goodIn_of _ (by decide +kernel)) ggX4_put_X4_isBelow
set_option maxRecDepth 20000 in
theorem ggX4_put_X4_widthOf : GoodIn wsX4_put wsX4_widthOf := goodIn_r _ [9, 10, 11] (by decide +kernel) (by decide +kernel)
set_option maxRecDepth 20000 in
theorem gX4_put_X4_widthOf : GoodIn wsX4_put (va_wsS RX4 35 yX4_widthOf wsX4_widthOf) := goodIn_app (goodIn_of _ (by decide +kernel)) ggX4_put_X4_widthOf
set_option maxRecDepth 20000 in
theorem ggX4_put_X3_isNumber : GoodIn wsX4_put wsX3_isNumber := goodIn_r _ [16, 17, 18, 19, 20, 15, 21, 22] (by decide +kernel) (by decide +kernel)
set_option maxRecDepth 20000 in
theorem gX4_put_X3_isNumber : GoodIn wsX4_put (wsV RX4 42 RX3 yX3_isNumber wsX3_isNumber) := goodIn_app (goodIn_of _ (by decide +kernel)) ggX4_put_X3_isNumber
set_option maxRecDepth 20000 in
theorem ggX4_put_X4_failureOfItem : GoodIn wsX4_put wsX4_failureOfItem := goodIn_r _ [26, 1, 2, 27, 28, 29, 5, 30, 31, 7, 8, 9, 10, 11, 3, 4, 6, 44, 45, 46, 47, 48, 49] (by decide +kernel) (by decide +kernel)
set_option maxRecDepth 20000 in
theorem gX4_put_X4_failureOfItem : GoodIn wsX4_put (wsV RX4 48 RX4 yX4_failureOfItem wsX4_failureOfItem) := goodIn_app (goodIn_of _ (by decide +kernel)) ggX4_put_X4_failureOfItem
set_option maxRecDepth 20000 in
theorem ggX4_put_X3_asTold : GoodIn wsX4_put wsX3_asTold := goodIn_r _ [35, 36, 37, 38, 15, 39, 22, 18, 19, 20, 21, 40, 41, 42, 43] (by decide +kernel) (by decide +kernel)
set_option maxRecDepth 20000 in
theorem gX4_put_X3_asTold : GoodIn wsX4_put (wsV RX4 56 RX3 yX3_asTold wsX3_asTold) := goodIn_app (goodIn_of _ (by decide +kernel)) ggX4_put_X3_asTold
theorem dX4_put_0 : decode cX4_put 0 = .ok (.iload_n 1, 1) := by decide +kernel
theorem dX4_put_1 : decode cX4_put 1 = .ok (.bipush 8, 2) := by decide +kernel
theorem dX4_put_3 : decode cX4_put 3 = .ok (.invokestatic 31, 3) := by decide +kernel
theorem dX4_put_6 : decode cX4_put 6 = .ok (.ifCond .eq 15, 3) := by decide +kernel
theorem dX4_put_9 : decode cX4_put 9 = .ok (.iload_n 2, 1) := by decide +kernel
theorem dX4_put_10 : decode cX4_put 10 = .ok (.invokestatic 35, 3) := by decide +kernel
theorem dX4_put_13 : decode cX4_put 13 = .ok (.lload 4, 2) := by decide +kernel
theorem dX4_put_15 : decode cX4_put 15 = .ok (.invokevirtual 42, 3) := by decide +kernel
theorem dX4_put_18 : decode cX4_put 18 = .ok (.ifCond .ne 5, 3) := by decide +kernel
theorem dX4_put_21 : decode cX4_put 21 = .ok (.iconst (-1), 1) := by decide +kernel
theorem dX4_put_22 : decode cX4_put 22 = .ok (.ireturn, 1) := by decide +kernel
theorem dX4_put_23 : decode cX4_put 23 = .ok (.aload_n 0, 1) := by decide +kernel
theorem dX4_put_24 : decode cX4_put 24 = .ok (.iload_n 1, 1) := by decide +kernel
theorem dX4_put_25 : decode cX4_put 25 = .ok (.iload_n 2, 1) := by decide +kernel
theorem dX4_put_26 : decode cX4_put 26 = .ok (.iload_n 3, 1) := by decide +kernel
theorem dX4_put_27 : decode cX4_put 27 = .ok (.invokevirtual 48, 3) := by decide +kernel
theorem dX4_put_30 : decode cX4_put 30 = .ok (.istore 6, 2) := by decide +kernel
theorem dX4_put_32 : decode cX4_put 32 = .ok (.iload 6, 2) := by decide +kernel
theorem dX4_put_34 : decode cX4_put 34 = .ok (.ifCond .eq 6, 3) := by decide +kernel
theorem dX4_put_37 : decode cX4_put 37 = .ok (.iload 6, 2) := by decide +kernel
theorem dX4_put_39 : decode cX4_put 39 = .ok (.ireturn, 1) := by decide +kernel
theorem dX4_put_40 : decode cX4_put 40 = .ok (.aload_n 0, 1) := by decide +kernel
theorem dX4_put_41 : decode cX4_put 41 = .ok (.getfield 11, 3) := by decide +kernel
theorem dX4_put_44 : decode cX4_put 44 = .ok (.iload_n 1, 1) := by decide +kernel
theorem dX4_put_45 : decode cX4_put 45 = .ok (.aaload, 1) := by decide +kernel
theorem dX4_put_46 : decode cX4_put 46 = .ok (.getfield 52, 3) := by decide +kernel
theorem dX4_put_49 : decode cX4_put 49 = .ok (.iload_n 3, 1) := by decide +kernel
theorem dX4_put_50 : decode cX4_put 50 = .ok (.iload_n 2, 1) := by decide +kernel
theorem dX4_put_51 : decode cX4_put 51 = .ok (.invokestatic 35, 3) := by decide +kernel
theorem dX4_put_54 : decode cX4_put 54 = .ok (.lload 4, 2) := by decide +kernel
theorem dX4_put_56 : decode cX4_put 56 = .ok (.invokevirtual 56, 3) := by decide +kernel
theorem dX4_put_59 : decode cX4_put 59 = .ok (.lastore, 1) := by decide +kernel
theorem dX4_put_60 : decode cX4_put 60 = .ok (.iconst 1, 1) := by decide +kernel
theorem dX4_put_61 : decode cX4_put 61 = .ok (.ireturn, 1) := by decide +kernel
set_option maxRecDepth 20000 in
theorem ggX4_get_X4_isBelow : GoodIn wsX4_get wsX4_isBelow := goodIn_r _ [6] (by decide +kernel) (by decide +kernel)
set_option maxRecDepth 20000 in
theorem gX4_get_X4_isBelow : GoodIn wsX4_get (va_wsS RX4 31 yX4_isBelow wsX4_isBelow) := goodIn_app (goodIn_of _ (by decide +kernel)) ggX4_get_X4_isBelow
set_option maxRecDepth 20000 in
theorem ggX4_get_X4_failureOfItem : GoodIn wsX4_get wsX4_failureOfItem := goodIn_r _ [10, 1, 2, 11, 12, 13, 5, 14, 15, 16, 17, 18, 19, 20, 3, 4, 6, 26, 27, 28, 29, 30, 31] (by decide +kernel) (by decide +kernel)
set_option maxRecDepth 20000 in
theorem gX4_get_X4_failureOfItem : GoodIn wsX4_get (wsV RX4 48 RX4 yX4_failureOfItem wsX4_failureOfItem) := goodIn_app (goodIn_of _ (by decide +kernel)) ggX4_get_X4_failureOfItem
set_option maxRecDepth 20000 in
theorem ggX4_get_X4_tell : GoodIn wsX4_get wsX4_tell := goodIn_r _ [24, 25, 26, 27, 28, 29] (by decide +kernel) (by decide +kernel)
set_option maxRecDepth 20000 in
theorem gX4_get_X4_tell : GoodIn wsX4_get (wsV RX4 60 RX4 yX4_tell wsX4_tell) := goodIn_app (goodIn_of _ (by decide +kernel)) ggX4_get_X4_tell
theorem dX4_get_0 : decode cX4_get 0 = .ok (.iload_n 1, 1) := by decide +kernel
theorem dX4_get_1 : decode cX4_get 1 = .ok (.bipush 8, 2) := by decide +kernel
theorem dX4_get_3 : decode cX4_get 3 = .ok (.invokestatic 31, 3) := by decide +kernel
theorem dX4_get_6 : decode cX4_get 6 = .ok (.ifCond .ne 5, 3) := by decide +kernel
theorem dX4_get_9 : decode cX4_get 9 = .ok (.iconst (-1), 1) := by decide +kernel
theorem dX4_get_10 : decode cX4_get 10 = .ok (.ireturn, 1) := by decide +kernel
theorem dX4_get_11 : decode cX4_get 11 = .ok (.aload_n 0, 1) := by decide +kernel
theorem dX4_get_12 : decode cX4_get 12 = .ok (.iload_n 1, 1) := by decide +kernel
theorem dX4_get_13 : decode cX4_get 13 = .ok (.iload_n 2, 1) := by decide +kernel
theorem dX4_get_14 : decode cX4_get 14 = .ok (.iload_n 3, 1) := by decide +kernel
theorem dX4_get_15 : decode cX4_get 15 = .ok (.invokevirtual 48, 3) := by decide +kernel
theorem dX4_get_18 : decode cX4_get 18 = .ok (.istore 4, 2) := by decide +kernel
theorem dX4_get_20 : decode cX4_get 20 = .ok (.iload 4, 2) := by decide +kernel
theorem dX4_get_22 : decode cX4_get 22 = .ok (.ifCond .eq 6, 3) := by decide +kernel
theorem dX4_get_25 : decode cX4_get 25 = .ok (.iload 4, 2) := by decide +kernel
theorem dX4_get_27 : decode cX4_get 27 = .ok (.ireturn, 1) := by decide +kernel
theorem dX4_get_28 : decode cX4_get 28 = .ok (.aload_n 0, 1) := by decide +kernel
theorem dX4_get_29 : decode cX4_get 29 = .ok (.aload_n 0, 1) := by decide +kernel
theorem dX4_get_30 : decode cX4_get 30 = .ok (.getfield 11, 3) := by decide +kernel
theorem dX4_get_33 : decode cX4_get 33 = .ok (.iload_n 1, 1) := by decide +kernel
theorem dX4_get_34 : decode cX4_get 34 = .ok (.aaload, 1) := by decide +kernel
theorem dX4_get_35 : decode cX4_get 35 = .ok (.getfield 52, 3) := by decide +kernel
theorem dX4_get_38 : decode cX4_get 38 = .ok (.iload_n 3, 1) := by decide +kernel
theorem dX4_get_39 : decode cX4_get 39 = .ok (.laload, 1) := by decide +kernel
theorem dX4_get_40 : decode cX4_get 40 = .ok (.invokevirtual 60, 3) := by decide +kernel
theorem dX4_get_43 : decode cX4_get 43 = .ok (.ireturn, 1) := by decide +kernel
set_option maxRecDepth 20000 in
theorem ggX4_rest_X4_isBelow : GoodIn wsX4_rest wsX4_isBelow := goodIn_r _ [6] (by decide +kernel) (by decide +kernel)
set_option maxRecDepth 20000 in
theorem gX4_rest_X4_isBelow : GoodIn wsX4_rest (va_wsS RX4 31 yX4_isBelow wsX4_isBelow) := goodIn_app (goodIn_of _ (by decide +kernel)) ggX4_rest_X4_isBelow
set_option maxRecDepth 20000 in
theorem ggX4_rest_X4_failureOfItem : GoodIn wsX4_rest wsX4_failureOfItem := goodIn_r _ [10, 1, 2, 11, 12, 13, 5, 14, 15, 16, 17, 18, 19, 20, 3, 4, 6, 84, 85, 86, 87, 88, 89] (by decide +kernel) (by decide +kernel)
set_option maxRecDepth 20000 in
theorem gX4_rest_X4_failureOfItem : GoodIn wsX4_rest (wsV RX4 48 RX4 yX4_failureOfItem wsX4_failureOfItem) := goodIn_app (goodIn_of _ (by decide +kernel)) ggX4_rest_X4_failureOfItem
set_option maxRecDepth 20000 in
theorem ggX4_rest_X4_widthOf : GoodIn wsX4_rest wsX4_widthOf := goodIn_r _ [18, 19, 20] (by decide +kernel) (by decide +kernel)
set_option maxRecDepth 20000 in
theorem gX4_rest_X4_widthOf : GoodIn wsX4_rest (va_wsS RX4 35 yX4_widthOf wsX4_widthOf) := goodIn_app (goodIn_of _ (by decide +kernel)) ggX4_rest_X4_widthOf
set_option maxRecDepth 20000 in
theorem ggX4_rest_X3_isZero : GoodIn wsX4_rest wsX3_isZero := goodIn_r _ [25, 26, 27, 28, 24, 29, 30] (by decide +kernel) (by decide +kernel)
set_option maxRecDepth 20000 in
theorem gX4_rest_X3_isZero : GoodIn wsX4_rest (wsV RX4 64 RX3 yX3_isZero wsX3_isZero) := goodIn_app (goodIn_of _ (by decide +kernel)) ggX4_rest_X3_isZero
set_option maxRecDepth 20000 in
theorem ggX4_rest_X3_isEndless : GoodIn wsX4_rest wsX3_isEndless := goodIn_r _ [34, 35, 26, 27, 28, 24, 29, 30] (by decide +kernel) (by decide +kernel)
set_option maxRecDepth 20000 in
theorem gX4_rest_X3_isEndless : GoodIn wsX4_rest (wsV RX4 67 RX3 yX3_isEndless wsX3_isEndless) := goodIn_app (goodIn_of _ (by decide +kernel)) ggX4_rest_X3_isEndless
set_option maxRecDepth 20000 in
theorem ggX4_rest_X3_remainder : GoodIn wsX4_rest wsX3_remainder := goodIn_r _ [39, 40, 41, 42, 43, 44, 45, 46, 24, 47, 48, 49, 50, 51, 52, 30, 26, 27, 28, 29, 53, 54, 55, 56, 57, 58, 59, 60, 61, 62, 63, 64, 65, 66, 67, 68, 35, 69, 70, 71, 72, 73, 74, 75, 76, 77, 78] (by decide +kernel) (by decide +kernel)
set_option maxRecDepth 20000 in
theorem gX4_rest_X3_remainder : GoodIn wsX4_rest (wsV RX4 70 RX3 yX3_remainder wsX3_remainder) := goodIn_app (goodIn_of _ (by decide +kernel)) ggX4_rest_X3_remainder
set_option maxRecDepth 20000 in
theorem ggX4_rest_X4_tell : GoodIn wsX4_rest wsX4_tell := goodIn_r _ [82, 83, 84, 85, 86, 87] (by decide +kernel) (by decide +kernel)
set_option maxRecDepth 20000 in
theorem gX4_rest_X4_tell : GoodIn wsX4_rest (wsV RX4 60 RX4 yX4_tell wsX4_tell) := goodIn_app (goodIn_of _ (by decide +kernel)) ggX4_rest_X4_tell
theorem dX4_rest_0 : decode cX4_rest 0 = .ok (.iload_n 1, 1) := by decide +kernel
theorem dX4_rest_1 : decode cX4_rest 1 = .ok (.bipush 8, 2) := by decide +kernel
theorem dX4_rest_3 : decode cX4_rest 3 = .ok (.invokestatic 31, 3) := by decide +kernel
theorem dX4_rest_6 : decode cX4_rest 6 = .ok (.ifCond .ne 5, 3) := by decide +kernel
theorem dX4_rest_9 : decode cX4_rest 9 = .ok (.iconst (-1), 1) := by decide +kernel
theorem dX4_rest_10 : decode cX4_rest 10 = .ok (.ireturn, 1) := by decide +kernel
theorem dX4_rest_11 : decode cX4_rest 11 = .ok (.aload_n 0, 1) := by decide +kernel
theorem dX4_rest_12 : decode cX4_rest 12 = .ok (.iload_n 1, 1) := by decide +kernel
theorem dX4_rest_13 : decode cX4_rest 13 = .ok (.iload_n 2, 1) := by decide +kernel
theorem dX4_rest_14 : decode cX4_rest 14 = .ok (.iload_n 3, 1) := by decide +kernel
theorem dX4_rest_15 : decode cX4_rest 15 = .ok (.invokevirtual 48, 3) := by decide +kernel
theorem dX4_rest_18 : decode cX4_rest 18 = .ok (.istore 5, 2) := by decide +kernel
theorem dX4_rest_20 : decode cX4_rest 20 = .ok (.iload 5, 2) := by decide +kernel
theorem dX4_rest_22 : decode cX4_rest 22 = .ok (.ifCond .ne 13, 3) := by decide +kernel
theorem dX4_rest_25 : decode cX4_rest 25 = .ok (.aload_n 0, 1) := by decide +kernel
theorem dX4_rest_26 : decode cX4_rest 26 = .ok (.iload_n 1, 1) := by decide +kernel
theorem dX4_rest_27 : decode cX4_rest 27 = .ok (.iload_n 2, 1) := by decide +kernel
theorem dX4_rest_28 : decode cX4_rest 28 = .ok (.iload 4, 2) := by decide +kernel
theorem dX4_rest_30 : decode cX4_rest 30 = .ok (.invokevirtual 48, 3) := by decide +kernel
theorem dX4_rest_33 : decode cX4_rest 33 = .ok (.istore 5, 2) := by decide +kernel
theorem dX4_rest_35 : decode cX4_rest 35 = .ok (.iload 5, 2) := by decide +kernel
theorem dX4_rest_37 : decode cX4_rest 37 = .ok (.ifCond .eq 6, 3) := by decide +kernel
theorem dX4_rest_40 : decode cX4_rest 40 = .ok (.iload 5, 2) := by decide +kernel
theorem dX4_rest_42 : decode cX4_rest 42 = .ok (.ireturn, 1) := by decide +kernel
theorem dX4_rest_43 : decode cX4_rest 43 = .ok (.iload_n 2, 1) := by decide +kernel
theorem dX4_rest_44 : decode cX4_rest 44 = .ok (.invokestatic 35, 3) := by decide +kernel
theorem dX4_rest_47 : decode cX4_rest 47 = .ok (.astore 6, 2) := by decide +kernel
theorem dX4_rest_49 : decode cX4_rest 49 = .ok (.aload_n 0, 1) := by decide +kernel
theorem dX4_rest_50 : decode cX4_rest 50 = .ok (.getfield 11, 3) := by decide +kernel
theorem dX4_rest_53 : decode cX4_rest 53 = .ok (.iload_n 1, 1) := by decide +kernel
theorem dX4_rest_54 : decode cX4_rest 54 = .ok (.aaload, 1) := by decide +kernel
theorem dX4_rest_55 : decode cX4_rest 55 = .ok (.getfield 52, 3) := by decide +kernel
theorem dX4_rest_58 : decode cX4_rest 58 = .ok (.iload_n 3, 1) := by decide +kernel
theorem dX4_rest_59 : decode cX4_rest 59 = .ok (.laload, 1) := by decide +kernel
theorem dX4_rest_60 : decode cX4_rest 60 = .ok (.lstore 7, 2) := by decide +kernel
theorem dX4_rest_62 : decode cX4_rest 62 = .ok (.aload_n 0, 1) := by decide +kernel
theorem dX4_rest_63 : decode cX4_rest 63 = .ok (.getfield 11, 3) := by decide +kernel
theorem dX4_rest_66 : decode cX4_rest 66 = .ok (.iload_n 1, 1) := by decide +kernel
theorem dX4_rest_67 : decode cX4_rest 67 = .ok (.aaload, 1) := by decide +kernel
theorem dX4_rest_68 : decode cX4_rest 68 = .ok (.getfield 52, 3) := by decide +kernel
theorem dX4_rest_71 : decode cX4_rest 71 = .ok (.iload 4, 2) := by decide +kernel
theorem dX4_rest_73 : decode cX4_rest 73 = .ok (.laload, 1) := by decide +kernel
theorem dX4_rest_74 : decode cX4_rest 74 = .ok (.lstore 9, 2) := by decide +kernel
theorem dX4_rest_76 : decode cX4_rest 76 = .ok (.aload 6, 2) := by decide +kernel
theorem dX4_rest_78 : decode cX4_rest 78 = .ok (.lload 9, 2) := by decide +kernel
theorem dX4_rest_80 : decode cX4_rest 80 = .ok (.invokevirtual 64, 3) := by decide +kernel
theorem dX4_rest_83 : decode cX4_rest 83 = .ok (.ifCond .ne 13, 3) := by decide +kernel
theorem dX4_rest_86 : decode cX4_rest 86 = .ok (.aload 6, 2) := by decide +kernel
theorem dX4_rest_88 : decode cX4_rest 88 = .ok (.lload 7, 2) := by decide +kernel
theorem dX4_rest_90 : decode cX4_rest 90 = .ok (.invokevirtual 67, 3) := by decide +kernel
theorem dX4_rest_93 : decode cX4_rest 93 = .ok (.ifCond .eq 6, 3) := by decide +kernel
theorem dX4_rest_96 : decode cX4_rest 96 = .ok (.bipush (-14), 2) := by decide +kernel
theorem dX4_rest_98 : decode cX4_rest 98 = .ok (.ireturn, 1) := by decide +kernel
theorem dX4_rest_99 : decode cX4_rest 99 = .ok (.aload_n 0, 1) := by decide +kernel
theorem dX4_rest_100 : decode cX4_rest 100 = .ok (.aload 6, 2) := by decide +kernel
theorem dX4_rest_102 : decode cX4_rest 102 = .ok (.lload 7, 2) := by decide +kernel
theorem dX4_rest_104 : decode cX4_rest 104 = .ok (.lload 9, 2) := by decide +kernel
theorem dX4_rest_106 : decode cX4_rest 106 = .ok (.invokevirtual 70, 3) := by decide +kernel
theorem dX4_rest_109 : decode cX4_rest 109 = .ok (.invokevirtual 60, 3) := by decide +kernel
theorem dX4_rest_112 : decode cX4_rest 112 = .ok (.ireturn, 1) := by decide +kernel
set_option maxRecDepth 20000 in
theorem ggX4_turn_X4_isBelow : GoodIn wsX4_turn wsX4_isBelow := goodIn_r _ [6] (by decide +kernel) (by decide +kernel)
set_option maxRecDepth 20000 in
theorem gX4_turn_X4_isBelow : GoodIn wsX4_turn (va_wsS RX4 31 yX4_isBelow wsX4_isBelow) := goodIn_app (goodIn_of _ (by decide +kernel)) ggX4_turn_X4_isBelow
set_option maxRecDepth 20000 in
theorem ggX4_turn_X4_failureOfItem : GoodIn wsX4_turn wsX4_failureOfItem := goodIn_r _ [10, 1, 2, 11, 12, 13, 5, 14, 15, 16, 17, 18, 19, 20, 3, 4, 6, 99, 100, 101, 102, 103, 104] (by decide +kernel) (by decide +kernel)
set_option maxRecDepth 20000 in
theorem gX4_turn_X4_failureOfItem : GoodIn wsX4_turn (wsV RX4 48 RX4 yX4_failureOfItem wsX4_failureOfItem) := goodIn_app (goodIn_of _ (by decide +kernel)) ggX4_turn_X4_failureOfItem
set_option maxRecDepth 20000 in
theorem ggX4_turn_X4_widthOf : GoodIn wsX4_turn wsX4_widthOf := goodIn_r _ [18, 19, 20] (by decide +kernel) (by decide +kernel)
set_option maxRecDepth 20000 in
theorem gX4_turn_X4_widthOf : GoodIn wsX4_turn (va_wsS RX4 35 yX4_widthOf wsX4_widthOf) := goodIn_app (goodIn_of _ (by decide +kernel)) ggX4_turn_X4_widthOf
set_option maxRecDepth 20000 in
theorem ggX4_turn_X4_turned : GoodIn wsX4_turn wsX4_turned := goodIn_r _ [23, 20, 19, 24, 25, 26, 27, 28, 29, 30, 31, 32, 33, 34, 35, 36, 37, 38, 39, 40, 41, 42, 43, 44, 45, 46, 47, 48, 49, 50, 51, 52, 53, 54, 55, 56, 57, 58, 59, 60, 61, 62, 63, 64, 65, 66, 67, 68, 69, 70, 71, 72, 73, 74, 75, 76, 77, 78, 79, 80, 81, 82, 83, 84, 85, 86, 87, 88, 89, 90, 91, 92, 93] (by decide +kernel) (by decide +kernel)
set_option maxRecDepth 20000 in
theorem gX4_turn_X4_turned : GoodIn wsX4_turn (va_wsS RX4 74 yX4_turned wsX4_turned) := goodIn_app (goodIn_of _ (by decide +kernel)) ggX4_turn_X4_turned
set_option maxRecDepth 20000 in
theorem ggX4_turn_X4_tell : GoodIn wsX4_turn wsX4_tell := goodIn_r _ [97, 98, 99, 100, 101, 102] (by decide +kernel) (by decide +kernel)
set_option maxRecDepth 20000 in
theorem gX4_turn_X4_tell : GoodIn wsX4_turn (wsV RX4 60 RX4 yX4_tell wsX4_tell) := goodIn_app (goodIn_of _ (by decide +kernel)) ggX4_turn_X4_tell
theorem dX4_turn_0 : decode cX4_turn 0 = .ok (.iload_n 1, 1) := by decide +kernel
theorem dX4_turn_1 : decode cX4_turn 1 = .ok (.bipush 8, 2) := by decide +kernel
theorem dX4_turn_3 : decode cX4_turn 3 = .ok (.invokestatic 31, 3) := by decide +kernel
theorem dX4_turn_6 : decode cX4_turn 6 = .ok (.ifCond .eq 13, 3) := by decide +kernel
theorem dX4_turn_9 : decode cX4_turn 9 = .ok (.iload 4, 2) := by decide +kernel
theorem dX4_turn_11 : decode cX4_turn 11 = .ok (.bipush 7, 2) := by decide +kernel
theorem dX4_turn_13 : decode cX4_turn 13 = .ok (.invokestatic 31, 3) := by decide +kernel
theorem dX4_turn_16 : decode cX4_turn 16 = .ok (.ifCond .ne 5, 3) := by decide +kernel
theorem dX4_turn_19 : decode cX4_turn 19 = .ok (.iconst (-1), 1) := by decide +kernel
theorem dX4_turn_20 : decode cX4_turn 20 = .ok (.ireturn, 1) := by decide +kernel
theorem dX4_turn_21 : decode cX4_turn 21 = .ok (.aload_n 0, 1) := by decide +kernel
theorem dX4_turn_22 : decode cX4_turn 22 = .ok (.iload_n 1, 1) := by decide +kernel
theorem dX4_turn_23 : decode cX4_turn 23 = .ok (.iload_n 2, 1) := by decide +kernel
theorem dX4_turn_24 : decode cX4_turn 24 = .ok (.iload_n 3, 1) := by decide +kernel
theorem dX4_turn_25 : decode cX4_turn 25 = .ok (.invokevirtual 48, 3) := by decide +kernel
theorem dX4_turn_28 : decode cX4_turn 28 = .ok (.istore 5, 2) := by decide +kernel
theorem dX4_turn_30 : decode cX4_turn 30 = .ok (.iload 5, 2) := by decide +kernel
theorem dX4_turn_32 : decode cX4_turn 32 = .ok (.ifCond .eq 6, 3) := by decide +kernel
theorem dX4_turn_35 : decode cX4_turn 35 = .ok (.iload 5, 2) := by decide +kernel
theorem dX4_turn_37 : decode cX4_turn 37 = .ok (.ireturn, 1) := by decide +kernel
theorem dX4_turn_38 : decode cX4_turn 38 = .ok (.aload_n 0, 1) := by decide +kernel
theorem dX4_turn_39 : decode cX4_turn 39 = .ok (.iload_n 2, 1) := by decide +kernel
theorem dX4_turn_40 : decode cX4_turn 40 = .ok (.invokestatic 35, 3) := by decide +kernel
theorem dX4_turn_43 : decode cX4_turn 43 = .ok (.aload_n 0, 1) := by decide +kernel
theorem dX4_turn_44 : decode cX4_turn 44 = .ok (.getfield 11, 3) := by decide +kernel
theorem dX4_turn_47 : decode cX4_turn 47 = .ok (.iload_n 1, 1) := by decide +kernel
theorem dX4_turn_48 : decode cX4_turn 48 = .ok (.aaload, 1) := by decide +kernel
theorem dX4_turn_49 : decode cX4_turn 49 = .ok (.getfield 52, 3) := by decide +kernel
theorem dX4_turn_52 : decode cX4_turn 52 = .ok (.iload_n 3, 1) := by decide +kernel
theorem dX4_turn_53 : decode cX4_turn 53 = .ok (.laload, 1) := by decide +kernel
theorem dX4_turn_54 : decode cX4_turn 54 = .ok (.iload 4, 2) := by decide +kernel
theorem dX4_turn_56 : decode cX4_turn 56 = .ok (.invokestatic 74, 3) := by decide +kernel
theorem dX4_turn_59 : decode cX4_turn 59 = .ok (.invokevirtual 60, 3) := by decide +kernel
theorem dX4_turn_62 : decode cX4_turn 62 = .ok (.ireturn, 1) := by decide +kernel
set_option maxRecDepth 20000 in
theorem ggX4_tide_X4_isBelow : GoodIn wsX4_tide wsX4_isBelow := goodIn_r _ [6] (by decide +kernel) (by decide +kernel)
set_option maxRecDepth 20000 in
theorem gX4_tide_X4_isBelow : GoodIn wsX4_tide (va_wsS RX4 31 yX4_isBelow wsX4_isBelow) := goodIn_app (goodIn_of _ (by decide +kernel)) ggX4_tide_X4_isBelow
set_option maxRecDepth 20000 in
theorem ggX4_tide_X4_failureOfItem : GoodIn wsX4_tide wsX4_failureOfItem := goodIn_r _ [10, 1, 2, 11, 12, 13, 5, 14, 15, 16, 17, 18, 19, 20, 3, 4, 6, 96, 97, 98, 99, 100, 101] (by decide +kernel) (by decide +kernel)
set_option maxRecDepth 20000 in
theorem gX4_tide_X4_failureOfItem : GoodIn wsX4_tide (wsV RX4 48 RX4 yX4_failureOfItem wsX4_failureOfItem) := goodIn_app (goodIn_of _ (by decide +kernel)) ggX4_tide_X4_failureOfItem
set_option maxRecDepth 20000 in
theorem ggX4_tide_X4_widthOf : GoodIn wsX4_tide wsX4_widthOf := goodIn_r _ [18, 19, 20] (by decide +kernel) (by decide +kernel)
set_option maxRecDepth 20000 in
theorem gX4_tide_X4_widthOf : GoodIn wsX4_tide (va_wsS RX4 35 yX4_widthOf wsX4_widthOf) := goodIn_app (goodIn_of _ (by decide +kernel)) ggX4_tide_X4_widthOf
set_option maxRecDepth 20000 in
theorem ggX4_tide_X3_nearestEighths : GoodIn wsX4_tide wsX3_nearestEighths := goodIn_r _ [25, 26, 27, 28, 24, 29, 30, 31, 32, 33, 34, 35, 36, 37, 38, 39, 40, 41, 42, 43, 44, 45, 46, 47] (by decide +kernel) (by decide +kernel)
set_option maxRecDepth 20000 in
theorem gX4_tide_X3_nearestEighths : GoodIn wsX4_tide (wsV RX4 78 RX3 yX3_nearestEighths wsX3_nearestEighths) := goodIn_app (goodIn_of _ (by decide +kernel)) ggX4_tide_X3_nearestEighths
set_option maxRecDepth 20000 in
theorem ggX4_tide_X3_added : GoodIn wsX4_tide wsX3_added := goodIn_r _ [51, 52, 53, 54, 24, 55, 36, 56, 57, 58, 59, 41, 60, 61, 62, 63, 31, 32, 33, 34, 35, 64, 65, 66, 67, 30, 68, 69, 70, 71, 72, 73, 74, 75, 76, 77, 78, 26, 27, 28, 29, 37, 38, 39, 40, 42, 43, 44, 45, 46, 47] (by decide +kernel) (by decide +kernel)
set_option maxRecDepth 20000 in
theorem gX4_tide_X3_added : GoodIn wsX4_tide (wsV RX4 82 RX3 yX3_added wsX3_added) := goodIn_app (goodIn_of _ (by decide +kernel)) ggX4_tide_X3_added
set_option maxRecDepth 20000 in
theorem ggX4_tide_X3_isZero : GoodIn wsX4_tide wsX3_isZero := goodIn_r _ [82, 56, 57, 58, 24, 59, 41] (by decide +kernel) (by decide +kernel)
set_option maxRecDepth 20000 in
theorem gX4_tide_X3_isZero : GoodIn wsX4_tide (wsV RX4 64 RX3 yX3_isZero wsX3_isZero) := goodIn_app (goodIn_of _ (by decide +kernel)) ggX4_tide_X3_isZero
set_option maxRecDepth 20000 in
theorem ggX4_tide_X3_isEndless : GoodIn wsX4_tide wsX3_isEndless := goodIn_r _ [55, 36, 56, 57, 58, 24, 59, 41] (by decide +kernel) (by decide +kernel)
set_option maxRecDepth 20000 in
theorem gX4_tide_X3_isEndless : GoodIn wsX4_tide (wsV RX4 67 RX3 yX3_isEndless wsX3_isEndless) := goodIn_app (goodIn_of _ (by decide +kernel)) ggX4_tide_X3_isEndless
set_option maxRecDepth 20000 in
theorem ggX4_tide_X3_remainder : GoodIn wsX4_tide wsX3_remainder := goodIn_r _ [87, 88, 89, 34, 90, 68, 69, 70, 24, 71, 30, 64, 65, 66, 67, 41, 56, 57, 58, 59, 60, 61, 62, 63, 31, 32, 33, 35, 75, 76, 77, 78, 26, 27, 28, 29, 36, 37, 38, 39, 40, 42, 43, 44, 45, 46, 47] (by decide +kernel) (by decide +kernel)
set_option maxRecDepth 20000 in
theorem gX4_tide_X3_remainder : GoodIn wsX4_tide (wsV RX4 70 RX3 yX3_remainder wsX3_remainder) := goodIn_app (goodIn_of _ (by decide +kernel)) ggX4_tide_X3_remainder
set_option maxRecDepth 20000 in
theorem ggX4_tide_X4_tell : GoodIn wsX4_tide wsX4_tell := goodIn_r _ [94, 95, 96, 97, 98, 99] (by decide +kernel) (by decide +kernel)
set_option maxRecDepth 20000 in
theorem gX4_tide_X4_tell : GoodIn wsX4_tide (wsV RX4 60 RX4 yX4_tell wsX4_tell) := goodIn_app (goodIn_of _ (by decide +kernel)) ggX4_tide_X4_tell
theorem dX4_tide_0 : decode cX4_tide 0 = .ok (.iload_n 1, 1) := by decide +kernel
theorem dX4_tide_1 : decode cX4_tide 1 = .ok (.bipush 8, 2) := by decide +kernel
theorem dX4_tide_3 : decode cX4_tide 3 = .ok (.invokestatic 31, 3) := by decide +kernel
theorem dX4_tide_6 : decode cX4_tide 6 = .ok (.ifCond .ne 5, 3) := by decide +kernel
theorem dX4_tide_9 : decode cX4_tide 9 = .ok (.iconst (-1), 1) := by decide +kernel
theorem dX4_tide_10 : decode cX4_tide 10 = .ok (.ireturn, 1) := by decide +kernel
theorem dX4_tide_11 : decode cX4_tide 11 = .ok (.aload_n 0, 1) := by decide +kernel
theorem dX4_tide_12 : decode cX4_tide 12 = .ok (.iload_n 1, 1) := by decide +kernel
theorem dX4_tide_13 : decode cX4_tide 13 = .ok (.iload_n 2, 1) := by decide +kernel
theorem dX4_tide_14 : decode cX4_tide 14 = .ok (.iload_n 3, 1) := by decide +kernel
theorem dX4_tide_15 : decode cX4_tide 15 = .ok (.invokevirtual 48, 3) := by decide +kernel
theorem dX4_tide_18 : decode cX4_tide 18 = .ok (.istore 5, 2) := by decide +kernel
theorem dX4_tide_20 : decode cX4_tide 20 = .ok (.iload 5, 2) := by decide +kernel
theorem dX4_tide_22 : decode cX4_tide 22 = .ok (.ifCond .eq 6, 3) := by decide +kernel
theorem dX4_tide_25 : decode cX4_tide 25 = .ok (.iload 5, 2) := by decide +kernel
theorem dX4_tide_27 : decode cX4_tide 27 = .ok (.ireturn, 1) := by decide +kernel
theorem dX4_tide_28 : decode cX4_tide 28 = .ok (.iload_n 2, 1) := by decide +kernel
theorem dX4_tide_29 : decode cX4_tide 29 = .ok (.invokestatic 35, 3) := by decide +kernel
theorem dX4_tide_32 : decode cX4_tide 32 = .ok (.astore 6, 2) := by decide +kernel
theorem dX4_tide_34 : decode cX4_tide 34 = .ok (.aload_n 0, 1) := by decide +kernel
theorem dX4_tide_35 : decode cX4_tide 35 = .ok (.getfield 11, 3) := by decide +kernel
theorem dX4_tide_38 : decode cX4_tide 38 = .ok (.iload_n 1, 1) := by decide +kernel
theorem dX4_tide_39 : decode cX4_tide 39 = .ok (.aaload, 1) := by decide +kernel
theorem dX4_tide_40 : decode cX4_tide 40 = .ok (.getfield 52, 3) := by decide +kernel
theorem dX4_tide_43 : decode cX4_tide 43 = .ok (.astore 7, 2) := by decide +kernel
theorem dX4_tide_45 : decode cX4_tide 45 = .ok (.aload 7, 2) := by decide +kernel
theorem dX4_tide_47 : decode cX4_tide 47 = .ok (.iconst 0, 1) := by decide +kernel
theorem dX4_tide_48 : decode cX4_tide 48 = .ok (.laload, 1) := by decide +kernel
theorem dX4_tide_49 : decode cX4_tide 49 = .ok (.lstore 8, 2) := by decide +kernel
theorem dX4_tide_51 : decode cX4_tide 51 = .ok (.aload 6, 2) := by decide +kernel
theorem dX4_tide_53 : decode cX4_tide 53 = .ok (.aload 7, 2) := by decide +kernel
theorem dX4_tide_55 : decode cX4_tide 55 = .ok (.iload_n 3, 1) := by decide +kernel
theorem dX4_tide_56 : decode cX4_tide 56 = .ok (.laload, 1) := by decide +kernel
theorem dX4_tide_57 : decode cX4_tide 57 = .ok (.aload 6, 2) := by decide +kernel
theorem dX4_tide_59 : decode cX4_tide 59 = .ok (.iload 4, 2) := by decide +kernel
theorem dX4_tide_61 : decode cX4_tide 61 = .ok (.invokevirtual 78, 3) := by decide +kernel
theorem dX4_tide_64 : decode cX4_tide 64 = .ok (.invokevirtual 82, 3) := by decide +kernel
theorem dX4_tide_67 : decode cX4_tide 67 = .ok (.lstore 10, 2) := by decide +kernel
theorem dX4_tide_69 : decode cX4_tide 69 = .ok (.aload 6, 2) := by decide +kernel
theorem dX4_tide_71 : decode cX4_tide 71 = .ok (.lload 8, 2) := by decide +kernel
theorem dX4_tide_73 : decode cX4_tide 73 = .ok (.invokevirtual 64, 3) := by decide +kernel
theorem dX4_tide_76 : decode cX4_tide 76 = .ok (.ifCond .ne 24, 3) := by decide +kernel
theorem dX4_tide_79 : decode cX4_tide 79 = .ok (.aload 6, 2) := by decide +kernel
theorem dX4_tide_81 : decode cX4_tide 81 = .ok (.lload 10, 2) := by decide +kernel
theorem dX4_tide_83 : decode cX4_tide 83 = .ok (.invokevirtual 67, 3) := by decide +kernel
theorem dX4_tide_86 : decode cX4_tide 86 = .ok (.ifCond .ne 14, 3) := by decide +kernel
theorem dX4_tide_89 : decode cX4_tide 89 = .ok (.aload 6, 2) := by decide +kernel
theorem dX4_tide_91 : decode cX4_tide 91 = .ok (.lload 10, 2) := by decide +kernel
theorem dX4_tide_93 : decode cX4_tide 93 = .ok (.lload 8, 2) := by decide +kernel
theorem dX4_tide_95 : decode cX4_tide 95 = .ok (.invokevirtual 70, 3) := by decide +kernel
theorem dX4_tide_98 : decode cX4_tide 98 = .ok (.lstore 10, 2) := by decide +kernel
theorem dX4_tide_100 : decode cX4_tide 100 = .ok (.aload 7, 2) := by decide +kernel
theorem dX4_tide_102 : decode cX4_tide 102 = .ok (.iload_n 3, 1) := by decide +kernel
theorem dX4_tide_103 : decode cX4_tide 103 = .ok (.lload 10, 2) := by decide +kernel
theorem dX4_tide_105 : decode cX4_tide 105 = .ok (.lastore, 1) := by decide +kernel
theorem dX4_tide_106 : decode cX4_tide 106 = .ok (.aload_n 0, 1) := by decide +kernel
theorem dX4_tide_107 : decode cX4_tide 107 = .ok (.lload 10, 2) := by decide +kernel
theorem dX4_tide_109 : decode cX4_tide 109 = .ok (.invokevirtual 60, 3) := by decide +kernel
theorem dX4_tide_112 : decode cX4_tide 112 = .ok (.ireturn, 1) := by decide +kernel
set_option maxRecDepth 20000 in
theorem ggX4_sum_X4_isBelow : GoodIn wsX4_sum wsX4_isBelow := goodIn_r _ [6] (by decide +kernel) (by decide +kernel)
set_option maxRecDepth 20000 in
theorem gX4_sum_X4_isBelow : GoodIn wsX4_sum (va_wsS RX4 31 yX4_isBelow wsX4_isBelow) := goodIn_app (goodIn_of _ (by decide +kernel)) ggX4_sum_X4_isBelow
set_option maxRecDepth 20000 in
theorem ggX4_sum_X4_failureOfRow : GoodIn wsX4_sum wsX4_failureOfRow := goodIn_r _ [10, 1, 11, 12, 13, 5, 14, 15, 16, 80, 81, 82, 83, 84, 85] (by decide +kernel) (by decide +kernel)
set_option maxRecDepth 20000 in
theorem gX4_sum_X4_failureOfRow : GoodIn wsX4_sum (wsV RX4 85 RX4 yX4_failureOfRow wsX4_failureOfRow) := goodIn_app (goodIn_of _ (by decide +kernel)) ggX4_sum_X4_failureOfRow
set_option maxRecDepth 20000 in
theorem ggX4_sum_X4_widthOf : GoodIn wsX4_sum wsX4_widthOf := goodIn_r _ [14, 15, 16] (by decide +kernel) (by decide +kernel)
set_option maxRecDepth 20000 in
theorem gX4_sum_X4_widthOf : GoodIn wsX4_sum (va_wsS RX4 35 yX4_widthOf wsX4_widthOf) := goodIn_app (goodIn_of _ (by decide +kernel)) ggX4_sum_X4_widthOf
set_option maxRecDepth 20000 in
theorem ggX4_sum_X3_areUnlikeEndless : GoodIn wsX4_sum wsX3_areUnlikeEndless := goodIn_r _ [21, 22, 23, 24, 20, 25, 26, 27, 28, 29, 30, 31, 32, 33, 34, 35] (by decide +kernel) (by decide +kernel)
set_option maxRecDepth 20000 in
theorem gX4_sum_X3_areUnlikeEndless : GoodIn wsX4_sum (wsV RX4 89 RX3 yX3_areUnlikeEndless wsX3_areUnlikeEndless) := goodIn_app (goodIn_of _ (by decide +kernel)) ggX4_sum_X3_areUnlikeEndless
set_option maxRecDepth 20000 in
theorem ggX4_sum_X3_added : GoodIn wsX4_sum wsX3_added := goodIn_r _ [39, 22, 23, 24, 20, 25, 26, 27, 28, 29, 30, 31, 40, 41, 42, 43, 44, 45, 46, 47, 48, 49, 50, 51, 52, 53, 54, 55, 56, 57, 58, 59, 60, 32, 33, 34, 35, 61, 62, 63, 64, 65, 66, 67, 68, 69, 70, 71, 72, 73, 74] (by decide +kernel) (by decide +kernel)
set_option maxRecDepth 20000 in
theorem gX4_sum_X3_added : GoodIn wsX4_sum (wsV RX4 82 RX3 yX3_added wsX3_added) := goodIn_app (goodIn_of _ (by decide +kernel)) ggX4_sum_X3_added
set_option maxRecDepth 20000 in
theorem ggX4_sum_X4_tell : GoodIn wsX4_sum wsX4_tell := goodIn_r _ [78, 79, 80, 81, 82, 83] (by decide +kernel) (by decide +kernel)
set_option maxRecDepth 20000 in
theorem gX4_sum_X4_tell : GoodIn wsX4_sum (wsV RX4 60 RX4 yX4_tell wsX4_tell) := goodIn_app (goodIn_of _ (by decide +kernel)) ggX4_sum_X4_tell
theorem dX4_sum_0 : decode cX4_sum 0 = .ok (.iload_n 1, 1) := by decide +kernel
theorem dX4_sum_1 : decode cX4_sum 1 = .ok (.bipush 8, 2) := by decide +kernel
theorem dX4_sum_3 : decode cX4_sum 3 = .ok (.invokestatic 31, 3) := by decide +kernel
theorem dX4_sum_6 : decode cX4_sum 6 = .ok (.ifCond .eq 8, 3) := by decide +kernel
theorem dX4_sum_9 : decode cX4_sum 9 = .ok (.iload 4, 2) := by decide +kernel
theorem dX4_sum_11 : decode cX4_sum 11 = .ok (.ifCond .ge 5, 3) := by decide +kernel
theorem dX4_sum_14 : decode cX4_sum 14 = .ok (.iconst (-1), 1) := by decide +kernel
theorem dX4_sum_15 : decode cX4_sum 15 = .ok (.ireturn, 1) := by decide +kernel
theorem dX4_sum_16 : decode cX4_sum 16 = .ok (.aload_n 0, 1) := by decide +kernel
theorem dX4_sum_17 : decode cX4_sum 17 = .ok (.iload_n 1, 1) := by decide +kernel
theorem dX4_sum_18 : decode cX4_sum 18 = .ok (.iload_n 2, 1) := by decide +kernel
theorem dX4_sum_19 : decode cX4_sum 19 = .ok (.invokevirtual 85, 3) := by decide +kernel
theorem dX4_sum_22 : decode cX4_sum 22 = .ok (.istore 5, 2) := by decide +kernel
theorem dX4_sum_24 : decode cX4_sum 24 = .ok (.iload 5, 2) := by decide +kernel
theorem dX4_sum_26 : decode cX4_sum 26 = .ok (.ifCond .eq 6, 3) := by decide +kernel
theorem dX4_sum_29 : decode cX4_sum 29 = .ok (.iload 5, 2) := by decide +kernel
theorem dX4_sum_31 : decode cX4_sum 31 = .ok (.ireturn, 1) := by decide +kernel
theorem dX4_sum_32 : decode cX4_sum 32 = .ok (.iload_n 2, 1) := by decide +kernel
theorem dX4_sum_33 : decode cX4_sum 33 = .ok (.invokestatic 35, 3) := by decide +kernel
theorem dX4_sum_36 : decode cX4_sum 36 = .ok (.astore 6, 2) := by decide +kernel
theorem dX4_sum_38 : decode cX4_sum 38 = .ok (.aload_n 0, 1) := by decide +kernel
theorem dX4_sum_39 : decode cX4_sum 39 = .ok (.getfield 11, 3) := by decide +kernel
theorem dX4_sum_42 : decode cX4_sum 42 = .ok (.iload_n 1, 1) := by decide +kernel
theorem dX4_sum_43 : decode cX4_sum 43 = .ok (.aaload, 1) := by decide +kernel
theorem dX4_sum_44 : decode cX4_sum 44 = .ok (.getfield 52, 3) := by decide +kernel
theorem dX4_sum_47 : decode cX4_sum 47 = .ok (.astore 7, 2) := by decide +kernel
theorem dX4_sum_49 : decode cX4_sum 49 = .ok (.lconst 0, 1) := by decide +kernel
theorem dX4_sum_50 : decode cX4_sum 50 = .ok (.lstore 8, 2) := by decide +kernel
theorem dX4_sum_52 : decode cX4_sum 52 = .ok (.iconst 0, 1) := by decide +kernel
theorem dX4_sum_53 : decode cX4_sum 53 = .ok (.istore 10, 2) := by decide +kernel
theorem dX4_sum_55 : decode cX4_sum 55 = .ok (.iload 10, 2) := by decide +kernel
theorem dX4_sum_57 : decode cX4_sum 57 = .ok (.iload 4, 2) := by decide +kernel
theorem dX4_sum_59 : decode cX4_sum 59 = .ok (.if_icmp .ge 61, 3) := by decide +kernel
theorem dX4_sum_62 : decode cX4_sum 62 = .ok (.iload_n 3, 1) := by decide +kernel
theorem dX4_sum_63 : decode cX4_sum 63 = .ok (.iload 10, 2) := by decide +kernel
theorem dX4_sum_65 : decode cX4_sum 65 = .ok (.iadd, 1) := by decide +kernel
theorem dX4_sum_66 : decode cX4_sum 66 = .ok (.istore 11, 2) := by decide +kernel
theorem dX4_sum_68 : decode cX4_sum 68 = .ok (.iload 11, 2) := by decide +kernel
theorem dX4_sum_70 : decode cX4_sum 70 = .ok (.aload 7, 2) := by decide +kernel
theorem dX4_sum_72 : decode cX4_sum 72 = .ok (.arraylength, 1) := by decide +kernel
theorem dX4_sum_73 : decode cX4_sum 73 = .ok (.invokestatic 31, 3) := by decide +kernel
theorem dX4_sum_76 : decode cX4_sum 76 = .ok (.ifCond .ne 6, 3) := by decide +kernel
theorem dX4_sum_79 : decode cX4_sum 79 = .ok (.bipush (-12), 2) := by decide +kernel
theorem dX4_sum_81 : decode cX4_sum 81 = .ok (.ireturn, 1) := by decide +kernel
theorem dX4_sum_82 : decode cX4_sum 82 = .ok (.aload 6, 2) := by decide +kernel
theorem dX4_sum_84 : decode cX4_sum 84 = .ok (.lload 8, 2) := by decide +kernel
theorem dX4_sum_86 : decode cX4_sum 86 = .ok (.aload 7, 2) := by decide +kernel
theorem dX4_sum_88 : decode cX4_sum 88 = .ok (.iload 11, 2) := by decide +kernel
theorem dX4_sum_90 : decode cX4_sum 90 = .ok (.laload, 1) := by decide +kernel
theorem dX4_sum_91 : decode cX4_sum 91 = .ok (.invokevirtual 89, 3) := by decide +kernel
theorem dX4_sum_94 : decode cX4_sum 94 = .ok (.ifCond .eq 6, 3) := by decide +kernel
theorem dX4_sum_97 : decode cX4_sum 97 = .ok (.bipush (-14), 2) := by decide +kernel
theorem dX4_sum_99 : decode cX4_sum 99 = .ok (.ireturn, 1) := by decide +kernel
theorem dX4_sum_100 : decode cX4_sum 100 = .ok (.aload 6, 2) := by decide +kernel
theorem dX4_sum_102 : decode cX4_sum 102 = .ok (.lload 8, 2) := by decide +kernel
theorem dX4_sum_104 : decode cX4_sum 104 = .ok (.aload 7, 2) := by decide +kernel
theorem dX4_sum_106 : decode cX4_sum 106 = .ok (.iload 11, 2) := by decide +kernel
theorem dX4_sum_108 : decode cX4_sum 108 = .ok (.laload, 1) := by decide +kernel
theorem dX4_sum_109 : decode cX4_sum 109 = .ok (.invokevirtual 82, 3) := by decide +kernel
theorem dX4_sum_112 : decode cX4_sum 112 = .ok (.lstore 8, 2) := by decide +kernel
theorem dX4_sum_114 : decode cX4_sum 114 = .ok (.iinc 10 1, 3) := by decide +kernel
theorem dX4_sum_117 : decode cX4_sum 117 = .ok (.goto (-62), 3) := by decide +kernel
theorem dX4_sum_120 : decode cX4_sum 120 = .ok (.aload_n 0, 1) := by decide +kernel
theorem dX4_sum_121 : decode cX4_sum 121 = .ok (.lload 8, 2) := by decide +kernel
theorem dX4_sum_123 : decode cX4_sum 123 = .ok (.invokevirtual 60, 3) := by decide +kernel
theorem dX4_sum_126 : decode cX4_sum 126 = .ok (.ireturn, 1) := by decide +kernel
set_option maxRecDepth 20000 in
theorem ggX4_round_X3_nearestWhole : GoodIn wsX4_round wsX3_nearestWhole := goodIn_r _ [7, 8, 9, 10, 6, 11, 12, 13, 14, 15, 16, 17, 18, 19, 20, 21, 22, 23, 24, 25, 26, 27, 28, 29] (by decide +kernel) (by decide +kernel)
set_option maxRecDepth 20000 in
theorem gX4_round_X3_nearestWhole : GoodIn wsX4_round (wsV RX4 97 RX3 yX3_nearestWhole wsX3_nearestWhole) := goodIn_app (goodIn_of _ (by decide +kernel)) ggX4_round_X3_nearestWhole
set_option maxRecDepth 20000 in
theorem ggX4_round_X3_cutToLong : GoodIn wsX4_round wsX3_cutToLong := goodIn_r _ [33, 34, 35, 36, 37, 38, 6, 39, 12, 40, 41, 42, 43, 23, 44, 45, 46, 47, 13, 14, 15, 16, 17, 24, 25, 26, 48, 49, 50, 51] (by decide +kernel) (by decide +kernel)
set_option maxRecDepth 20000 in
theorem gX4_round_X3_cutToLong : GoodIn wsX4_round (wsV RX4 100 RX3 yX3_cutToLong wsX3_cutToLong) := goodIn_app (goodIn_of _ (by decide +kernel)) ggX4_round_X3_cutToLong
set_option maxRecDepth 20000 in
theorem ggX4_round_X3_nearestOf : GoodIn wsX4_round wsX3_nearestOf := goodIn_r _ [55, 18, 56, 57, 58, 6, 59, 60, 61, 62, 63, 23, 48, 49, 50, 51, 19, 20, 21, 22, 36, 37, 38, 39, 12, 40, 41, 42, 43, 44, 45, 46, 47, 13, 14, 15, 16, 17, 8, 9, 10, 11, 24, 25, 26, 27, 28, 29] (by decide +kernel) (by decide +kernel)
set_option maxRecDepth 20000 in
theorem gX4_round_X3_nearestOf : GoodIn wsX4_round (wsV RX4 106 RX3 yX3_nearestOf wsX3_nearestOf) := goodIn_app (goodIn_of _ (by decide +kernel)) ggX4_round_X3_nearestOf
set_option maxRecDepth 20000 in
theorem ggX4_round_X3_cutToInt : GoodIn wsX4_round wsX3_cutToInt := goodIn_r _ [67, 68, 69, 70, 71, 16, 72, 73, 74, 75, 76, 31, 32, 6, 33, 34, 35, 36, 37, 38, 39, 12, 40, 41, 42, 43, 23, 44, 45, 46, 47, 13, 14, 15, 17, 24, 25, 26, 48, 49, 50, 51] (by decide +kernel) (by decide +kernel)
set_option maxRecDepth 20000 in
theorem gX4_round_X3_cutToInt : GoodIn wsX4_round (wsV RX4 110 RX3 yX3_cutToInt wsX3_cutToInt) := goodIn_app (goodIn_of _ (by decide +kernel)) ggX4_round_X3_cutToInt
theorem dX4_round_0 : decode cX4_round 0 = .ok (.iload_n 3, 1) := by decide +kernel
theorem dX4_round_1 : decode cX4_round 1 = .ok (.tableswitch 115 0 5 #[39, 47, 61, 69, 83, 100], 39) := by decide +kernel
theorem dX4_round_40 : decode cX4_round 40 = .ok (.getstatic 93, 3) := by decide +kernel
theorem dX4_round_43 : decode cX4_round 43 = .ok (.lload_n 1, 1) := by decide +kernel
theorem dX4_round_44 : decode cX4_round 44 = .ok (.invokevirtual 97, 3) := by decide +kernel
theorem dX4_round_47 : decode cX4_round 47 = .ok (.lreturn, 1) := by decide +kernel
theorem dX4_round_48 : decode cX4_round 48 = .ok (.getstatic 93, 3) := by decide +kernel
theorem dX4_round_51 : decode cX4_round 51 = .ok (.getstatic 93, 3) := by decide +kernel
theorem dX4_round_54 : decode cX4_round 54 = .ok (.lload_n 1, 1) := by decide +kernel
theorem dX4_round_55 : decode cX4_round 55 = .ok (.invokevirtual 97, 3) := by decide +kernel
theorem dX4_round_58 : decode cX4_round 58 = .ok (.invokevirtual 100, 3) := by decide +kernel
theorem dX4_round_61 : decode cX4_round 61 = .ok (.lreturn, 1) := by decide +kernel
theorem dX4_round_62 : decode cX4_round 62 = .ok (.getstatic 103, 3) := by decide +kernel
theorem dX4_round_65 : decode cX4_round 65 = .ok (.lload_n 1, 1) := by decide +kernel
theorem dX4_round_66 : decode cX4_round 66 = .ok (.invokevirtual 97, 3) := by decide +kernel
theorem dX4_round_69 : decode cX4_round 69 = .ok (.lreturn, 1) := by decide +kernel
theorem dX4_round_70 : decode cX4_round 70 = .ok (.getstatic 103, 3) := by decide +kernel
theorem dX4_round_73 : decode cX4_round 73 = .ok (.getstatic 103, 3) := by decide +kernel
theorem dX4_round_76 : decode cX4_round 76 = .ok (.lload_n 1, 1) := by decide +kernel
theorem dX4_round_77 : decode cX4_round 77 = .ok (.invokevirtual 97, 3) := by decide +kernel
theorem dX4_round_80 : decode cX4_round 80 = .ok (.invokevirtual 100, 3) := by decide +kernel
theorem dX4_round_83 : decode cX4_round 83 = .ok (.lreturn, 1) := by decide +kernel
theorem dX4_round_84 : decode cX4_round 84 = .ok (.getstatic 93, 3) := by decide +kernel
theorem dX4_round_87 : decode cX4_round 87 = .ok (.getstatic 103, 3) := by decide +kernel
theorem dX4_round_90 : decode cX4_round 90 = .ok (.getstatic 103, 3) := by decide +kernel
theorem dX4_round_93 : decode cX4_round 93 = .ok (.lload_n 1, 1) := by decide +kernel
theorem dX4_round_94 : decode cX4_round 94 = .ok (.invokevirtual 97, 3) := by decide +kernel
theorem dX4_round_97 : decode cX4_round 97 = .ok (.invokevirtual 106, 3) := by decide +kernel
theorem dX4_round_100 : decode cX4_round 100 = .ok (.lreturn, 1) := by decide +kernel
theorem dX4_round_101 : decode cX4_round 101 = .ok (.getstatic 93, 3) := by decide +kernel
theorem dX4_round_104 : decode cX4_round 104 = .ok (.getstatic 93, 3) := by decide +kernel
theorem dX4_round_107 : decode cX4_round 107 = .ok (.lload_n 1, 1) := by decide +kernel
theorem dX4_round_108 : decode cX4_round 108 = .ok (.invokevirtual 97, 3) := by decide +kernel
theorem dX4_round_111 : decode cX4_round 111 = .ok (.invokevirtual 110, 3) := by decide +kernel
theorem dX4_round_114 : decode cX4_round 114 = .ok (.i2l, 1) := by decide +kernel
theorem dX4_round_115 : decode cX4_round 115 = .ok (.lreturn, 1) := by decide +kernel
theorem dX4_round_116 : decode cX4_round 116 = .ok (.lload_n 1, 1) := by decide +kernel
theorem dX4_round_117 : decode cX4_round 117 = .ok (.lreturn, 1) := by decide +kernel
set_option maxRecDepth 20000 in
theorem ggX4_gauge_X4_isBelow : GoodIn wsX4_gauge wsX4_isBelow := goodIn_r _ [8] (by decide +kernel) (by decide +kernel)
set_option maxRecDepth 20000 in
theorem gX4_gauge_X4_isBelow : GoodIn wsX4_gauge (va_wsS RX4 31 yX4_isBelow wsX4_isBelow) := goodIn_app (goodIn_of _ (by decide +kernel)) ggX4_gauge_X4_isBelow
set_option maxRecDepth 20000 in
theorem ggX4_gauge_X4_isSpan : GoodIn wsX4_gauge wsX4_isSpan := goodIn_r _ [11, 12, 13, 14, 15, 16, 17, 18, 19, 20, 21, 22, 23, 24, 25, 26, 27, 28, 29, 30, 31] (by decide +kernel) (by decide +kernel)
set_option maxRecDepth 20000 in
theorem gX4_gauge_X4_isSpan : GoodIn wsX4_gauge (va_wsS RX4 113 yX4_isSpan wsX4_isSpan) := goodIn_app (goodIn_of _ (by decide +kernel)) ggX4_gauge_X4_isSpan
set_option maxRecDepth 20000 in
theorem ggX4_gauge_X0_init : GoodIn wsX4_gauge wsX0_init := goodIn_r _ [34, 35, 36, 37, 38, 39, 44, 45] (by decide +kernel) (by decide +kernel)
set_option maxRecDepth 20000 in
theorem gX4_gauge_X0_init : GoodIn wsX4_gauge (wsX0_init) := ggX4_gauge_X0_init
theorem dX4_gauge_0 : decode cX4_gauge 0 = .ok (.iload_n 1, 1) := by decide +kernel
theorem dX4_gauge_1 : decode cX4_gauge 1 = .ok (.bipush 6, 2) := by decide +kernel
theorem dX4_gauge_3 : decode cX4_gauge 3 = .ok (.invokestatic 31, 3) := by decide +kernel
theorem dX4_gauge_6 : decode cX4_gauge 6 = .ok (.ifCond .eq 18, 3) := by decide +kernel
theorem dX4_gauge_9 : decode cX4_gauge 9 = .ok (.iload_n 2, 1) := by decide +kernel
theorem dX4_gauge_10 : decode cX4_gauge 10 = .ok (.iconst 3, 1) := by decide +kernel
theorem dX4_gauge_11 : decode cX4_gauge 11 = .ok (.invokestatic 31, 3) := by decide +kernel
theorem dX4_gauge_14 : decode cX4_gauge 14 = .ok (.ifCond .eq 10, 3) := by decide +kernel
theorem dX4_gauge_17 : decode cX4_gauge 17 = .ok (.lload_n 3, 1) := by decide +kernel
theorem dX4_gauge_18 : decode cX4_gauge 18 = .ok (.invokestatic 113, 3) := by decide +kernel
theorem dX4_gauge_21 : decode cX4_gauge 21 = .ok (.ifCond .ne 5, 3) := by decide +kernel
theorem dX4_gauge_24 : decode cX4_gauge 24 = .ok (.iconst (-1), 1) := by decide +kernel
theorem dX4_gauge_25 : decode cX4_gauge 25 = .ok (.ireturn, 1) := by decide +kernel
theorem dX4_gauge_26 : decode cX4_gauge 26 = .ok (.aload_n 0, 1) := by decide +kernel
theorem dX4_gauge_27 : decode cX4_gauge 27 = .ok (.getfield 17, 3) := by decide +kernel
theorem dX4_gauge_30 : decode cX4_gauge 30 = .ok (.iload_n 1, 1) := by decide +kernel
theorem dX4_gauge_31 : decode cX4_gauge 31 = .ok (.new 15, 3) := by decide +kernel
theorem dX4_gauge_34 : decode cX4_gauge 34 = .ok (.dup, 1) := by decide +kernel
theorem dX4_gauge_35 : decode cX4_gauge 35 = .ok (.iload_n 2, 1) := by decide +kernel
theorem dX4_gauge_36 : decode cX4_gauge 36 = .ok (.lload_n 3, 1) := by decide +kernel
theorem dX4_gauge_37 : decode cX4_gauge 37 = .ok (.invokespecial 116, 3) := by decide +kernel
theorem dX4_gauge_40 : decode cX4_gauge 40 = .ok (.aastore, 1) := by decide +kernel
theorem dX4_gauge_41 : decode cX4_gauge 41 = .ok (.iconst 1, 1) := by decide +kernel
theorem dX4_gauge_42 : decode cX4_gauge 42 = .ok (.ireturn, 1) := by decide +kernel
set_option maxRecDepth 20000 in
theorem ggX4_read_X4_isBelow : GoodIn wsX4_read wsX4_isBelow := goodIn_r _ [6] (by decide +kernel) (by decide +kernel)
set_option maxRecDepth 20000 in
theorem gX4_read_X4_isBelow : GoodIn wsX4_read (va_wsS RX4 31 yX4_isBelow wsX4_isBelow) := goodIn_app (goodIn_of _ (by decide +kernel)) ggX4_read_X4_isBelow
set_option maxRecDepth 20000 in
theorem ggX4_read_X3_isNumber : GoodIn wsX4_read wsX3_isNumber := goodIn_r _ [11, 12, 13, 14, 15, 10, 16, 17] (by decide +kernel) (by decide +kernel)
set_option maxRecDepth 20000 in
theorem gX4_read_X3_isNumber : GoodIn wsX4_read (wsV RX4 42 RX3 yX3_isNumber wsX3_isNumber) := goodIn_app (goodIn_of _ (by decide +kernel)) ggX4_read_X3_isNumber
set_option maxRecDepth 20000 in
theorem ggX4_read_X0_hasNumberFor : GoodIn wsX4_read wsX0_hasNumberFor := goodIn_r _ [22, 23, 24, 25, 26, 27, 10, 28, 12, 13, 14, 15, 16, 17, 128, 129] (by decide +kernel) (by decide +kernel)
set_option maxRecDepth 20000 in
theorem gX4_read_X0_hasNumberFor : GoodIn wsX4_read (wsV RX4 119 RX0 yX0_hasNumberFor wsX0_hasNumberFor) := goodIn_app (goodIn_of _ (by decide +kernel)) ggX4_read_X0_hasNumberFor
set_option maxRecDepth 20000 in
theorem ggX4_read_X0_tellsAsFloat : GoodIn wsX4_read wsX0_tellsAsFloat := goodIn_r _ [32, 23, 33, 24, 34, 35, 36, 10, 37, 12, 38, 26, 27, 28, 13, 14, 15, 16, 17, 39, 40, 41, 42, 43, 44, 45, 46, 47, 48, 49, 50, 51, 52, 53, 54, 55, 56, 57, 58, 59, 60, 61, 62, 63, 64, 65, 66, 67, 68, 69, 70, 71, 72, 73, 74, 75, 76, 77, 78, 79, 80, 81, 82, 83, 84, 85, 86, 87, 21, 88, 89, 90, 91, 92, 93, 94, 95, 96, 97, 98, 99, 100, 101, 102, 103, 104, 105, 106, 107, 108, 109, 110, 111, 112, 113, 114, 115, 116, 117, 128, 129] (by decide +kernel) (by decide +kernel)
set_option maxRecDepth 20000 in
theorem gX4_read_X0_tellsAsFloat : GoodIn wsX4_read (wsV RX4 122 RX0 yX0_tellsAsFloat wsX0_tellsAsFloat) := goodIn_app (goodIn_of _ (by decide +kernel)) ggX4_read_X0_tellsAsFloat
set_option maxRecDepth 20000 in
theorem ggX4_read_X0_tells : GoodIn wsX4_read wsX0_tells := goodIn_r _ [88, 23, 24, 89, 75, 76, 77, 10, 78, 79, 80, 47, 48, 49, 50, 51, 52, 53, 54, 55, 17, 56, 57, 58, 59, 60, 61, 62, 63, 64, 69, 70, 71, 39, 40, 41, 42, 81, 82, 83, 84, 65, 66, 67, 68, 12, 43, 44, 45, 46, 72, 73, 74, 90, 91, 92, 93, 94, 95, 96, 13, 14, 15, 16, 97, 98, 99, 100, 101, 102, 103, 104, 38, 26, 27, 28, 105, 106, 107, 108, 109, 110, 21, 111, 112, 113, 114, 115, 116, 117, 128, 129] (by decide +kernel) (by decide +kernel)
set_option maxRecDepth 20000 in
theorem gX4_read_X0_tells : GoodIn wsX4_read (wsV RX4 125 RX0 yX0_tells wsX0_tells) := goodIn_app (goodIn_of _ (by decide +kernel)) ggX4_read_X0_tells
set_option maxRecDepth 20000 in
theorem ggX4_read_X4_tell : GoodIn wsX4_read wsX4_tell := goodIn_r _ [122, 123, 124, 125, 126, 127] (by decide +kernel) (by decide +kernel)
set_option maxRecDepth 20000 in
theorem gX4_read_X4_tell : GoodIn wsX4_read (wsV RX4 60 RX4 yX4_tell wsX4_tell) := goodIn_app (goodIn_of _ (by decide +kernel)) ggX4_read_X4_tell
theorem dX4_read_0 : decode cX4_read 0 = .ok (.iload_n 1, 1) := by decide +kernel
theorem dX4_read_1 : decode cX4_read 1 = .ok (.bipush 6, 2) := by decide +kernel
theorem dX4_read_3 : decode cX4_read 3 = .ok (.invokestatic 31, 3) := by decide +kernel
theorem dX4_read_6 : decode cX4_read 6 = .ok (.ifCond .eq 13, 3) := by decide +kernel
theorem dX4_read_9 : decode cX4_read 9 = .ok (.getstatic 103, 3) := by decide +kernel
theorem dX4_read_12 : decode cX4_read 12 = .ok (.lload_n 2, 1) := by decide +kernel
theorem dX4_read_13 : decode cX4_read 13 = .ok (.invokevirtual 42, 3) := by decide +kernel
theorem dX4_read_16 : decode cX4_read 16 = .ok (.ifCond .ne 5, 3) := by decide +kernel
theorem dX4_read_19 : decode cX4_read 19 = .ok (.iconst (-1), 1) := by decide +kernel
theorem dX4_read_20 : decode cX4_read 20 = .ok (.ireturn, 1) := by decide +kernel
theorem dX4_read_21 : decode cX4_read 21 = .ok (.aload_n 0, 1) := by decide +kernel
theorem dX4_read_22 : decode cX4_read 22 = .ok (.getfield 17, 3) := by decide +kernel
theorem dX4_read_25 : decode cX4_read 25 = .ok (.iload_n 1, 1) := by decide +kernel
theorem dX4_read_26 : decode cX4_read 26 = .ok (.aaload, 1) := by decide +kernel
theorem dX4_read_27 : decode cX4_read 27 = .ok (.astore 5, 2) := by decide +kernel
theorem dX4_read_29 : decode cX4_read 29 = .ok (.aload 5, 2) := by decide +kernel
theorem dX4_read_31 : decode cX4_read 31 = .ok (.ifnonnull 6, 3) := by decide +kernel
theorem dX4_read_34 : decode cX4_read 34 = .ok (.bipush (-11), 2) := by decide +kernel
theorem dX4_read_36 : decode cX4_read 36 = .ok (.ireturn, 1) := by decide +kernel
theorem dX4_read_37 : decode cX4_read 37 = .ok (.aload 5, 2) := by decide +kernel
theorem dX4_read_39 : decode cX4_read 39 = .ok (.lload_n 2, 1) := by decide +kernel
theorem dX4_read_40 : decode cX4_read 40 = .ok (.invokevirtual 119, 3) := by decide +kernel
theorem dX4_read_43 : decode cX4_read 43 = .ok (.ifCond .ne 6, 3) := by decide +kernel
theorem dX4_read_46 : decode cX4_read 46 = .ok (.bipush (-14), 2) := by decide +kernel
theorem dX4_read_48 : decode cX4_read 48 = .ok (.ireturn, 1) := by decide +kernel
theorem dX4_read_49 : decode cX4_read 49 = .ok (.aload_n 0, 1) := by decide +kernel
theorem dX4_read_50 : decode cX4_read 50 = .ok (.iload 4, 2) := by decide +kernel
theorem dX4_read_52 : decode cX4_read 52 = .ok (.ifCond .eq 12, 3) := by decide +kernel
theorem dX4_read_55 : decode cX4_read 55 = .ok (.aload 5, 2) := by decide +kernel
theorem dX4_read_57 : decode cX4_read 57 = .ok (.lload_n 2, 1) := by decide +kernel
theorem dX4_read_58 : decode cX4_read 58 = .ok (.invokevirtual 122, 3) := by decide +kernel
theorem dX4_read_61 : decode cX4_read 61 = .ok (.goto 9, 3) := by decide +kernel
theorem dX4_read_64 : decode cX4_read 64 = .ok (.aload 5, 2) := by decide +kernel
theorem dX4_read_66 : decode cX4_read 66 = .ok (.lload_n 2, 1) := by decide +kernel
theorem dX4_read_67 : decode cX4_read 67 = .ok (.invokevirtual 125, 3) := by decide +kernel
theorem dX4_read_70 : decode cX4_read 70 = .ok (.invokevirtual 60, 3) := by decide +kernel
theorem dX4_read_73 : decode cX4_read 73 = .ok (.ireturn, 1) := by decide +kernel
set_option maxRecDepth 20000 in
theorem ggX4_rack_X4_isBelow : GoodIn wsX4_rack wsX4_isBelow := goodIn_r _ [8] (by decide +kernel) (by decide +kernel)
set_option maxRecDepth 20000 in
theorem gX4_rack_X4_isBelow : GoodIn wsX4_rack (va_wsS RX4 31 yX4_isBelow wsX4_isBelow) := goodIn_app (goodIn_of _ (by decide +kernel)) ggX4_rack_X4_isBelow
set_option maxRecDepth 20000 in
theorem ggX4_rack_X1_init : GoodIn wsX4_rack wsX1_init := goodIn_r _ [11, 12, 13, 14, 15, 16, 17, 22, 23] (by decide +kernel) (by decide +kernel)
set_option maxRecDepth 20000 in
theorem gX4_rack_X1_init : GoodIn wsX4_rack (wsX1_init) := ggX4_rack_X1_init
theorem dX4_rack_0 : decode cX4_rack 0 = .ok (.iload_n 1, 1) := by decide +kernel
theorem dX4_rack_1 : decode cX4_rack 1 = .ok (.iconst 3, 1) := by decide +kernel
theorem dX4_rack_2 : decode cX4_rack 2 = .ok (.invokestatic 31, 3) := by decide +kernel
theorem dX4_rack_5 : decode cX4_rack 5 = .ok (.ifCond .eq 11, 3) := by decide +kernel
theorem dX4_rack_8 : decode cX4_rack 8 = .ok (.iload_n 2, 1) := by decide +kernel
theorem dX4_rack_9 : decode cX4_rack 9 = .ok (.iconst 3, 1) := by decide +kernel
theorem dX4_rack_10 : decode cX4_rack 10 = .ok (.invokestatic 31, 3) := by decide +kernel
theorem dX4_rack_13 : decode cX4_rack 13 = .ok (.ifCond .ne 5, 3) := by decide +kernel
theorem dX4_rack_16 : decode cX4_rack 16 = .ok (.iconst (-1), 1) := by decide +kernel
theorem dX4_rack_17 : decode cX4_rack 17 = .ok (.ireturn, 1) := by decide +kernel
theorem dX4_rack_18 : decode cX4_rack 18 = .ok (.aload_n 0, 1) := by decide +kernel
theorem dX4_rack_19 : decode cX4_rack 19 = .ok (.getfield 23, 3) := by decide +kernel
theorem dX4_rack_22 : decode cX4_rack 22 = .ok (.iload_n 1, 1) := by decide +kernel
theorem dX4_rack_23 : decode cX4_rack 23 = .ok (.new 21, 3) := by decide +kernel
theorem dX4_rack_26 : decode cX4_rack 26 = .ok (.dup, 1) := by decide +kernel
theorem dX4_rack_27 : decode cX4_rack 27 = .ok (.iload_n 2, 1) := by decide +kernel
theorem dX4_rack_28 : decode cX4_rack 28 = .ok (.invokespecial 128, 3) := by decide +kernel
theorem dX4_rack_31 : decode cX4_rack 31 = .ok (.aastore, 1) := by decide +kernel
theorem dX4_rack_32 : decode cX4_rack 32 = .ok (.iconst 1, 1) := by decide +kernel
theorem dX4_rack_33 : decode cX4_rack 33 = .ok (.ireturn, 1) := by decide +kernel
set_option maxRecDepth 20000 in
theorem ggX4_hang_X4_isBelow : GoodIn wsX4_hang wsX4_isBelow := goodIn_r _ [8] (by decide +kernel) (by decide +kernel)
set_option maxRecDepth 20000 in
theorem gX4_hang_X4_isBelow : GoodIn wsX4_hang (va_wsS RX4 31 yX4_isBelow wsX4_isBelow) := goodIn_app (goodIn_of _ (by decide +kernel)) ggX4_hang_X4_isBelow
set_option maxRecDepth 20000 in
theorem ggX4_hang_X4_failureOfHook : GoodIn wsX4_hang wsX4_failureOfHook := goodIn_r _ [12, 2, 5, 6, 7, 8, 19, 20, 21, 22] (by decide +kernel) (by decide +kernel)
set_option maxRecDepth 20000 in
theorem gX4_hang_X4_failureOfHook : GoodIn wsX4_hang (wsV RX4 131 RX4 yX4_failureOfHook wsX4_failureOfHook) := goodIn_app (goodIn_of _ (by decide +kernel)) ggX4_hang_X4_failureOfHook
set_option maxRecDepth 20000 in
theorem ggX4_hang_X0_isOf : GoodIn wsX4_hang wsX0_isOf := goodIn_r _ [17, 18, 25, 26] (by decide +kernel) (by decide +kernel)
set_option maxRecDepth 20000 in
theorem gX4_hang_X0_isOf : GoodIn wsX4_hang (wsV RX4 139 RX0 yX0_isOf wsX0_isOf) := goodIn_app (goodIn_of _ (by decide +kernel)) ggX4_hang_X0_isOf
theorem dX4_hang_0 : decode cX4_hang 0 = .ok (.iload_n 1, 1) := by decide +kernel
theorem dX4_hang_1 : decode cX4_hang 1 = .ok (.iconst 3, 1) := by decide +kernel
theorem dX4_hang_2 : decode cX4_hang 2 = .ok (.invokestatic 31, 3) := by decide +kernel
theorem dX4_hang_5 : decode cX4_hang 5 = .ok (.ifCond .eq 12, 3) := by decide +kernel
theorem dX4_hang_8 : decode cX4_hang 8 = .ok (.iload_n 3, 1) := by decide +kernel
theorem dX4_hang_9 : decode cX4_hang 9 = .ok (.bipush 6, 2) := by decide +kernel
theorem dX4_hang_11 : decode cX4_hang 11 = .ok (.invokestatic 31, 3) := by decide +kernel
theorem dX4_hang_14 : decode cX4_hang 14 = .ok (.ifCond .ne 5, 3) := by decide +kernel
theorem dX4_hang_17 : decode cX4_hang 17 = .ok (.iconst (-1), 1) := by decide +kernel
theorem dX4_hang_18 : decode cX4_hang 18 = .ok (.ireturn, 1) := by decide +kernel
theorem dX4_hang_19 : decode cX4_hang 19 = .ok (.aload_n 0, 1) := by decide +kernel
theorem dX4_hang_20 : decode cX4_hang 20 = .ok (.iload_n 1, 1) := by decide +kernel
theorem dX4_hang_21 : decode cX4_hang 21 = .ok (.iload_n 2, 1) := by decide +kernel
theorem dX4_hang_22 : decode cX4_hang 22 = .ok (.invokevirtual 131, 3) := by decide +kernel
theorem dX4_hang_25 : decode cX4_hang 25 = .ok (.istore 4, 2) := by decide +kernel
theorem dX4_hang_27 : decode cX4_hang 27 = .ok (.iload 4, 2) := by decide +kernel
theorem dX4_hang_29 : decode cX4_hang 29 = .ok (.ifCond .eq 6, 3) := by decide +kernel
theorem dX4_hang_32 : decode cX4_hang 32 = .ok (.iload 4, 2) := by decide +kernel
theorem dX4_hang_34 : decode cX4_hang 34 = .ok (.ireturn, 1) := by decide +kernel
theorem dX4_hang_35 : decode cX4_hang 35 = .ok (.aload_n 0, 1) := by decide +kernel
theorem dX4_hang_36 : decode cX4_hang 36 = .ok (.getfield 17, 3) := by decide +kernel
theorem dX4_hang_39 : decode cX4_hang 39 = .ok (.iload_n 3, 1) := by decide +kernel
theorem dX4_hang_40 : decode cX4_hang 40 = .ok (.aaload, 1) := by decide +kernel
theorem dX4_hang_41 : decode cX4_hang 41 = .ok (.astore 5, 2) := by decide +kernel
theorem dX4_hang_43 : decode cX4_hang 43 = .ok (.aload 5, 2) := by decide +kernel
theorem dX4_hang_45 : decode cX4_hang 45 = .ok (.ifnull 23, 3) := by decide +kernel
theorem dX4_hang_48 : decode cX4_hang 48 = .ok (.aload 5, 2) := by decide +kernel
theorem dX4_hang_50 : decode cX4_hang 50 = .ok (.aload_n 0, 1) := by decide +kernel
theorem dX4_hang_51 : decode cX4_hang 51 = .ok (.getfield 23, 3) := by decide +kernel
theorem dX4_hang_54 : decode cX4_hang 54 = .ok (.iload_n 1, 1) := by decide +kernel
theorem dX4_hang_55 : decode cX4_hang 55 = .ok (.aaload, 1) := by decide +kernel
theorem dX4_hang_56 : decode cX4_hang 56 = .ok (.getfield 135, 3) := by decide +kernel
theorem dX4_hang_59 : decode cX4_hang 59 = .ok (.invokevirtual 139, 3) := by decide +kernel
theorem dX4_hang_62 : decode cX4_hang 62 = .ok (.ifCond .ne 6, 3) := by decide +kernel
theorem dX4_hang_65 : decode cX4_hang 65 = .ok (.bipush (-15), 2) := by decide +kernel
theorem dX4_hang_67 : decode cX4_hang 67 = .ok (.ireturn, 1) := by decide +kernel
theorem dX4_hang_68 : decode cX4_hang 68 = .ok (.aload_n 0, 1) := by decide +kernel
theorem dX4_hang_69 : decode cX4_hang 69 = .ok (.getfield 23, 3) := by decide +kernel
theorem dX4_hang_72 : decode cX4_hang 72 = .ok (.iload_n 1, 1) := by decide +kernel
theorem dX4_hang_73 : decode cX4_hang 73 = .ok (.aaload, 1) := by decide +kernel
theorem dX4_hang_74 : decode cX4_hang 74 = .ok (.getfield 143, 3) := by decide +kernel
theorem dX4_hang_77 : decode cX4_hang 77 = .ok (.iload_n 2, 1) := by decide +kernel
theorem dX4_hang_78 : decode cX4_hang 78 = .ok (.aload 5, 2) := by decide +kernel
theorem dX4_hang_80 : decode cX4_hang 80 = .ok (.aastore, 1) := by decide +kernel
theorem dX4_hang_81 : decode cX4_hang 81 = .ok (.iconst 1, 1) := by decide +kernel
theorem dX4_hang_82 : decode cX4_hang 82 = .ok (.ireturn, 1) := by decide +kernel
set_option maxRecDepth 20000 in
theorem ggX4_take_X4_isBelow : GoodIn wsX4_take wsX4_isBelow := goodIn_r _ [7] (by decide +kernel) (by decide +kernel)
set_option maxRecDepth 20000 in
theorem gX4_take_X4_isBelow : GoodIn wsX4_take (va_wsS RX4 31 yX4_isBelow wsX4_isBelow) := goodIn_app (goodIn_of _ (by decide +kernel)) ggX4_take_X4_isBelow
set_option maxRecDepth 20000 in
theorem ggX4_take_X4_failureOfHook : GoodIn wsX4_take wsX4_failureOfHook := goodIn_r _ [11, 1, 4, 5, 6, 7, 18, 19, 20, 21] (by decide +kernel) (by decide +kernel)
set_option maxRecDepth 20000 in
theorem gX4_take_X4_failureOfHook : GoodIn wsX4_take (wsV RX4 131 RX4 yX4_failureOfHook wsX4_failureOfHook) := goodIn_app (goodIn_of _ (by decide +kernel)) ggX4_take_X4_failureOfHook
set_option maxRecDepth 20000 in
theorem ggX4_take_X0_isOf : GoodIn wsX4_take wsX0_isOf := goodIn_r _ [16, 17, 24, 25] (by decide +kernel) (by decide +kernel)
set_option maxRecDepth 20000 in
theorem gX4_take_X0_isOf : GoodIn wsX4_take (wsV RX4 139 RX0 yX0_isOf wsX0_isOf) := goodIn_app (goodIn_of _ (by decide +kernel)) ggX4_take_X0_isOf
theorem dX4_take_0 : decode cX4_take 0 = .ok (.iload_n 1, 1) := by decide +kernel
theorem dX4_take_1 : decode cX4_take 1 = .ok (.iconst 3, 1) := by decide +kernel
theorem dX4_take_2 : decode cX4_take 2 = .ok (.invokestatic 31, 3) := by decide +kernel
theorem dX4_take_5 : decode cX4_take 5 = .ok (.ifCond .eq 21, 3) := by decide +kernel
theorem dX4_take_8 : decode cX4_take 8 = .ok (.iload_n 3, 1) := by decide +kernel
theorem dX4_take_9 : decode cX4_take 9 = .ok (.iconst 3, 1) := by decide +kernel
theorem dX4_take_10 : decode cX4_take 10 = .ok (.invokestatic 31, 3) := by decide +kernel
theorem dX4_take_13 : decode cX4_take 13 = .ok (.ifCond .eq 13, 3) := by decide +kernel
theorem dX4_take_16 : decode cX4_take 16 = .ok (.iload 4, 2) := by decide +kernel
theorem dX4_take_18 : decode cX4_take 18 = .ok (.bipush 6, 2) := by decide +kernel
theorem dX4_take_20 : decode cX4_take 20 = .ok (.invokestatic 31, 3) := by decide +kernel
theorem dX4_take_23 : decode cX4_take 23 = .ok (.ifCond .ne 5, 3) := by decide +kernel
theorem dX4_take_26 : decode cX4_take 26 = .ok (.iconst (-1), 1) := by decide +kernel
theorem dX4_take_27 : decode cX4_take 27 = .ok (.ireturn, 1) := by decide +kernel
theorem dX4_take_28 : decode cX4_take 28 = .ok (.aload_n 0, 1) := by decide +kernel
theorem dX4_take_29 : decode cX4_take 29 = .ok (.iload_n 1, 1) := by decide +kernel
theorem dX4_take_30 : decode cX4_take 30 = .ok (.iload_n 2, 1) := by decide +kernel
theorem dX4_take_31 : decode cX4_take 31 = .ok (.invokevirtual 131, 3) := by decide +kernel
theorem dX4_take_34 : decode cX4_take 34 = .ok (.istore 5, 2) := by decide +kernel
theorem dX4_take_36 : decode cX4_take 36 = .ok (.iload 5, 2) := by decide +kernel
theorem dX4_take_38 : decode cX4_take 38 = .ok (.ifCond .eq 6, 3) := by decide +kernel
theorem dX4_take_41 : decode cX4_take 41 = .ok (.iload 5, 2) := by decide +kernel
theorem dX4_take_43 : decode cX4_take 43 = .ok (.ireturn, 1) := by decide +kernel
theorem dX4_take_44 : decode cX4_take 44 = .ok (.aload_n 0, 1) := by decide +kernel
theorem dX4_take_45 : decode cX4_take 45 = .ok (.getfield 23, 3) := by decide +kernel
theorem dX4_take_48 : decode cX4_take 48 = .ok (.iload_n 1, 1) := by decide +kernel
theorem dX4_take_49 : decode cX4_take 49 = .ok (.aaload, 1) := by decide +kernel
theorem dX4_take_50 : decode cX4_take 50 = .ok (.getfield 143, 3) := by decide +kernel
theorem dX4_take_53 : decode cX4_take 53 = .ok (.iload_n 2, 1) := by decide +kernel
theorem dX4_take_54 : decode cX4_take 54 = .ok (.aaload, 1) := by decide +kernel
theorem dX4_take_55 : decode cX4_take 55 = .ok (.astore 6, 2) := by decide +kernel
theorem dX4_take_57 : decode cX4_take 57 = .ok (.aload 6, 2) := by decide +kernel
theorem dX4_take_59 : decode cX4_take 59 = .ok (.ifnull 15, 3) := by decide +kernel
theorem dX4_take_62 : decode cX4_take 62 = .ok (.aload 6, 2) := by decide +kernel
theorem dX4_take_64 : decode cX4_take 64 = .ok (.iload_n 3, 1) := by decide +kernel
theorem dX4_take_65 : decode cX4_take 65 = .ok (.invokevirtual 139, 3) := by decide +kernel
theorem dX4_take_68 : decode cX4_take 68 = .ok (.ifCond .ne 6, 3) := by decide +kernel
theorem dX4_take_71 : decode cX4_take 71 = .ok (.bipush (-13), 2) := by decide +kernel
theorem dX4_take_73 : decode cX4_take 73 = .ok (.ireturn, 1) := by decide +kernel
theorem dX4_take_74 : decode cX4_take 74 = .ok (.aload_n 0, 1) := by decide +kernel
theorem dX4_take_75 : decode cX4_take 75 = .ok (.getfield 17, 3) := by decide +kernel
theorem dX4_take_78 : decode cX4_take 78 = .ok (.iload 4, 2) := by decide +kernel
theorem dX4_take_80 : decode cX4_take 80 = .ok (.aload 6, 2) := by decide +kernel
theorem dX4_take_82 : decode cX4_take 82 = .ok (.aastore, 1) := by decide +kernel
theorem dX4_take_83 : decode cX4_take 83 = .ok (.aload 6, 2) := by decide +kernel
theorem dX4_take_85 : decode cX4_take 85 = .ok (.ifnonnull 7, 3) := by decide +kernel
theorem dX4_take_88 : decode cX4_take 88 = .ok (.iconst 0, 1) := by decide +kernel
theorem dX4_take_89 : decode cX4_take 89 = .ok (.goto 4, 3) := by decide +kernel
theorem dX4_take_92 : decode cX4_take 92 = .ok (.iconst 1, 1) := by decide +kernel
theorem dX4_take_93 : decode cX4_take 93 = .ok (.ireturn, 1) := by decide +kernel
theorem dX4_told_0 : decode cX4_told 0 = .ok (.aload_n 0, 1) := by decide +kernel
theorem dX4_told_1 : decode cX4_told 1 = .ok (.getfield 27, 3) := by decide +kernel
theorem dX4_told_4 : decode cX4_told 4 = .ok (.lreturn, 1) := by decide +kernel
set_option maxRecDepth 20000 in
theorem ggX4_count_X4_rowsThere : GoodIn wsX4_count wsX4_rowsThere := goodIn_r _ [5, 6, 30, 31, 32, 33] (by decide +kernel) (by decide +kernel)
set_option maxRecDepth 20000 in
theorem gX4_count_X4_rowsThere : GoodIn wsX4_count (wsV RX4 146 RX4 yX4_rowsThere wsX4_rowsThere) := goodIn_app (goodIn_of _ (by decide +kernel)) ggX4_count_X4_rowsThere
set_option maxRecDepth 20000 in
theorem ggX4_count_X4_gaugesThere : GoodIn wsX4_count wsX4_gaugesThere := goodIn_r _ [10, 11, 30, 31, 32, 33] (by decide +kernel) (by decide +kernel)
set_option maxRecDepth 20000 in
theorem gX4_count_X4_gaugesThere : GoodIn wsX4_count (wsV RX4 150 RX4 yX4_gaugesThere wsX4_gaugesThere) := goodIn_app (goodIn_of _ (by decide +kernel)) ggX4_count_X4_gaugesThere
set_option maxRecDepth 20000 in
theorem ggX4_count_X4_racksThere : GoodIn wsX4_count wsX4_racksThere := goodIn_r _ [15, 16, 30, 31, 32, 33] (by decide +kernel) (by decide +kernel)
set_option maxRecDepth 20000 in
theorem gX4_count_X4_racksThere : GoodIn wsX4_count (wsV RX4 153 RX4 yX4_racksThere wsX4_racksThere) := goodIn_app (goodIn_of _ (by decide +kernel)) ggX4_count_X4_racksThere
