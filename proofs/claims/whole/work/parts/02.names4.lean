set_option maxRecDepth 20000 in
theorem ggX4_count_X4_itemsAt : GoodIn wsX4_count wsX4_itemsAt := goodIn_r _ [20, 6, 21, 22, 23, 4, 24, 30, 31, 32, 33, 34, 35] (by decide +kernel) (by decide +kernel)
set_option maxRecDepth 20000 in
theorem gX4_count_X4_itemsAt : GoodIn wsX4_count (wsV RX4 156 RX4 yX4_itemsAt wsX4_itemsAt) := goodIn_app (goodIn_of _ (by decide +kernel)) ggX4_count_X4_itemsAt
set_option maxRecDepth 20000 in
theorem ggX4_count_X4_kindAt : GoodIn wsX4_count wsX4_kindAt := goodIn_r _ [28, 11, 29, 22, 23, 4, 24, 30, 31, 32, 33, 36, 37] (by decide +kernel) (by decide +kernel)
set_option maxRecDepth 20000 in
theorem gX4_count_X4_kindAt : GoodIn wsX4_count (wsV RX4 160 RX4 yX4_kindAt wsX4_kindAt) := goodIn_app (goodIn_of _ (by decide +kernel)) ggX4_count_X4_kindAt
theorem dX4_count_0 : decode cX4_count 0 = .ok (.iload_n 1, 1) := by decide +kernel
theorem dX4_count_1 : decode cX4_count 1 = .ok (.tableswitch 42 0 2 #[27, 32, 37], 27) := by decide +kernel
theorem dX4_count_28 : decode cX4_count 28 = .ok (.aload_n 0, 1) := by decide +kernel
theorem dX4_count_29 : decode cX4_count 29 = .ok (.invokevirtual 146, 3) := by decide +kernel
theorem dX4_count_32 : decode cX4_count 32 = .ok (.ireturn, 1) := by decide +kernel
theorem dX4_count_33 : decode cX4_count 33 = .ok (.aload_n 0, 1) := by decide +kernel
theorem dX4_count_34 : decode cX4_count 34 = .ok (.invokevirtual 150, 3) := by decide +kernel
theorem dX4_count_37 : decode cX4_count 37 = .ok (.ireturn, 1) := by decide +kernel
theorem dX4_count_38 : decode cX4_count 38 = .ok (.aload_n 0, 1) := by decide +kernel
theorem dX4_count_39 : decode cX4_count 39 = .ok (.invokevirtual 153, 3) := by decide +kernel
theorem dX4_count_42 : decode cX4_count 42 = .ok (.ireturn, 1) := by decide +kernel
theorem dX4_count_43 : decode cX4_count 43 = .ok (.iload_n 1, 1) := by decide +kernel
theorem dX4_count_44 : decode cX4_count 44 = .ok (.bipush 11, 2) := by decide +kernel
theorem dX4_count_46 : decode cX4_count 46 = .ok (.if_icmp .ge 13, 3) := by decide +kernel
theorem dX4_count_49 : decode cX4_count 49 = .ok (.aload_n 0, 1) := by decide +kernel
theorem dX4_count_50 : decode cX4_count 50 = .ok (.iload_n 1, 1) := by decide +kernel
theorem dX4_count_51 : decode cX4_count 51 = .ok (.iconst 3, 1) := by decide +kernel
theorem dX4_count_52 : decode cX4_count 52 = .ok (.isub, 1) := by decide +kernel
theorem dX4_count_53 : decode cX4_count 53 = .ok (.invokevirtual 156, 3) := by decide +kernel
theorem dX4_count_56 : decode cX4_count 56 = .ok (.goto 11, 3) := by decide +kernel
theorem dX4_count_59 : decode cX4_count 59 = .ok (.aload_n 0, 1) := by decide +kernel
theorem dX4_count_60 : decode cX4_count 60 = .ok (.iload_n 1, 1) := by decide +kernel
theorem dX4_count_61 : decode cX4_count 61 = .ok (.bipush 11, 2) := by decide +kernel
theorem dX4_count_63 : decode cX4_count 63 = .ok (.isub, 1) := by decide +kernel
theorem dX4_count_64 : decode cX4_count 64 = .ok (.invokevirtual 160, 3) := by decide +kernel
theorem dX4_count_67 : decode cX4_count 67 = .ok (.ireturn, 1) := by decide +kernel
theorem dX4_isBelow_0 : decode cX4_isBelow 0 = .ok (.iload_n 0, 1) := by decide +kernel
theorem dX4_isBelow_1 : decode cX4_isBelow 1 = .ok (.ifCond .lt 12, 3) := by decide +kernel
theorem dX4_isBelow_4 : decode cX4_isBelow 4 = .ok (.iload_n 0, 1) := by decide +kernel
theorem dX4_isBelow_5 : decode cX4_isBelow 5 = .ok (.iload_n 1, 1) := by decide +kernel
theorem dX4_isBelow_6 : decode cX4_isBelow 6 = .ok (.if_icmp .ge 7, 3) := by decide +kernel
theorem dX4_isBelow_9 : decode cX4_isBelow 9 = .ok (.iconst 1, 1) := by decide +kernel
theorem dX4_isBelow_10 : decode cX4_isBelow 10 = .ok (.goto 4, 3) := by decide +kernel
theorem dX4_isBelow_13 : decode cX4_isBelow 13 = .ok (.iconst 0, 1) := by decide +kernel
theorem dX4_isBelow_14 : decode cX4_isBelow 14 = .ok (.ireturn, 1) := by decide +kernel
theorem dX4_widthOf_0 : decode cX4_widthOf 0 = .ok (.iload_n 0, 1) := by decide +kernel
theorem dX4_widthOf_1 : decode cX4_widthOf 1 = .ok (.ifCond .eq 9, 3) := by decide +kernel
theorem dX4_widthOf_4 : decode cX4_widthOf 4 = .ok (.getstatic 103, 3) := by decide +kernel
theorem dX4_widthOf_7 : decode cX4_widthOf 7 = .ok (.goto 6, 3) := by decide +kernel
theorem dX4_widthOf_10 : decode cX4_widthOf 10 = .ok (.getstatic 93, 3) := by decide +kernel
theorem dX4_widthOf_13 : decode cX4_widthOf 13 = .ok (.areturn, 1) := by decide +kernel
set_option maxRecDepth 20000 in
theorem ggX4_isSpan_X3_isNumber : GoodIn wsX4_isSpan wsX3_isNumber := goodIn_r _ [6, 7, 8, 9, 10, 5, 11, 12] (by decide +kernel) (by decide +kernel)
set_option maxRecDepth 20000 in
theorem gX4_isSpan_X3_isNumber : GoodIn wsX4_isSpan (wsV RX4 42 RX3 yX3_isNumber wsX3_isNumber) := goodIn_app (goodIn_of _ (by decide +kernel)) ggX4_isSpan_X3_isNumber
set_option maxRecDepth 20000 in
theorem ggX4_isSpan_X3_isZero : GoodIn wsX4_isSpan wsX3_isZero := goodIn_r _ [16, 8, 9, 10, 5, 11, 12] (by decide +kernel) (by decide +kernel)
set_option maxRecDepth 20000 in
theorem gX4_isSpan_X3_isZero : GoodIn wsX4_isSpan (wsV RX4 64 RX3 yX3_isZero wsX3_isZero) := goodIn_app (goodIn_of _ (by decide +kernel)) ggX4_isSpan_X3_isZero
set_option maxRecDepth 20000 in
theorem ggX4_isSpan_X3_isEndless : GoodIn wsX4_isSpan wsX3_isEndless := goodIn_r _ [20, 7, 8, 9, 10, 5, 11, 12] (by decide +kernel) (by decide +kernel)
set_option maxRecDepth 20000 in
theorem gX4_isSpan_X3_isEndless : GoodIn wsX4_isSpan (wsV RX4 67 RX3 yX3_isEndless wsX3_isEndless) := goodIn_app (goodIn_of _ (by decide +kernel)) ggX4_isSpan_X3_isEndless
theorem dX4_isSpan_0 : decode cX4_isSpan 0 = .ok (.getstatic 103, 3) := by decide +kernel
theorem dX4_isSpan_3 : decode cX4_isSpan 3 = .ok (.lload_n 0, 1) := by decide +kernel
theorem dX4_isSpan_4 : decode cX4_isSpan 4 = .ok (.invokevirtual 42, 3) := by decide +kernel
theorem dX4_isSpan_7 : decode cX4_isSpan 7 = .ok (.ifCond .eq 27, 3) := by decide +kernel
theorem dX4_isSpan_10 : decode cX4_isSpan 10 = .ok (.getstatic 103, 3) := by decide +kernel
theorem dX4_isSpan_13 : decode cX4_isSpan 13 = .ok (.lload_n 0, 1) := by decide +kernel
theorem dX4_isSpan_14 : decode cX4_isSpan 14 = .ok (.invokevirtual 64, 3) := by decide +kernel
theorem dX4_isSpan_17 : decode cX4_isSpan 17 = .ok (.ifCond .ne 17, 3) := by decide +kernel
theorem dX4_isSpan_20 : decode cX4_isSpan 20 = .ok (.getstatic 103, 3) := by decide +kernel
theorem dX4_isSpan_23 : decode cX4_isSpan 23 = .ok (.lload_n 0, 1) := by decide +kernel
theorem dX4_isSpan_24 : decode cX4_isSpan 24 = .ok (.invokevirtual 67, 3) := by decide +kernel
theorem dX4_isSpan_27 : decode cX4_isSpan 27 = .ok (.ifCond .ne 7, 3) := by decide +kernel
theorem dX4_isSpan_30 : decode cX4_isSpan 30 = .ok (.iconst 1, 1) := by decide +kernel
theorem dX4_isSpan_31 : decode cX4_isSpan 31 = .ok (.goto 4, 3) := by decide +kernel
theorem dX4_isSpan_34 : decode cX4_isSpan 34 = .ok (.iconst 0, 1) := by decide +kernel
theorem dX4_isSpan_35 : decode cX4_isSpan 35 = .ok (.ireturn, 1) := by decide +kernel
theorem dX4_tell_0 : decode cX4_tell 0 = .ok (.aload_n 0, 1) := by decide +kernel
theorem dX4_tell_1 : decode cX4_tell 1 = .ok (.lload_n 1, 1) := by decide +kernel
theorem dX4_tell_2 : decode cX4_tell 2 = .ok (.putfield 27, 3) := by decide +kernel
theorem dX4_tell_5 : decode cX4_tell 5 = .ok (.iconst 1, 1) := by decide +kernel
theorem dX4_tell_6 : decode cX4_tell 6 = .ok (.ireturn, 1) := by decide +kernel
set_option maxRecDepth 20000 in
theorem ggX4_failureOfRow_X4_widthOf : GoodIn wsX4_failureOfRow wsX4_widthOf := goodIn_r _ [6, 7, 8] (by decide +kernel) (by decide +kernel)
set_option maxRecDepth 20000 in
theorem gX4_failureOfRow_X4_widthOf : GoodIn wsX4_failureOfRow (va_wsS RX4 35 yX4_widthOf wsX4_widthOf) := goodIn_app (goodIn_of _ (by decide +kernel)) ggX4_failureOfRow_X4_widthOf
theorem dX4_failureOfRow_0 : decode cX4_failureOfRow 0 = .ok (.aload_n 0, 1) := by decide +kernel
theorem dX4_failureOfRow_1 : decode cX4_failureOfRow 1 = .ok (.getfield 11, 3) := by decide +kernel
theorem dX4_failureOfRow_4 : decode cX4_failureOfRow 4 = .ok (.iload_n 1, 1) := by decide +kernel
theorem dX4_failureOfRow_5 : decode cX4_failureOfRow 5 = .ok (.aaload, 1) := by decide +kernel
theorem dX4_failureOfRow_6 : decode cX4_failureOfRow 6 = .ok (.astore_n 3, 1) := by decide +kernel
theorem dX4_failureOfRow_7 : decode cX4_failureOfRow 7 = .ok (.aload_n 3, 1) := by decide +kernel
theorem dX4_failureOfRow_8 : decode cX4_failureOfRow 8 = .ok (.ifnonnull 6, 3) := by decide +kernel
theorem dX4_failureOfRow_11 : decode cX4_failureOfRow 11 = .ok (.bipush (-11), 2) := by decide +kernel
theorem dX4_failureOfRow_13 : decode cX4_failureOfRow 13 = .ok (.ireturn, 1) := by decide +kernel
theorem dX4_failureOfRow_14 : decode cX4_failureOfRow 14 = .ok (.aload_n 3, 1) := by decide +kernel
theorem dX4_failureOfRow_15 : decode cX4_failureOfRow 15 = .ok (.getfield 163, 3) := by decide +kernel
theorem dX4_failureOfRow_18 : decode cX4_failureOfRow 18 = .ok (.iload_n 2, 1) := by decide +kernel
theorem dX4_failureOfRow_19 : decode cX4_failureOfRow 19 = .ok (.invokestatic 35, 3) := by decide +kernel
theorem dX4_failureOfRow_22 : decode cX4_failureOfRow 22 = .ok (.if_acmp .ne 7, 3) := by decide +kernel
theorem dX4_failureOfRow_25 : decode cX4_failureOfRow 25 = .ok (.iconst 0, 1) := by decide +kernel
theorem dX4_failureOfRow_26 : decode cX4_failureOfRow 26 = .ok (.goto 5, 3) := by decide +kernel
theorem dX4_failureOfRow_29 : decode cX4_failureOfRow 29 = .ok (.bipush (-13), 2) := by decide +kernel
theorem dX4_failureOfRow_31 : decode cX4_failureOfRow 31 = .ok (.ireturn, 1) := by decide +kernel
set_option maxRecDepth 20000 in
theorem ggX4_failureOfItem_X4_failureOfRow : GoodIn wsX4_failureOfItem wsX4_failureOfRow := goodIn_r _ [7, 1, 8, 9, 10, 6, 11, 12, 13, 17, 18, 19, 20, 21, 22] (by decide +kernel) (by decide +kernel)
set_option maxRecDepth 20000 in
theorem gX4_failureOfItem_X4_failureOfRow : GoodIn wsX4_failureOfItem (wsV RX4 85 RX4 yX4_failureOfRow wsX4_failureOfRow) := goodIn_app (goodIn_of _ (by decide +kernel)) ggX4_failureOfItem_X4_failureOfRow
set_option maxRecDepth 20000 in
theorem ggX4_failureOfItem_X4_isBelow : GoodIn wsX4_failureOfItem wsX4_isBelow := goodIn_r _ [16] (by decide +kernel) (by decide +kernel)
set_option maxRecDepth 20000 in
theorem gX4_failureOfItem_X4_isBelow : GoodIn wsX4_failureOfItem (va_wsS RX4 31 yX4_isBelow wsX4_isBelow) := goodIn_app (goodIn_of _ (by decide +kernel)) ggX4_failureOfItem_X4_isBelow
theorem dX4_failureOfItem_0 : decode cX4_failureOfItem 0 = .ok (.aload_n 0, 1) := by decide +kernel
theorem dX4_failureOfItem_1 : decode cX4_failureOfItem 1 = .ok (.iload_n 1, 1) := by decide +kernel
theorem dX4_failureOfItem_2 : decode cX4_failureOfItem 2 = .ok (.iload_n 2, 1) := by decide +kernel
theorem dX4_failureOfItem_3 : decode cX4_failureOfItem 3 = .ok (.invokevirtual 85, 3) := by decide +kernel
theorem dX4_failureOfItem_6 : decode cX4_failureOfItem 6 = .ok (.istore 4, 2) := by decide +kernel
theorem dX4_failureOfItem_8 : decode cX4_failureOfItem 8 = .ok (.iload 4, 2) := by decide +kernel
theorem dX4_failureOfItem_10 : decode cX4_failureOfItem 10 = .ok (.ifCond .eq 6, 3) := by decide +kernel
theorem dX4_failureOfItem_13 : decode cX4_failureOfItem 13 = .ok (.iload 4, 2) := by decide +kernel
theorem dX4_failureOfItem_15 : decode cX4_failureOfItem 15 = .ok (.ireturn, 1) := by decide +kernel
theorem dX4_failureOfItem_16 : decode cX4_failureOfItem 16 = .ok (.iload_n 3, 1) := by decide +kernel
theorem dX4_failureOfItem_17 : decode cX4_failureOfItem 17 = .ok (.aload_n 0, 1) := by decide +kernel
theorem dX4_failureOfItem_18 : decode cX4_failureOfItem 18 = .ok (.getfield 11, 3) := by decide +kernel
theorem dX4_failureOfItem_21 : decode cX4_failureOfItem 21 = .ok (.iload_n 1, 1) := by decide +kernel
theorem dX4_failureOfItem_22 : decode cX4_failureOfItem 22 = .ok (.aaload, 1) := by decide +kernel
theorem dX4_failureOfItem_23 : decode cX4_failureOfItem 23 = .ok (.getfield 52, 3) := by decide +kernel
theorem dX4_failureOfItem_26 : decode cX4_failureOfItem 26 = .ok (.arraylength, 1) := by decide +kernel
theorem dX4_failureOfItem_27 : decode cX4_failureOfItem 27 = .ok (.invokestatic 31, 3) := by decide +kernel
theorem dX4_failureOfItem_30 : decode cX4_failureOfItem 30 = .ok (.ifCond .eq 7, 3) := by decide +kernel
theorem dX4_failureOfItem_33 : decode cX4_failureOfItem 33 = .ok (.iconst 0, 1) := by decide +kernel
theorem dX4_failureOfItem_34 : decode cX4_failureOfItem 34 = .ok (.goto 5, 3) := by decide +kernel
theorem dX4_failureOfItem_37 : decode cX4_failureOfItem 37 = .ok (.bipush (-12), 2) := by decide +kernel
theorem dX4_failureOfItem_39 : decode cX4_failureOfItem 39 = .ok (.ireturn, 1) := by decide +kernel
set_option maxRecDepth 20000 in
theorem ggX4_failureOfHook_X4_isBelow : GoodIn wsX4_failureOfHook wsX4_isBelow := goodIn_r _ [5] (by decide +kernel) (by decide +kernel)
set_option maxRecDepth 20000 in
theorem gX4_failureOfHook_X4_isBelow : GoodIn wsX4_failureOfHook (va_wsS RX4 31 yX4_isBelow wsX4_isBelow) := goodIn_app (goodIn_of _ (by decide +kernel)) ggX4_failureOfHook_X4_isBelow
theorem dX4_failureOfHook_0 : decode cX4_failureOfHook 0 = .ok (.aload_n 0, 1) := by decide +kernel
theorem dX4_failureOfHook_1 : decode cX4_failureOfHook 1 = .ok (.getfield 23, 3) := by decide +kernel
theorem dX4_failureOfHook_4 : decode cX4_failureOfHook 4 = .ok (.iload_n 1, 1) := by decide +kernel
theorem dX4_failureOfHook_5 : decode cX4_failureOfHook 5 = .ok (.aaload, 1) := by decide +kernel
theorem dX4_failureOfHook_6 : decode cX4_failureOfHook 6 = .ok (.ifnonnull 6, 3) := by decide +kernel
theorem dX4_failureOfHook_9 : decode cX4_failureOfHook 9 = .ok (.bipush (-11), 2) := by decide +kernel
theorem dX4_failureOfHook_11 : decode cX4_failureOfHook 11 = .ok (.ireturn, 1) := by decide +kernel
theorem dX4_failureOfHook_12 : decode cX4_failureOfHook 12 = .ok (.iload_n 2, 1) := by decide +kernel
theorem dX4_failureOfHook_13 : decode cX4_failureOfHook 13 = .ok (.iconst 4, 1) := by decide +kernel
theorem dX4_failureOfHook_14 : decode cX4_failureOfHook 14 = .ok (.invokestatic 31, 3) := by decide +kernel
theorem dX4_failureOfHook_17 : decode cX4_failureOfHook 17 = .ok (.ifCond .eq 7, 3) := by decide +kernel
theorem dX4_failureOfHook_20 : decode cX4_failureOfHook 20 = .ok (.iconst 0, 1) := by decide +kernel
theorem dX4_failureOfHook_21 : decode cX4_failureOfHook 21 = .ok (.goto 5, 3) := by decide +kernel
theorem dX4_failureOfHook_24 : decode cX4_failureOfHook 24 = .ok (.bipush (-12), 2) := by decide +kernel
theorem dX4_failureOfHook_26 : decode cX4_failureOfHook 26 = .ok (.ireturn, 1) := by decide +kernel
set_option maxRecDepth 20000 in
theorem ggX4_turned_X3_cutToInt : GoodIn wsX4_turned wsX3_cutToInt := goodIn_r _ [7, 8, 9, 10, 11, 12, 13, 14, 15, 16, 17, 18, 19, 6, 20, 21, 22, 23, 24, 25, 26, 27, 28, 29, 30, 31, 32, 33, 34, 35, 36, 37, 38, 39, 40, 41, 42, 43, 44, 45, 46, 47] (by decide +kernel) (by decide +kernel)
set_option maxRecDepth 20000 in
theorem gX4_turned_X3_cutToInt : GoodIn wsX4_turned (wsV RX4 110 RX3 yX3_cutToInt wsX3_cutToInt) := goodIn_app (goodIn_of _ (by decide +kernel)) ggX4_turned_X3_cutToInt
set_option maxRecDepth 20000 in
theorem ggX4_turned_X3_cutToLong : GoodIn wsX4_turned wsX3_cutToLong := goodIn_r _ [20, 21, 22, 23, 24, 25, 6, 26, 27, 28, 29, 30, 31, 32, 33, 34, 35, 36, 37, 38, 39, 12, 40, 41, 42, 43, 44, 45, 46, 47] (by decide +kernel) (by decide +kernel)
set_option maxRecDepth 20000 in
theorem gX4_turned_X3_cutToLong : GoodIn wsX4_turned (wsV RX4 100 RX3 yX3_cutToLong wsX3_cutToLong) := goodIn_app (goodIn_of _ (by decide +kernel)) ggX4_turned_X3_cutToLong
set_option maxRecDepth 20000 in
theorem ggX4_turned_X3_nearestOf : GoodIn wsX4_turned wsX3_nearestOf := goodIn_r _ [52, 53, 54, 55, 56, 6, 57, 58, 59, 60, 61, 32, 44, 45, 46, 47, 62, 63, 64, 65, 23, 24, 25, 26, 27, 28, 29, 30, 31, 33, 34, 35, 36, 37, 38, 39, 12, 40, 66, 67, 68, 69, 41, 42, 43, 70, 71, 72] (by decide +kernel) (by decide +kernel)
set_option maxRecDepth 20000 in
theorem gX4_turned_X3_nearestOf : GoodIn wsX4_turned (wsV RX4 106 RX3 yX3_nearestOf wsX3_nearestOf) := goodIn_app (goodIn_of _ (by decide +kernel)) ggX4_turned_X3_nearestOf
theorem dX4_turned_0 : decode cX4_turned 0 = .ok (.iload_n 3, 1) := by decide +kernel
theorem dX4_turned_1 : decode cX4_turned 1 = .ok (.tableswitch 85 0 5 #[39, 47, 55, 63, 70, 76], 39) := by decide +kernel
theorem dX4_turned_40 : decode cX4_turned 40 = .ok (.aload_n 0, 1) := by decide +kernel
theorem dX4_turned_41 : decode cX4_turned 41 = .ok (.lload_n 1, 1) := by decide +kernel
theorem dX4_turned_42 : decode cX4_turned 42 = .ok (.invokevirtual 110, 3) := by decide +kernel
theorem dX4_turned_45 : decode cX4_turned 45 = .ok (.i2b, 1) := by decide +kernel
theorem dX4_turned_46 : decode cX4_turned 46 = .ok (.i2l, 1) := by decide +kernel
theorem dX4_turned_47 : decode cX4_turned 47 = .ok (.lreturn, 1) := by decide +kernel
theorem dX4_turned_48 : decode cX4_turned 48 = .ok (.aload_n 0, 1) := by decide +kernel
theorem dX4_turned_49 : decode cX4_turned 49 = .ok (.lload_n 1, 1) := by decide +kernel
theorem dX4_turned_50 : decode cX4_turned 50 = .ok (.invokevirtual 110, 3) := by decide +kernel
theorem dX4_turned_53 : decode cX4_turned 53 = .ok (.i2s, 1) := by decide +kernel
theorem dX4_turned_54 : decode cX4_turned 54 = .ok (.i2l, 1) := by decide +kernel
theorem dX4_turned_55 : decode cX4_turned 55 = .ok (.lreturn, 1) := by decide +kernel
theorem dX4_turned_56 : decode cX4_turned 56 = .ok (.aload_n 0, 1) := by decide +kernel
theorem dX4_turned_57 : decode cX4_turned 57 = .ok (.lload_n 1, 1) := by decide +kernel
theorem dX4_turned_58 : decode cX4_turned 58 = .ok (.invokevirtual 110, 3) := by decide +kernel
theorem dX4_turned_61 : decode cX4_turned 61 = .ok (.i2c, 1) := by decide +kernel
theorem dX4_turned_62 : decode cX4_turned 62 = .ok (.i2l, 1) := by decide +kernel
theorem dX4_turned_63 : decode cX4_turned 63 = .ok (.lreturn, 1) := by decide +kernel
theorem dX4_turned_64 : decode cX4_turned 64 = .ok (.aload_n 0, 1) := by decide +kernel
theorem dX4_turned_65 : decode cX4_turned 65 = .ok (.lload_n 1, 1) := by decide +kernel
theorem dX4_turned_66 : decode cX4_turned 66 = .ok (.invokevirtual 110, 3) := by decide +kernel
theorem dX4_turned_69 : decode cX4_turned 69 = .ok (.i2l, 1) := by decide +kernel
theorem dX4_turned_70 : decode cX4_turned 70 = .ok (.lreturn, 1) := by decide +kernel
theorem dX4_turned_71 : decode cX4_turned 71 = .ok (.aload_n 0, 1) := by decide +kernel
theorem dX4_turned_72 : decode cX4_turned 72 = .ok (.lload_n 1, 1) := by decide +kernel
theorem dX4_turned_73 : decode cX4_turned 73 = .ok (.invokevirtual 100, 3) := by decide +kernel
theorem dX4_turned_76 : decode cX4_turned 76 = .ok (.lreturn, 1) := by decide +kernel
theorem dX4_turned_77 : decode cX4_turned 77 = .ok (.getstatic 93, 3) := by decide +kernel
theorem dX4_turned_80 : decode cX4_turned 80 = .ok (.aload_n 0, 1) := by decide +kernel
theorem dX4_turned_81 : decode cX4_turned 81 = .ok (.lload_n 1, 1) := by decide +kernel
theorem dX4_turned_82 : decode cX4_turned 82 = .ok (.invokevirtual 106, 3) := by decide +kernel
theorem dX4_turned_85 : decode cX4_turned 85 = .ok (.lreturn, 1) := by decide +kernel
theorem dX4_turned_86 : decode cX4_turned 86 = .ok (.getstatic 103, 3) := by decide +kernel
theorem dX4_turned_89 : decode cX4_turned 89 = .ok (.aload_n 0, 1) := by decide +kernel
theorem dX4_turned_90 : decode cX4_turned 90 = .ok (.lload_n 1, 1) := by decide +kernel
theorem dX4_turned_91 : decode cX4_turned 91 = .ok (.invokevirtual 106, 3) := by decide +kernel
theorem dX4_turned_94 : decode cX4_turned 94 = .ok (.lreturn, 1) := by decide +kernel
theorem dX4_rowsThere_0 : decode cX4_rowsThere 0 = .ok (.iconst 0, 1) := by decide +kernel
theorem dX4_rowsThere_1 : decode cX4_rowsThere 1 = .ok (.istore_n 1, 1) := by decide +kernel
theorem dX4_rowsThere_2 : decode cX4_rowsThere 2 = .ok (.aload_n 0, 1) := by decide +kernel
theorem dX4_rowsThere_3 : decode cX4_rowsThere 3 = .ok (.getfield 11, 3) := by decide +kernel
theorem dX4_rowsThere_6 : decode cX4_rowsThere 6 = .ok (.astore_n 2, 1) := by decide +kernel
theorem dX4_rowsThere_7 : decode cX4_rowsThere 7 = .ok (.aload_n 2, 1) := by decide +kernel
theorem dX4_rowsThere_8 : decode cX4_rowsThere 8 = .ok (.arraylength, 1) := by decide +kernel
theorem dX4_rowsThere_9 : decode cX4_rowsThere 9 = .ok (.istore_n 3, 1) := by decide +kernel
theorem dX4_rowsThere_10 : decode cX4_rowsThere 10 = .ok (.iconst 0, 1) := by decide +kernel
theorem dX4_rowsThere_11 : decode cX4_rowsThere 11 = .ok (.istore 4, 2) := by decide +kernel
theorem dX4_rowsThere_13 : decode cX4_rowsThere 13 = .ok (.iload 4, 2) := by decide +kernel
theorem dX4_rowsThere_15 : decode cX4_rowsThere 15 = .ok (.iload_n 3, 1) := by decide +kernel
theorem dX4_rowsThere_16 : decode cX4_rowsThere 16 = .ok (.if_icmp .ge 28, 3) := by decide +kernel
theorem dX4_rowsThere_19 : decode cX4_rowsThere 19 = .ok (.aload_n 2, 1) := by decide +kernel
theorem dX4_rowsThere_20 : decode cX4_rowsThere 20 = .ok (.iload 4, 2) := by decide +kernel
theorem dX4_rowsThere_22 : decode cX4_rowsThere 22 = .ok (.aaload, 1) := by decide +kernel
theorem dX4_rowsThere_23 : decode cX4_rowsThere 23 = .ok (.astore 5, 2) := by decide +kernel
theorem dX4_rowsThere_25 : decode cX4_rowsThere 25 = .ok (.iload_n 1, 1) := by decide +kernel
theorem dX4_rowsThere_26 : decode cX4_rowsThere 26 = .ok (.aload 5, 2) := by decide +kernel
theorem dX4_rowsThere_28 : decode cX4_rowsThere 28 = .ok (.ifnonnull 7, 3) := by decide +kernel
theorem dX4_rowsThere_31 : decode cX4_rowsThere 31 = .ok (.iconst 0, 1) := by decide +kernel
theorem dX4_rowsThere_32 : decode cX4_rowsThere 32 = .ok (.goto 4, 3) := by decide +kernel
theorem dX4_rowsThere_35 : decode cX4_rowsThere 35 = .ok (.iconst 1, 1) := by decide +kernel
theorem dX4_rowsThere_36 : decode cX4_rowsThere 36 = .ok (.iadd, 1) := by decide +kernel
theorem dX4_rowsThere_37 : decode cX4_rowsThere 37 = .ok (.istore_n 1, 1) := by decide +kernel
theorem dX4_rowsThere_38 : decode cX4_rowsThere 38 = .ok (.iinc 4 1, 3) := by decide +kernel
theorem dX4_rowsThere_41 : decode cX4_rowsThere 41 = .ok (.goto (-28), 3) := by decide +kernel
theorem dX4_rowsThere_44 : decode cX4_rowsThere 44 = .ok (.iload_n 1, 1) := by decide +kernel
theorem dX4_rowsThere_45 : decode cX4_rowsThere 45 = .ok (.ireturn, 1) := by decide +kernel
theorem dX4_gaugesThere_0 : decode cX4_gaugesThere 0 = .ok (.iconst 0, 1) := by decide +kernel
theorem dX4_gaugesThere_1 : decode cX4_gaugesThere 1 = .ok (.istore_n 1, 1) := by decide +kernel
theorem dX4_gaugesThere_2 : decode cX4_gaugesThere 2 = .ok (.aload_n 0, 1) := by decide +kernel
theorem dX4_gaugesThere_3 : decode cX4_gaugesThere 3 = .ok (.getfield 17, 3) := by decide +kernel
theorem dX4_gaugesThere_6 : decode cX4_gaugesThere 6 = .ok (.astore_n 2, 1) := by decide +kernel
theorem dX4_gaugesThere_7 : decode cX4_gaugesThere 7 = .ok (.aload_n 2, 1) := by decide +kernel
theorem dX4_gaugesThere_8 : decode cX4_gaugesThere 8 = .ok (.arraylength, 1) := by decide +kernel
theorem dX4_gaugesThere_9 : decode cX4_gaugesThere 9 = .ok (.istore_n 3, 1) := by decide +kernel
theorem dX4_gaugesThere_10 : decode cX4_gaugesThere 10 = .ok (.iconst 0, 1) := by decide +kernel
theorem dX4_gaugesThere_11 : decode cX4_gaugesThere 11 = .ok (.istore 4, 2) := by decide +kernel
theorem dX4_gaugesThere_13 : decode cX4_gaugesThere 13 = .ok (.iload 4, 2) := by decide +kernel
theorem dX4_gaugesThere_15 : decode cX4_gaugesThere 15 = .ok (.iload_n 3, 1) := by decide +kernel
theorem dX4_gaugesThere_16 : decode cX4_gaugesThere 16 = .ok (.if_icmp .ge 28, 3) := by decide +kernel
theorem dX4_gaugesThere_19 : decode cX4_gaugesThere 19 = .ok (.aload_n 2, 1) := by decide +kernel
theorem dX4_gaugesThere_20 : decode cX4_gaugesThere 20 = .ok (.iload 4, 2) := by decide +kernel
theorem dX4_gaugesThere_22 : decode cX4_gaugesThere 22 = .ok (.aaload, 1) := by decide +kernel
theorem dX4_gaugesThere_23 : decode cX4_gaugesThere 23 = .ok (.astore 5, 2) := by decide +kernel
theorem dX4_gaugesThere_25 : decode cX4_gaugesThere 25 = .ok (.iload_n 1, 1) := by decide +kernel
theorem dX4_gaugesThere_26 : decode cX4_gaugesThere 26 = .ok (.aload 5, 2) := by decide +kernel
theorem dX4_gaugesThere_28 : decode cX4_gaugesThere 28 = .ok (.ifnonnull 7, 3) := by decide +kernel
theorem dX4_gaugesThere_31 : decode cX4_gaugesThere 31 = .ok (.iconst 0, 1) := by decide +kernel
theorem dX4_gaugesThere_32 : decode cX4_gaugesThere 32 = .ok (.goto 4, 3) := by decide +kernel
theorem dX4_gaugesThere_35 : decode cX4_gaugesThere 35 = .ok (.iconst 1, 1) := by decide +kernel
theorem dX4_gaugesThere_36 : decode cX4_gaugesThere 36 = .ok (.iadd, 1) := by decide +kernel
theorem dX4_gaugesThere_37 : decode cX4_gaugesThere 37 = .ok (.istore_n 1, 1) := by decide +kernel
theorem dX4_gaugesThere_38 : decode cX4_gaugesThere 38 = .ok (.iinc 4 1, 3) := by decide +kernel
theorem dX4_gaugesThere_41 : decode cX4_gaugesThere 41 = .ok (.goto (-28), 3) := by decide +kernel
theorem dX4_gaugesThere_44 : decode cX4_gaugesThere 44 = .ok (.iload_n 1, 1) := by decide +kernel
theorem dX4_gaugesThere_45 : decode cX4_gaugesThere 45 = .ok (.ireturn, 1) := by decide +kernel
theorem dX4_racksThere_0 : decode cX4_racksThere 0 = .ok (.iconst 0, 1) := by decide +kernel
theorem dX4_racksThere_1 : decode cX4_racksThere 1 = .ok (.istore_n 1, 1) := by decide +kernel
theorem dX4_racksThere_2 : decode cX4_racksThere 2 = .ok (.aload_n 0, 1) := by decide +kernel
theorem dX4_racksThere_3 : decode cX4_racksThere 3 = .ok (.getfield 23, 3) := by decide +kernel
theorem dX4_racksThere_6 : decode cX4_racksThere 6 = .ok (.astore_n 2, 1) := by decide +kernel
theorem dX4_racksThere_7 : decode cX4_racksThere 7 = .ok (.aload_n 2, 1) := by decide +kernel
theorem dX4_racksThere_8 : decode cX4_racksThere 8 = .ok (.arraylength, 1) := by decide +kernel
theorem dX4_racksThere_9 : decode cX4_racksThere 9 = .ok (.istore_n 3, 1) := by decide +kernel
theorem dX4_racksThere_10 : decode cX4_racksThere 10 = .ok (.iconst 0, 1) := by decide +kernel
theorem dX4_racksThere_11 : decode cX4_racksThere 11 = .ok (.istore 4, 2) := by decide +kernel
theorem dX4_racksThere_13 : decode cX4_racksThere 13 = .ok (.iload 4, 2) := by decide +kernel
theorem dX4_racksThere_15 : decode cX4_racksThere 15 = .ok (.iload_n 3, 1) := by decide +kernel
theorem dX4_racksThere_16 : decode cX4_racksThere 16 = .ok (.if_icmp .ge 28, 3) := by decide +kernel
theorem dX4_racksThere_19 : decode cX4_racksThere 19 = .ok (.aload_n 2, 1) := by decide +kernel
theorem dX4_racksThere_20 : decode cX4_racksThere 20 = .ok (.iload 4, 2) := by decide +kernel
theorem dX4_racksThere_22 : decode cX4_racksThere 22 = .ok (.aaload, 1) := by decide +kernel
theorem dX4_racksThere_23 : decode cX4_racksThere 23 = .ok (.astore 5, 2) := by decide +kernel
theorem dX4_racksThere_25 : decode cX4_racksThere 25 = .ok (.iload_n 1, 1) := by decide +kernel
theorem dX4_racksThere_26 : decode cX4_racksThere 26 = .ok (.aload 5, 2) := by decide +kernel
theorem dX4_racksThere_28 : decode cX4_racksThere 28 = .ok (.ifnonnull 7, 3) := by decide +kernel
theorem dX4_racksThere_31 : decode cX4_racksThere 31 = .ok (.iconst 0, 1) := by decide +kernel
theorem dX4_racksThere_32 : decode cX4_racksThere 32 = .ok (.goto 4, 3) := by decide +kernel
theorem dX4_racksThere_35 : decode cX4_racksThere 35 = .ok (.iconst 1, 1) := by decide +kernel
theorem dX4_racksThere_36 : decode cX4_racksThere 36 = .ok (.iadd, 1) := by decide +kernel
theorem dX4_racksThere_37 : decode cX4_racksThere 37 = .ok (.istore_n 1, 1) := by decide +kernel
theorem dX4_racksThere_38 : decode cX4_racksThere 38 = .ok (.iinc 4 1, 3) := by decide +kernel
theorem dX4_racksThere_41 : decode cX4_racksThere 41 = .ok (.goto (-28), 3) := by decide +kernel
theorem dX4_racksThere_44 : decode cX4_racksThere 44 = .ok (.iload_n 1, 1) := by decide +kernel
theorem dX4_racksThere_45 : decode cX4_racksThere 45 = .ok (.ireturn, 1) := by decide +kernel
set_option maxRecDepth 20000 in
theorem ggX4_itemsAt_X4_isBelow : GoodIn wsX4_itemsAt wsX4_isBelow := goodIn_r _ [6] (by decide +kernel) (by decide +kernel)
set_option maxRecDepth 20000 in
theorem gX4_itemsAt_X4_isBelow : GoodIn wsX4_itemsAt (va_wsS RX4 31 yX4_isBelow wsX4_isBelow) := goodIn_app (goodIn_of _ (by decide +kernel)) ggX4_itemsAt_X4_isBelow
theorem dX4_itemsAt_0 : decode cX4_itemsAt 0 = .ok (.iload_n 1, 1) := by decide +kernel
theorem dX4_itemsAt_1 : decode cX4_itemsAt 1 = .ok (.bipush 8, 2) := by decide +kernel
theorem dX4_itemsAt_3 : decode cX4_itemsAt 3 = .ok (.invokestatic 31, 3) := by decide +kernel
theorem dX4_itemsAt_6 : decode cX4_itemsAt 6 = .ok (.ifCond .eq 25, 3) := by decide +kernel
theorem dX4_itemsAt_9 : decode cX4_itemsAt 9 = .ok (.aload_n 0, 1) := by decide +kernel
theorem dX4_itemsAt_10 : decode cX4_itemsAt 10 = .ok (.getfield 11, 3) := by decide +kernel
theorem dX4_itemsAt_13 : decode cX4_itemsAt 13 = .ok (.iload_n 1, 1) := by decide +kernel
theorem dX4_itemsAt_14 : decode cX4_itemsAt 14 = .ok (.aaload, 1) := by decide +kernel
theorem dX4_itemsAt_15 : decode cX4_itemsAt 15 = .ok (.ifnull 16, 3) := by decide +kernel
theorem dX4_itemsAt_18 : decode cX4_itemsAt 18 = .ok (.aload_n 0, 1) := by decide +kernel
theorem dX4_itemsAt_19 : decode cX4_itemsAt 19 = .ok (.getfield 11, 3) := by decide +kernel
theorem dX4_itemsAt_22 : decode cX4_itemsAt 22 = .ok (.iload_n 1, 1) := by decide +kernel
theorem dX4_itemsAt_23 : decode cX4_itemsAt 23 = .ok (.aaload, 1) := by decide +kernel
theorem dX4_itemsAt_24 : decode cX4_itemsAt 24 = .ok (.getfield 52, 3) := by decide +kernel
theorem dX4_itemsAt_27 : decode cX4_itemsAt 27 = .ok (.arraylength, 1) := by decide +kernel
theorem dX4_itemsAt_28 : decode cX4_itemsAt 28 = .ok (.goto 4, 3) := by decide +kernel
theorem dX4_itemsAt_31 : decode cX4_itemsAt 31 = .ok (.iconst (-1), 1) := by decide +kernel
theorem dX4_itemsAt_32 : decode cX4_itemsAt 32 = .ok (.ireturn, 1) := by decide +kernel
set_option maxRecDepth 20000 in
theorem ggX4_kindAt_X4_isBelow : GoodIn wsX4_kindAt wsX4_isBelow := goodIn_r _ [6] (by decide +kernel) (by decide +kernel)
set_option maxRecDepth 20000 in
theorem gX4_kindAt_X4_isBelow : GoodIn wsX4_kindAt (va_wsS RX4 31 yX4_isBelow wsX4_isBelow) := goodIn_app (goodIn_of _ (by decide +kernel)) ggX4_kindAt_X4_isBelow
theorem dX4_kindAt_0 : decode cX4_kindAt 0 = .ok (.iload_n 1, 1) := by decide +kernel
theorem dX4_kindAt_1 : decode cX4_kindAt 1 = .ok (.bipush 6, 2) := by decide +kernel
theorem dX4_kindAt_3 : decode cX4_kindAt 3 = .ok (.invokestatic 31, 3) := by decide +kernel
theorem dX4_kindAt_6 : decode cX4_kindAt 6 = .ok (.ifCond .eq 24, 3) := by decide +kernel
theorem dX4_kindAt_9 : decode cX4_kindAt 9 = .ok (.aload_n 0, 1) := by decide +kernel
theorem dX4_kindAt_10 : decode cX4_kindAt 10 = .ok (.getfield 17, 3) := by decide +kernel
theorem dX4_kindAt_13 : decode cX4_kindAt 13 = .ok (.iload_n 1, 1) := by decide +kernel
theorem dX4_kindAt_14 : decode cX4_kindAt 14 = .ok (.aaload, 1) := by decide +kernel
theorem dX4_kindAt_15 : decode cX4_kindAt 15 = .ok (.ifnull 15, 3) := by decide +kernel
theorem dX4_kindAt_18 : decode cX4_kindAt 18 = .ok (.aload_n 0, 1) := by decide +kernel
theorem dX4_kindAt_19 : decode cX4_kindAt 19 = .ok (.getfield 17, 3) := by decide +kernel
theorem dX4_kindAt_22 : decode cX4_kindAt 22 = .ok (.iload_n 1, 1) := by decide +kernel
theorem dX4_kindAt_23 : decode cX4_kindAt 23 = .ok (.aaload, 1) := by decide +kernel
theorem dX4_kindAt_24 : decode cX4_kindAt 24 = .ok (.getfield 166, 3) := by decide +kernel
theorem dX4_kindAt_27 : decode cX4_kindAt 27 = .ok (.goto 4, 3) := by decide +kernel
theorem dX4_kindAt_30 : decode cX4_kindAt 30 = .ok (.iconst (-1), 1) := by decide +kernel
theorem dX4_kindAt_31 : decode cX4_kindAt 31 = .ok (.ireturn, 1) := by decide +kernel
theorem dX5_init_0 : decode cX5_init 0 = .ok (.aload_n 0, 1) := by decide +kernel
theorem dX5_init_1 : decode cX5_init 1 = .ok (.invokespecial 1, 3) := by decide +kernel
theorem dX5_init_4 : decode cX5_init 4 = .ok (.aload_n 0, 1) := by decide +kernel
theorem dX5_init_5 : decode cX5_init 5 = .ok (.sipush 4200, 3) := by decide +kernel
theorem dX5_init_8 : decode cX5_init 8 = .ok (.newarray .boolean, 2) := by decide +kernel
theorem dX5_init_10 : decode cX5_init 10 = .ok (.putfield 7, 3) := by decide +kernel
theorem dX5_init_13 : decode cX5_init 13 = .ok (.aload_n 0, 1) := by decide +kernel
theorem dX5_init_14 : decode cX5_init 14 = .ok (.sipush 4200, 3) := by decide +kernel
theorem dX5_init_17 : decode cX5_init 17 = .ok (.newarray .int, 2) := by decide +kernel
theorem dX5_init_19 : decode cX5_init 19 = .ok (.putfield 13, 3) := by decide +kernel
theorem dX5_init_22 : decode cX5_init 22 = .ok (.aload_n 0, 1) := by decide +kernel
theorem dX5_init_23 : decode cX5_init 23 = .ok (.ldc 17, 2) := by decide +kernel
theorem dX5_init_25 : decode cX5_init 25 = .ok (.newarray .long, 2) := by decide +kernel
theorem dX5_init_27 : decode cX5_init 27 = .ok (.putfield 18, 3) := by decide +kernel
theorem dX5_init_30 : decode cX5_init 30 = .ok (.aload_n 0, 1) := by decide +kernel
theorem dX5_init_31 : decode cX5_init 31 = .ok (.bipush 8, 2) := by decide +kernel
theorem dX5_init_33 : decode cX5_init 33 = .ok (.newarray .int, 2) := by decide +kernel
theorem dX5_init_35 : decode cX5_init 35 = .ok (.dup, 1) := by decide +kernel
theorem dX5_init_36 : decode cX5_init 36 = .ok (.iconst 0, 1) := by decide +kernel
theorem dX5_init_37 : decode cX5_init 37 = .ok (.iconst (-1), 1) := by decide +kernel
theorem dX5_init_38 : decode cX5_init 38 = .ok (.iastore, 1) := by decide +kernel
theorem dX5_init_39 : decode cX5_init 39 = .ok (.dup, 1) := by decide +kernel
theorem dX5_init_40 : decode cX5_init 40 = .ok (.iconst 1, 1) := by decide +kernel
theorem dX5_init_41 : decode cX5_init 41 = .ok (.iconst (-1), 1) := by decide +kernel
theorem dX5_init_42 : decode cX5_init 42 = .ok (.iastore, 1) := by decide +kernel
theorem dX5_init_43 : decode cX5_init 43 = .ok (.dup, 1) := by decide +kernel
theorem dX5_init_44 : decode cX5_init 44 = .ok (.iconst 2, 1) := by decide +kernel
theorem dX5_init_45 : decode cX5_init 45 = .ok (.iconst (-1), 1) := by decide +kernel
theorem dX5_init_46 : decode cX5_init 46 = .ok (.iastore, 1) := by decide +kernel
theorem dX5_init_47 : decode cX5_init 47 = .ok (.dup, 1) := by decide +kernel
theorem dX5_init_48 : decode cX5_init 48 = .ok (.iconst 3, 1) := by decide +kernel
theorem dX5_init_49 : decode cX5_init 49 = .ok (.iconst (-1), 1) := by decide +kernel
theorem dX5_init_50 : decode cX5_init 50 = .ok (.iastore, 1) := by decide +kernel
theorem dX5_init_51 : decode cX5_init 51 = .ok (.dup, 1) := by decide +kernel
theorem dX5_init_52 : decode cX5_init 52 = .ok (.iconst 4, 1) := by decide +kernel
theorem dX5_init_53 : decode cX5_init 53 = .ok (.iconst (-1), 1) := by decide +kernel
theorem dX5_init_54 : decode cX5_init 54 = .ok (.iastore, 1) := by decide +kernel
theorem dX5_init_55 : decode cX5_init 55 = .ok (.dup, 1) := by decide +kernel
theorem dX5_init_56 : decode cX5_init 56 = .ok (.iconst 5, 1) := by decide +kernel
theorem dX5_init_57 : decode cX5_init 57 = .ok (.iconst (-1), 1) := by decide +kernel
theorem dX5_init_58 : decode cX5_init 58 = .ok (.iastore, 1) := by decide +kernel
theorem dX5_init_59 : decode cX5_init 59 = .ok (.dup, 1) := by decide +kernel
theorem dX5_init_60 : decode cX5_init 60 = .ok (.bipush 6, 2) := by decide +kernel
theorem dX5_init_62 : decode cX5_init 62 = .ok (.iconst (-1), 1) := by decide +kernel
theorem dX5_init_63 : decode cX5_init 63 = .ok (.iastore, 1) := by decide +kernel
theorem dX5_init_64 : decode cX5_init 64 = .ok (.dup, 1) := by decide +kernel
theorem dX5_init_65 : decode cX5_init 65 = .ok (.bipush 7, 2) := by decide +kernel
theorem dX5_init_67 : decode cX5_init 67 = .ok (.iconst (-1), 1) := by decide +kernel
theorem dX5_init_68 : decode cX5_init 68 = .ok (.iastore, 1) := by decide +kernel
theorem dX5_init_69 : decode cX5_init 69 = .ok (.putfield 22, 3) := by decide +kernel
theorem dX5_init_72 : decode cX5_init 72 = .ok (.aload_n 0, 1) := by decide +kernel
theorem dX5_init_73 : decode cX5_init 73 = .ok (.sipush 4200, 3) := by decide +kernel
theorem dX5_init_76 : decode cX5_init 76 = .ok (.newarray .int, 2) := by decide +kernel
theorem dX5_init_78 : decode cX5_init 78 = .ok (.putfield 25, 3) := by decide +kernel
theorem dX5_init_81 : decode cX5_init 81 = .ok (.aload_n 0, 1) := by decide +kernel
theorem dX5_init_82 : decode cX5_init 82 = .ok (.sipush 4200, 3) := by decide +kernel
theorem dX5_init_85 : decode cX5_init 85 = .ok (.newarray .double, 2) := by decide +kernel
theorem dX5_init_87 : decode cX5_init 87 = .ok (.putfield 28, 3) := by decide +kernel
theorem dX5_init_90 : decode cX5_init 90 = .ok (.aload_n 0, 1) := by decide +kernel
theorem dX5_init_91 : decode cX5_init 91 = .ok (.bipush 6, 2) := by decide +kernel
theorem dX5_init_93 : decode cX5_init 93 = .ok (.newarray .int, 2) := by decide +kernel
theorem dX5_init_95 : decode cX5_init 95 = .ok (.dup, 1) := by decide +kernel
theorem dX5_init_96 : decode cX5_init 96 = .ok (.iconst 0, 1) := by decide +kernel
theorem dX5_init_97 : decode cX5_init 97 = .ok (.iconst (-1), 1) := by decide +kernel
theorem dX5_init_98 : decode cX5_init 98 = .ok (.iastore, 1) := by decide +kernel
theorem dX5_init_99 : decode cX5_init 99 = .ok (.dup, 1) := by decide +kernel
theorem dX5_init_100 : decode cX5_init 100 = .ok (.iconst 1, 1) := by decide +kernel
theorem dX5_init_101 : decode cX5_init 101 = .ok (.iconst (-1), 1) := by decide +kernel
theorem dX5_init_102 : decode cX5_init 102 = .ok (.iastore, 1) := by decide +kernel
theorem dX5_init_103 : decode cX5_init 103 = .ok (.dup, 1) := by decide +kernel
theorem dX5_init_104 : decode cX5_init 104 = .ok (.iconst 2, 1) := by decide +kernel
theorem dX5_init_105 : decode cX5_init 105 = .ok (.iconst (-1), 1) := by decide +kernel
theorem dX5_init_106 : decode cX5_init 106 = .ok (.iastore, 1) := by decide +kernel
theorem dX5_init_107 : decode cX5_init 107 = .ok (.dup, 1) := by decide +kernel
theorem dX5_init_108 : decode cX5_init 108 = .ok (.iconst 3, 1) := by decide +kernel
theorem dX5_init_109 : decode cX5_init 109 = .ok (.iconst (-1), 1) := by decide +kernel
theorem dX5_init_110 : decode cX5_init 110 = .ok (.iastore, 1) := by decide +kernel
theorem dX5_init_111 : decode cX5_init 111 = .ok (.dup, 1) := by decide +kernel
theorem dX5_init_112 : decode cX5_init 112 = .ok (.iconst 4, 1) := by decide +kernel
theorem dX5_init_113 : decode cX5_init 113 = .ok (.iconst (-1), 1) := by decide +kernel
theorem dX5_init_114 : decode cX5_init 114 = .ok (.iastore, 1) := by decide +kernel
theorem dX5_init_115 : decode cX5_init 115 = .ok (.dup, 1) := by decide +kernel
theorem dX5_init_116 : decode cX5_init 116 = .ok (.iconst 5, 1) := by decide +kernel
theorem dX5_init_117 : decode cX5_init 117 = .ok (.iconst (-1), 1) := by decide +kernel
theorem dX5_init_118 : decode cX5_init 118 = .ok (.iastore, 1) := by decide +kernel
theorem dX5_init_119 : decode cX5_init 119 = .ok (.putfield 32, 3) := by decide +kernel
theorem dX5_init_122 : decode cX5_init 122 = .ok (.aload_n 0, 1) := by decide +kernel
theorem dX5_init_123 : decode cX5_init 123 = .ok (.iconst 3, 1) := by decide +kernel
theorem dX5_init_124 : decode cX5_init 124 = .ok (.newarray .int, 2) := by decide +kernel
theorem dX5_init_126 : decode cX5_init 126 = .ok (.dup, 1) := by decide +kernel
theorem dX5_init_127 : decode cX5_init 127 = .ok (.iconst 0, 1) := by decide +kernel
theorem dX5_init_128 : decode cX5_init 128 = .ok (.iconst (-1), 1) := by decide +kernel
theorem dX5_init_129 : decode cX5_init 129 = .ok (.iastore, 1) := by decide +kernel
theorem dX5_init_130 : decode cX5_init 130 = .ok (.dup, 1) := by decide +kernel
theorem dX5_init_131 : decode cX5_init 131 = .ok (.iconst 1, 1) := by decide +kernel
theorem dX5_init_132 : decode cX5_init 132 = .ok (.iconst (-1), 1) := by decide +kernel
theorem dX5_init_133 : decode cX5_init 133 = .ok (.iastore, 1) := by decide +kernel
theorem dX5_init_134 : decode cX5_init 134 = .ok (.dup, 1) := by decide +kernel
theorem dX5_init_135 : decode cX5_init 135 = .ok (.iconst 2, 1) := by decide +kernel
theorem dX5_init_136 : decode cX5_init 136 = .ok (.iconst (-1), 1) := by decide +kernel
theorem dX5_init_137 : decode cX5_init 137 = .ok (.iastore, 1) := by decide +kernel
theorem dX5_init_138 : decode cX5_init 138 = .ok (.putfield 35, 3) := by decide +kernel
theorem dX5_init_141 : decode cX5_init 141 = .ok (.aload_n 0, 1) := by decide +kernel
theorem dX5_init_142 : decode cX5_init 142 = .ok (.bipush 12, 2) := by decide +kernel
theorem dX5_init_144 : decode cX5_init 144 = .ok (.newarray .int, 2) := by decide +kernel
theorem dX5_init_146 : decode cX5_init 146 = .ok (.dup, 1) := by decide +kernel
theorem dX5_init_147 : decode cX5_init 147 = .ok (.iconst 0, 1) := by decide +kernel
theorem dX5_init_148 : decode cX5_init 148 = .ok (.iconst (-1), 1) := by decide +kernel
theorem dX5_init_149 : decode cX5_init 149 = .ok (.iastore, 1) := by decide +kernel
theorem dX5_init_150 : decode cX5_init 150 = .ok (.dup, 1) := by decide +kernel
theorem dX5_init_151 : decode cX5_init 151 = .ok (.iconst 1, 1) := by decide +kernel
theorem dX5_init_152 : decode cX5_init 152 = .ok (.iconst (-1), 1) := by decide +kernel
theorem dX5_init_153 : decode cX5_init 153 = .ok (.iastore, 1) := by decide +kernel
theorem dX5_init_154 : decode cX5_init 154 = .ok (.dup, 1) := by decide +kernel
theorem dX5_init_155 : decode cX5_init 155 = .ok (.iconst 2, 1) := by decide +kernel
theorem dX5_init_156 : decode cX5_init 156 = .ok (.iconst (-1), 1) := by decide +kernel
theorem dX5_init_157 : decode cX5_init 157 = .ok (.iastore, 1) := by decide +kernel
theorem dX5_init_158 : decode cX5_init 158 = .ok (.dup, 1) := by decide +kernel
theorem dX5_init_159 : decode cX5_init 159 = .ok (.iconst 3, 1) := by decide +kernel
theorem dX5_init_160 : decode cX5_init 160 = .ok (.iconst (-1), 1) := by decide +kernel
theorem dX5_init_161 : decode cX5_init 161 = .ok (.iastore, 1) := by decide +kernel
theorem dX5_init_162 : decode cX5_init 162 = .ok (.dup, 1) := by decide +kernel
theorem dX5_init_163 : decode cX5_init 163 = .ok (.iconst 4, 1) := by decide +kernel
theorem dX5_init_164 : decode cX5_init 164 = .ok (.iconst (-1), 1) := by decide +kernel
theorem dX5_init_165 : decode cX5_init 165 = .ok (.iastore, 1) := by decide +kernel
theorem dX5_init_166 : decode cX5_init 166 = .ok (.dup, 1) := by decide +kernel
theorem dX5_init_167 : decode cX5_init 167 = .ok (.iconst 5, 1) := by decide +kernel
theorem dX5_init_168 : decode cX5_init 168 = .ok (.iconst (-1), 1) := by decide +kernel
theorem dX5_init_169 : decode cX5_init 169 = .ok (.iastore, 1) := by decide +kernel
theorem dX5_init_170 : decode cX5_init 170 = .ok (.dup, 1) := by decide +kernel
theorem dX5_init_171 : decode cX5_init 171 = .ok (.bipush 6, 2) := by decide +kernel
theorem dX5_init_173 : decode cX5_init 173 = .ok (.iconst (-1), 1) := by decide +kernel
theorem dX5_init_174 : decode cX5_init 174 = .ok (.iastore, 1) := by decide +kernel
theorem dX5_init_175 : decode cX5_init 175 = .ok (.dup, 1) := by decide +kernel
theorem dX5_init_176 : decode cX5_init 176 = .ok (.bipush 7, 2) := by decide +kernel
theorem dX5_init_178 : decode cX5_init 178 = .ok (.iconst (-1), 1) := by decide +kernel
theorem dX5_init_179 : decode cX5_init 179 = .ok (.iastore, 1) := by decide +kernel
theorem dX5_init_180 : decode cX5_init 180 = .ok (.dup, 1) := by decide +kernel
theorem dX5_init_181 : decode cX5_init 181 = .ok (.bipush 8, 2) := by decide +kernel
theorem dX5_init_183 : decode cX5_init 183 = .ok (.iconst (-1), 1) := by decide +kernel
theorem dX5_init_184 : decode cX5_init 184 = .ok (.iastore, 1) := by decide +kernel
theorem dX5_init_185 : decode cX5_init 185 = .ok (.dup, 1) := by decide +kernel
theorem dX5_init_186 : decode cX5_init 186 = .ok (.bipush 9, 2) := by decide +kernel
theorem dX5_init_188 : decode cX5_init 188 = .ok (.iconst (-1), 1) := by decide +kernel
theorem dX5_init_189 : decode cX5_init 189 = .ok (.iastore, 1) := by decide +kernel
theorem dX5_init_190 : decode cX5_init 190 = .ok (.dup, 1) := by decide +kernel
theorem dX5_init_191 : decode cX5_init 191 = .ok (.bipush 10, 2) := by decide +kernel
theorem dX5_init_193 : decode cX5_init 193 = .ok (.iconst (-1), 1) := by decide +kernel
theorem dX5_init_194 : decode cX5_init 194 = .ok (.iastore, 1) := by decide +kernel
theorem dX5_init_195 : decode cX5_init 195 = .ok (.dup, 1) := by decide +kernel
theorem dX5_init_196 : decode cX5_init 196 = .ok (.bipush 11, 2) := by decide +kernel
theorem dX5_init_198 : decode cX5_init 198 = .ok (.iconst (-1), 1) := by decide +kernel
theorem dX5_init_199 : decode cX5_init 199 = .ok (.iastore, 1) := by decide +kernel
theorem dX5_init_200 : decode cX5_init 200 = .ok (.putfield 38, 3) := by decide +kernel
theorem dX5_init_203 : decode cX5_init 203 = .ok (.return_, 1) := by decide +kernel
theorem dX5_in_0 : decode cX5_in 0 = .ok (.iload_n 0, 1) := by decide +kernel
theorem dX5_in_1 : decode cX5_in 1 = .ok (.iload_n 1, 1) := by decide +kernel
theorem dX5_in_2 : decode cX5_in 2 = .ok (.if_icmp .lt 12, 3) := by decide +kernel
theorem dX5_in_5 : decode cX5_in 5 = .ok (.iload_n 0, 1) := by decide +kernel
theorem dX5_in_6 : decode cX5_in 6 = .ok (.iload_n 2, 1) := by decide +kernel
theorem dX5_in_7 : decode cX5_in 7 = .ok (.if_icmp .gt 7, 3) := by decide +kernel
theorem dX5_in_10 : decode cX5_in 10 = .ok (.iconst 1, 1) := by decide +kernel
theorem dX5_in_11 : decode cX5_in 11 = .ok (.goto 4, 3) := by decide +kernel
theorem dX5_in_14 : decode cX5_in 14 = .ok (.iconst 0, 1) := by decide +kernel
theorem dX5_in_15 : decode cX5_in 15 = .ok (.ireturn, 1) := by decide +kernel
theorem dX5_fails_0 : decode cX5_fails 0 = .ok (.bipush (-10), 2) := by decide +kernel
theorem dX5_fails_2 : decode cX5_fails 2 = .ok (.iload_n 0, 1) := by decide +kernel
theorem dX5_fails_3 : decode cX5_fails 3 = .ok (.isub, 1) := by decide +kernel
theorem dX5_fails_4 : decode cX5_fails 4 = .ok (.ireturn, 1) := by decide +kernel
theorem dX5_isNumber_0 : decode cX5_isNumber 0 = .ok (.iload_n 0, 1) := by decide +kernel
theorem dX5_isNumber_1 : decode cX5_isNumber 1 = .ok (.ifCond .eq 23, 3) := by decide +kernel
theorem dX5_isNumber_4 : decode cX5_isNumber 4 = .ok (.lload_n 1, 1) := by decide +kernel
theorem dX5_isNumber_5 : decode cX5_isNumber 5 = .ok (.ldc2_w 41, 3) := by decide +kernel
theorem dX5_isNumber_8 : decode cX5_isNumber 8 = .ok (.land, 1) := by decide +kernel
theorem dX5_isNumber_9 : decode cX5_isNumber 9 = .ok (.ldc2_w 43, 3) := by decide +kernel
theorem dX5_isNumber_12 : decode cX5_isNumber 12 = .ok (.lcmp, 1) := by decide +kernel
theorem dX5_isNumber_13 : decode cX5_isNumber 13 = .ok (.ifCond .gt 7, 3) := by decide +kernel
theorem dX5_isNumber_16 : decode cX5_isNumber 16 = .ok (.iconst 1, 1) := by decide +kernel
theorem dX5_isNumber_17 : decode cX5_isNumber 17 = .ok (.goto 22, 3) := by decide +kernel
theorem dX5_isNumber_20 : decode cX5_isNumber 20 = .ok (.iconst 0, 1) := by decide +kernel
theorem dX5_isNumber_21 : decode cX5_isNumber 21 = .ok (.goto 18, 3) := by decide +kernel
theorem dX5_isNumber_24 : decode cX5_isNumber 24 = .ok (.lload_n 1, 1) := by decide +kernel
theorem dX5_isNumber_25 : decode cX5_isNumber 25 = .ok (.l2i, 1) := by decide +kernel
theorem dX5_isNumber_26 : decode cX5_isNumber 26 = .ok (.ldc 45, 2) := by decide +kernel
theorem dX5_isNumber_28 : decode cX5_isNumber 28 = .ok (.iand, 1) := by decide +kernel
theorem dX5_isNumber_29 : decode cX5_isNumber 29 = .ok (.ldc 46, 2) := by decide +kernel
theorem dX5_isNumber_31 : decode cX5_isNumber 31 = .ok (.if_icmp .gt 7, 3) := by decide +kernel
theorem dX5_isNumber_34 : decode cX5_isNumber 34 = .ok (.iconst 1, 1) := by decide +kernel
theorem dX5_isNumber_35 : decode cX5_isNumber 35 = .ok (.goto 4, 3) := by decide +kernel
theorem dX5_isNumber_38 : decode cX5_isNumber 38 = .ok (.iconst 0, 1) := by decide +kernel
theorem dX5_isNumber_39 : decode cX5_isNumber 39 = .ok (.ireturn, 1) := by decide +kernel
theorem dX5_isEndless_0 : decode cX5_isEndless 0 = .ok (.dload_n 0, 1) := by decide +kernel
theorem dX5_isEndless_1 : decode cX5_isEndless 1 = .ok (.ldc2_w 49, 3) := by decide +kernel
theorem dX5_isEndless_4 : decode cX5_isEndless 4 = .ok (.dcmp .l, 1) := by decide +kernel
theorem dX5_isEndless_5 : decode cX5_isEndless 5 = .ok (.ifCond .gt 11, 3) := by decide +kernel
theorem dX5_isEndless_8 : decode cX5_isEndless 8 = .ok (.dload_n 0, 1) := by decide +kernel
theorem dX5_isEndless_9 : decode cX5_isEndless 9 = .ok (.ldc2_w 51, 3) := by decide +kernel
theorem dX5_isEndless_12 : decode cX5_isEndless 12 = .ok (.dcmp .g, 1) := by decide +kernel
theorem dX5_isEndless_13 : decode cX5_isEndless 13 = .ok (.ifCond .ge 7, 3) := by decide +kernel
theorem dX5_isEndless_16 : decode cX5_isEndless 16 = .ok (.iconst 1, 1) := by decide +kernel
theorem dX5_isEndless_17 : decode cX5_isEndless 17 = .ok (.goto 4, 3) := by decide +kernel
theorem dX5_isEndless_20 : decode cX5_isEndless 20 = .ok (.iconst 0, 1) := by decide +kernel
theorem dX5_isEndless_21 : decode cX5_isEndless 21 = .ok (.ireturn, 1) := by decide +kernel
theorem dX5_number_0 : decode cX5_number 0 = .ok (.iload_n 0, 1) := by decide +kernel
theorem dX5_number_1 : decode cX5_number 1 = .ok (.ifCond .eq 10, 3) := by decide +kernel
theorem dX5_number_4 : decode cX5_number 4 = .ok (.lload_n 1, 1) := by decide +kernel
theorem dX5_number_5 : decode cX5_number 5 = .ok (.invokestatic 53, 3) := by decide +kernel
theorem dX5_number_8 : decode cX5_number 8 = .ok (.goto 9, 3) := by decide +kernel
theorem dX5_number_11 : decode cX5_number 11 = .ok (.lload_n 1, 1) := by decide +kernel
theorem dX5_number_12 : decode cX5_number 12 = .ok (.l2i, 1) := by decide +kernel
theorem dX5_number_13 : decode cX5_number 13 = .ok (.invokestatic 57, 3) := by decide +kernel
theorem dX5_number_16 : decode cX5_number 16 = .ok (.f2d, 1) := by decide +kernel
theorem dX5_number_17 : decode cX5_number 17 = .ok (.dreturn, 1) := by decide +kernel
set_option maxRecDepth 20000 in
theorem ggX5_bitsOf_Jxe99ae_doubleToLongBits_ccdee : GoodIn wsX5_bitsOf wsJxe99ae_doubleToLongBits_ccdee := goodIn_r _ [4, 5, 6, 7, 8, 9, 10, 11, 3, 12] (by decide +kernel) (by decide +kernel)
set_option maxRecDepth 20000 in
theorem gX5_bitsOf_Jxe99ae_doubleToLongBits_ccdee : GoodIn wsX5_bitsOf (va_wsS RX5 63 yJxe99ae_doubleToLongBits_ccdee wsJxe99ae_doubleToLongBits_ccdee) := goodIn_app (goodIn_of _ (by decide +kernel)) ggX5_bitsOf_Jxe99ae_doubleToLongBits_ccdee
set_option maxRecDepth 20000 in
theorem ggX5_bitsOf_Jxf58ca_floatToIntBits_5c35a : GoodIn wsX5_bitsOf wsJxf58ca_floatToIntBits_5c35a := goodIn_r _ [16, 17, 18, 19, 20, 21, 22, 23, 15, 24] (by decide +kernel) (by decide +kernel)
set_option maxRecDepth 20000 in
theorem gX5_bitsOf_Jxf58ca_floatToIntBits_5c35a : GoodIn wsX5_bitsOf (va_wsS RX5 67 yJxf58ca_floatToIntBits_5c35a wsJxf58ca_floatToIntBits_5c35a) := goodIn_app (goodIn_of _ (by decide +kernel)) ggX5_bitsOf_Jxf58ca_floatToIntBits_5c35a
theorem dX5_bitsOf_0 : decode cX5_bitsOf 0 = .ok (.iload_n 0, 1) := by decide +kernel
theorem dX5_bitsOf_1 : decode cX5_bitsOf 1 = .ok (.ifCond .eq 10, 3) := by decide +kernel
theorem dX5_bitsOf_4 : decode cX5_bitsOf 4 = .ok (.dload_n 1, 1) := by decide +kernel
theorem dX5_bitsOf_5 : decode cX5_bitsOf 5 = .ok (.invokestatic 63, 3) := by decide +kernel
theorem dX5_bitsOf_8 : decode cX5_bitsOf 8 = .ok (.goto 9, 3) := by decide +kernel
theorem dX5_bitsOf_11 : decode cX5_bitsOf 11 = .ok (.dload_n 1, 1) := by decide +kernel
theorem dX5_bitsOf_12 : decode cX5_bitsOf 12 = .ok (.d2f, 1) := by decide +kernel
theorem dX5_bitsOf_13 : decode cX5_bitsOf 13 = .ok (.invokestatic 67, 3) := by decide +kernel
theorem dX5_bitsOf_16 : decode cX5_bitsOf 16 = .ok (.i2l, 1) := by decide +kernel
theorem dX5_bitsOf_17 : decode cX5_bitsOf 17 = .ok (.lreturn, 1) := by decide +kernel
set_option maxRecDepth 20000 in
theorem ggX5_row_X5_in : GoodIn wsX5_row wsX5_in := goodIn_r _ [9] (by decide +kernel) (by decide +kernel)
set_option maxRecDepth 20000 in
theorem gX5_row_X5_in : GoodIn wsX5_row (va_wsS RX5 71 yX5_in wsX5_in) := goodIn_app (goodIn_of _ (by decide +kernel)) ggX5_row_X5_in
theorem dX5_row_0 : decode cX5_row 0 = .ok (.iload_n 1, 1) := by decide +kernel
theorem dX5_row_1 : decode cX5_row 1 = .ok (.iconst 0, 1) := by decide +kernel
theorem dX5_row_2 : decode cX5_row 2 = .ok (.bipush 7, 2) := by decide +kernel
theorem dX5_row_4 : decode cX5_row 4 = .ok (.invokestatic 71, 3) := by decide +kernel
theorem dX5_row_7 : decode cX5_row 7 = .ok (.ifCond .eq 13, 3) := by decide +kernel
theorem dX5_row_10 : decode cX5_row 10 = .ok (.iload_n 3, 1) := by decide +kernel
theorem dX5_row_11 : decode cX5_row 11 = .ok (.iconst 0, 1) := by decide +kernel
theorem dX5_row_12 : decode cX5_row 12 = .ok (.bipush 12, 2) := by decide +kernel
theorem dX5_row_14 : decode cX5_row 14 = .ok (.invokestatic 71, 3) := by decide +kernel
theorem dX5_row_17 : decode cX5_row 17 = .ok (.ifCond .ne 5, 3) := by decide +kernel
theorem dX5_row_20 : decode cX5_row 20 = .ok (.iconst (-1), 1) := by decide +kernel
theorem dX5_row_21 : decode cX5_row 21 = .ok (.ireturn, 1) := by decide +kernel
theorem dX5_row_22 : decode cX5_row 22 = .ok (.aload_n 0, 1) := by decide +kernel
theorem dX5_row_23 : decode cX5_row 23 = .ok (.getfield 7, 3) := by decide +kernel
theorem dX5_row_26 : decode cX5_row 26 = .ok (.aload_n 0, 1) := by decide +kernel
theorem dX5_row_27 : decode cX5_row 27 = .ok (.getfield 75, 3) := by decide +kernel
theorem dX5_row_30 : decode cX5_row 30 = .ok (.iload_n 2, 1) := by decide +kernel
theorem dX5_row_31 : decode cX5_row 31 = .ok (.bastore, 1) := by decide +kernel
theorem dX5_row_32 : decode cX5_row 32 = .ok (.aload_n 0, 1) := by decide +kernel
theorem dX5_row_33 : decode cX5_row 33 = .ok (.getfield 13, 3) := by decide +kernel
theorem dX5_row_36 : decode cX5_row 36 = .ok (.aload_n 0, 1) := by decide +kernel
theorem dX5_row_37 : decode cX5_row 37 = .ok (.getfield 75, 3) := by decide +kernel
theorem dX5_row_40 : decode cX5_row 40 = .ok (.iload_n 3, 1) := by decide +kernel
theorem dX5_row_41 : decode cX5_row 41 = .ok (.iastore, 1) := by decide +kernel
theorem dX5_row_42 : decode cX5_row 42 = .ok (.iconst 0, 1) := by decide +kernel
theorem dX5_row_43 : decode cX5_row 43 = .ok (.istore 4, 2) := by decide +kernel
theorem dX5_row_45 : decode cX5_row 45 = .ok (.iload 4, 2) := by decide +kernel
theorem dX5_row_47 : decode cX5_row 47 = .ok (.bipush 12, 2) := by decide +kernel
theorem dX5_row_49 : decode cX5_row 49 = .ok (.if_icmp .ge 25, 3) := by decide +kernel
theorem dX5_row_52 : decode cX5_row 52 = .ok (.aload_n 0, 1) := by decide +kernel
theorem dX5_row_53 : decode cX5_row 53 = .ok (.getfield 18, 3) := by decide +kernel
theorem dX5_row_56 : decode cX5_row 56 = .ok (.bipush 12, 2) := by decide +kernel
theorem dX5_row_58 : decode cX5_row 58 = .ok (.aload_n 0, 1) := by decide +kernel
theorem dX5_row_59 : decode cX5_row 59 = .ok (.getfield 75, 3) := by decide +kernel
theorem dX5_row_62 : decode cX5_row 62 = .ok (.imul, 1) := by decide +kernel
theorem dX5_row_63 : decode cX5_row 63 = .ok (.iload 4, 2) := by decide +kernel
theorem dX5_row_65 : decode cX5_row 65 = .ok (.iadd, 1) := by decide +kernel
theorem dX5_row_66 : decode cX5_row 66 = .ok (.lconst 0, 1) := by decide +kernel
theorem dX5_row_67 : decode cX5_row 67 = .ok (.lastore, 1) := by decide +kernel
theorem dX5_row_68 : decode cX5_row 68 = .ok (.iinc 4 1, 3) := by decide +kernel
theorem dX5_row_71 : decode cX5_row 71 = .ok (.goto (-26), 3) := by decide +kernel
theorem dX5_row_74 : decode cX5_row 74 = .ok (.aload_n 0, 1) := by decide +kernel
theorem dX5_row_75 : decode cX5_row 75 = .ok (.getfield 22, 3) := by decide +kernel
theorem dX5_row_78 : decode cX5_row 78 = .ok (.iload_n 1, 1) := by decide +kernel
theorem dX5_row_79 : decode cX5_row 79 = .ok (.aload_n 0, 1) := by decide +kernel
theorem dX5_row_80 : decode cX5_row 80 = .ok (.getfield 75, 3) := by decide +kernel
theorem dX5_row_83 : decode cX5_row 83 = .ok (.iastore, 1) := by decide +kernel
theorem dX5_row_84 : decode cX5_row 84 = .ok (.aload_n 0, 1) := by decide +kernel
theorem dX5_row_85 : decode cX5_row 85 = .ok (.dup, 1) := by decide +kernel
theorem dX5_row_86 : decode cX5_row 86 = .ok (.getfield 75, 3) := by decide +kernel
theorem dX5_row_89 : decode cX5_row 89 = .ok (.iconst 1, 1) := by decide +kernel
theorem dX5_row_90 : decode cX5_row 90 = .ok (.iadd, 1) := by decide +kernel
theorem dX5_row_91 : decode cX5_row 91 = .ok (.putfield 75, 3) := by decide +kernel
theorem dX5_row_94 : decode cX5_row 94 = .ok (.iconst 1, 1) := by decide +kernel
theorem dX5_row_95 : decode cX5_row 95 = .ok (.ireturn, 1) := by decide +kernel
set_option maxRecDepth 20000 in
theorem ggX5_share_X5_in : GoodIn wsX5_share wsX5_in := goodIn_r _ [5] (by decide +kernel) (by decide +kernel)
set_option maxRecDepth 20000 in
theorem gX5_share_X5_in : GoodIn wsX5_share (va_wsS RX5 71 yX5_in wsX5_in) := goodIn_app (goodIn_of _ (by decide +kernel)) ggX5_share_X5_in
theorem dX5_share_0 : decode cX5_share 0 = .ok (.iload_n 1, 1) := by decide +kernel
theorem dX5_share_1 : decode cX5_share 1 = .ok (.iconst 0, 1) := by decide +kernel
theorem dX5_share_2 : decode cX5_share 2 = .ok (.bipush 7, 2) := by decide +kernel
theorem dX5_share_4 : decode cX5_share 4 = .ok (.invokestatic 71, 3) := by decide +kernel
theorem dX5_share_7 : decode cX5_share 7 = .ok (.ifCond .eq 13, 3) := by decide +kernel
theorem dX5_share_10 : decode cX5_share 10 = .ok (.iload_n 2, 1) := by decide +kernel
theorem dX5_share_11 : decode cX5_share 11 = .ok (.iconst 0, 1) := by decide +kernel
theorem dX5_share_12 : decode cX5_share 12 = .ok (.bipush 7, 2) := by decide +kernel
theorem dX5_share_14 : decode cX5_share 14 = .ok (.invokestatic 71, 3) := by decide +kernel
theorem dX5_share_17 : decode cX5_share 17 = .ok (.ifCond .ne 5, 3) := by decide +kernel
theorem dX5_share_20 : decode cX5_share 20 = .ok (.iconst (-1), 1) := by decide +kernel
theorem dX5_share_21 : decode cX5_share 21 = .ok (.ireturn, 1) := by decide +kernel
theorem dX5_share_22 : decode cX5_share 22 = .ok (.aload_n 0, 1) := by decide +kernel
theorem dX5_share_23 : decode cX5_share 23 = .ok (.getfield 22, 3) := by decide +kernel
theorem dX5_share_26 : decode cX5_share 26 = .ok (.iload_n 2, 1) := by decide +kernel
theorem dX5_share_27 : decode cX5_share 27 = .ok (.aload_n 0, 1) := by decide +kernel
theorem dX5_share_28 : decode cX5_share 28 = .ok (.getfield 22, 3) := by decide +kernel
theorem dX5_share_31 : decode cX5_share 31 = .ok (.iload_n 1, 1) := by decide +kernel
theorem dX5_share_32 : decode cX5_share 32 = .ok (.iaload, 1) := by decide +kernel
theorem dX5_share_33 : decode cX5_share 33 = .ok (.iastore, 1) := by decide +kernel
theorem dX5_share_34 : decode cX5_share 34 = .ok (.aload_n 0, 1) := by decide +kernel
theorem dX5_share_35 : decode cX5_share 35 = .ok (.getfield 22, 3) := by decide +kernel
theorem dX5_share_38 : decode cX5_share 38 = .ok (.iload_n 2, 1) := by decide +kernel
theorem dX5_share_39 : decode cX5_share 39 = .ok (.iaload, 1) := by decide +kernel
theorem dX5_share_40 : decode cX5_share 40 = .ok (.ifCond .ge 7, 3) := by decide +kernel
theorem dX5_share_43 : decode cX5_share 43 = .ok (.iconst 0, 1) := by decide +kernel
theorem dX5_share_44 : decode cX5_share 44 = .ok (.goto 4, 3) := by decide +kernel
theorem dX5_share_47 : decode cX5_share 47 = .ok (.iconst 1, 1) := by decide +kernel
theorem dX5_share_48 : decode cX5_share 48 = .ok (.ireturn, 1) := by decide +kernel
set_option maxRecDepth 20000 in
theorem ggX5_clear_X5_in : GoodIn wsX5_clear wsX5_in := goodIn_r _ [5] (by decide +kernel) (by decide +kernel)
set_option maxRecDepth 20000 in
theorem gX5_clear_X5_in : GoodIn wsX5_clear (va_wsS RX5 71 yX5_in wsX5_in) := goodIn_app (goodIn_of _ (by decide +kernel)) ggX5_clear_X5_in
theorem dX5_clear_0 : decode cX5_clear 0 = .ok (.iload_n 1, 1) := by decide +kernel
theorem dX5_clear_1 : decode cX5_clear 1 = .ok (.iconst 0, 1) := by decide +kernel
theorem dX5_clear_2 : decode cX5_clear 2 = .ok (.bipush 7, 2) := by decide +kernel
theorem dX5_clear_4 : decode cX5_clear 4 = .ok (.invokestatic 71, 3) := by decide +kernel
theorem dX5_clear_7 : decode cX5_clear 7 = .ok (.ifCond .ne 5, 3) := by decide +kernel
theorem dX5_clear_10 : decode cX5_clear 10 = .ok (.iconst (-1), 1) := by decide +kernel
theorem dX5_clear_11 : decode cX5_clear 11 = .ok (.ireturn, 1) := by decide +kernel
theorem dX5_clear_12 : decode cX5_clear 12 = .ok (.aload_n 0, 1) := by decide +kernel
theorem dX5_clear_13 : decode cX5_clear 13 = .ok (.getfield 22, 3) := by decide +kernel
theorem dX5_clear_16 : decode cX5_clear 16 = .ok (.iload_n 1, 1) := by decide +kernel
theorem dX5_clear_17 : decode cX5_clear 17 = .ok (.iaload, 1) := by decide +kernel
theorem dX5_clear_18 : decode cX5_clear 18 = .ok (.ifCond .ge 7, 3) := by decide +kernel
theorem dX5_clear_21 : decode cX5_clear 21 = .ok (.iconst 0, 1) := by decide +kernel
theorem dX5_clear_22 : decode cX5_clear 22 = .ok (.goto 4, 3) := by decide +kernel
theorem dX5_clear_25 : decode cX5_clear 25 = .ok (.iconst 1, 1) := by decide +kernel
theorem dX5_clear_26 : decode cX5_clear 26 = .ok (.istore_n 2, 1) := by decide +kernel
theorem dX5_clear_27 : decode cX5_clear 27 = .ok (.aload_n 0, 1) := by decide +kernel
theorem dX5_clear_28 : decode cX5_clear 28 = .ok (.getfield 22, 3) := by decide +kernel
theorem dX5_clear_31 : decode cX5_clear 31 = .ok (.iload_n 1, 1) := by decide +kernel
theorem dX5_clear_32 : decode cX5_clear 32 = .ok (.iconst (-1), 1) := by decide +kernel
theorem dX5_clear_33 : decode cX5_clear 33 = .ok (.iastore, 1) := by decide +kernel
theorem dX5_clear_34 : decode cX5_clear 34 = .ok (.iload_n 2, 1) := by decide +kernel
theorem dX5_clear_35 : decode cX5_clear 35 = .ok (.ireturn, 1) := by decide +kernel
theorem dX5_asked_0 : decode cX5_asked 0 = .ok (.aload_n 0, 1) := by decide +kernel
theorem dX5_asked_1 : decode cX5_asked 1 = .ok (.getfield 22, 3) := by decide +kernel
theorem dX5_asked_4 : decode cX5_asked 4 = .ok (.iload_n 1, 1) := by decide +kernel
theorem dX5_asked_5 : decode cX5_asked 5 = .ok (.iaload, 1) := by decide +kernel
theorem dX5_asked_6 : decode cX5_asked 6 = .ok (.istore_n 3, 1) := by decide +kernel
theorem dX5_asked_7 : decode cX5_asked 7 = .ok (.iload_n 3, 1) := by decide +kernel
theorem dX5_asked_8 : decode cX5_asked 8 = .ok (.ifCond .ge 7, 3) := by decide +kernel
theorem dX5_asked_11 : decode cX5_asked 11 = .ok (.iconst 1, 1) := by decide +kernel
theorem dX5_asked_12 : decode cX5_asked 12 = .ok (.goto 18, 3) := by decide +kernel
theorem dX5_asked_15 : decode cX5_asked 15 = .ok (.aload_n 0, 1) := by decide +kernel
theorem dX5_asked_16 : decode cX5_asked 16 = .ok (.getfield 7, 3) := by decide +kernel
theorem dX5_asked_19 : decode cX5_asked 19 = .ok (.iload_n 3, 1) := by decide +kernel
theorem dX5_asked_20 : decode cX5_asked 20 = .ok (.baload, 1) := by decide +kernel
theorem dX5_asked_21 : decode cX5_asked 21 = .ok (.iload_n 2, 1) := by decide +kernel
theorem dX5_asked_22 : decode cX5_asked 22 = .ok (.if_icmp .eq 7, 3) := by decide +kernel
theorem dX5_asked_25 : decode cX5_asked 25 = .ok (.iconst 3, 1) := by decide +kernel
theorem dX5_asked_26 : decode cX5_asked 26 = .ok (.goto 4, 3) := by decide +kernel
theorem dX5_asked_29 : decode cX5_asked 29 = .ok (.iconst 0, 1) := by decide +kernel
theorem dX5_asked_30 : decode cX5_asked 30 = .ok (.ireturn, 1) := by decide +kernel
set_option maxRecDepth 20000 in
theorem ggX5_askedItem_X5_asked : GoodIn wsX5_askedItem wsX5_asked := goodIn_r _ [7, 2, 8, 12, 13, 14, 15, 16, 17, 18, 19, 20, 21, 22, 23] (by decide +kernel) (by decide +kernel)
set_option maxRecDepth 20000 in
theorem gX5_askedItem_X5_asked : GoodIn wsX5_askedItem (wsV RX5 79 RX5 yX5_asked wsX5_asked) := goodIn_app (goodIn_of _ (by decide +kernel)) ggX5_askedItem_X5_asked
set_option maxRecDepth 20000 in
theorem ggX5_askedItem_X5_in : GoodIn wsX5_askedItem wsX5_in := goodIn_r _ [11] (by decide +kernel) (by decide +kernel)
set_option maxRecDepth 20000 in
theorem gX5_askedItem_X5_in : GoodIn wsX5_askedItem (va_wsS RX5 71 yX5_in wsX5_in) := goodIn_app (goodIn_of _ (by decide +kernel)) ggX5_askedItem_X5_in
theorem dX5_askedItem_0 : decode cX5_askedItem 0 = .ok (.aload_n 0, 1) := by decide +kernel
theorem dX5_askedItem_1 : decode cX5_askedItem 1 = .ok (.iload_n 1, 1) := by decide +kernel
theorem dX5_askedItem_2 : decode cX5_askedItem 2 = .ok (.iload_n 2, 1) := by decide +kernel
theorem dX5_askedItem_3 : decode cX5_askedItem 3 = .ok (.invokevirtual 79, 3) := by decide +kernel
theorem dX5_askedItem_6 : decode cX5_askedItem 6 = .ok (.istore 4, 2) := by decide +kernel
theorem dX5_askedItem_8 : decode cX5_askedItem 8 = .ok (.iload 4, 2) := by decide +kernel
theorem dX5_askedItem_10 : decode cX5_askedItem 10 = .ok (.ifCond .eq 8, 3) := by decide +kernel
theorem dX5_askedItem_13 : decode cX5_askedItem 13 = .ok (.iload 4, 2) := by decide +kernel
theorem dX5_askedItem_15 : decode cX5_askedItem 15 = .ok (.goto 29, 3) := by decide +kernel
theorem dX5_askedItem_18 : decode cX5_askedItem 18 = .ok (.iload_n 3, 1) := by decide +kernel
theorem dX5_askedItem_19 : decode cX5_askedItem 19 = .ok (.iconst 0, 1) := by decide +kernel
theorem dX5_askedItem_20 : decode cX5_askedItem 20 = .ok (.aload_n 0, 1) := by decide +kernel
theorem dX5_askedItem_21 : decode cX5_askedItem 21 = .ok (.getfield 13, 3) := by decide +kernel
theorem dX5_askedItem_24 : decode cX5_askedItem 24 = .ok (.aload_n 0, 1) := by decide +kernel
theorem dX5_askedItem_25 : decode cX5_askedItem 25 = .ok (.getfield 22, 3) := by decide +kernel
theorem dX5_askedItem_28 : decode cX5_askedItem 28 = .ok (.iload_n 1, 1) := by decide +kernel
theorem dX5_askedItem_29 : decode cX5_askedItem 29 = .ok (.iaload, 1) := by decide +kernel
theorem dX5_askedItem_30 : decode cX5_askedItem 30 = .ok (.iaload, 1) := by decide +kernel
theorem dX5_askedItem_31 : decode cX5_askedItem 31 = .ok (.iconst 1, 1) := by decide +kernel
theorem dX5_askedItem_32 : decode cX5_askedItem 32 = .ok (.isub, 1) := by decide +kernel
theorem dX5_askedItem_33 : decode cX5_askedItem 33 = .ok (.invokestatic 71, 3) := by decide +kernel
theorem dX5_askedItem_36 : decode cX5_askedItem 36 = .ok (.ifCond .eq 7, 3) := by decide +kernel
theorem dX5_askedItem_39 : decode cX5_askedItem 39 = .ok (.iconst 0, 1) := by decide +kernel
theorem dX5_askedItem_40 : decode cX5_askedItem 40 = .ok (.goto 4, 3) := by decide +kernel
theorem dX5_askedItem_43 : decode cX5_askedItem 43 = .ok (.iconst 2, 1) := by decide +kernel
theorem dX5_askedItem_44 : decode cX5_askedItem 44 = .ok (.ireturn, 1) := by decide +kernel
theorem dX5_item_0 : decode cX5_item 0 = .ok (.aload_n 0, 1) := by decide +kernel
theorem dX5_item_1 : decode cX5_item 1 = .ok (.getfield 18, 3) := by decide +kernel
theorem dX5_item_4 : decode cX5_item 4 = .ok (.bipush 12, 2) := by decide +kernel
theorem dX5_item_6 : decode cX5_item 6 = .ok (.aload_n 0, 1) := by decide +kernel
theorem dX5_item_7 : decode cX5_item 7 = .ok (.getfield 22, 3) := by decide +kernel
theorem dX5_item_10 : decode cX5_item 10 = .ok (.iload_n 1, 1) := by decide +kernel
theorem dX5_item_11 : decode cX5_item 11 = .ok (.iaload, 1) := by decide +kernel
theorem dX5_item_12 : decode cX5_item 12 = .ok (.imul, 1) := by decide +kernel
theorem dX5_item_13 : decode cX5_item 13 = .ok (.iload_n 2, 1) := by decide +kernel
theorem dX5_item_14 : decode cX5_item 14 = .ok (.iadd, 1) := by decide +kernel
theorem dX5_item_15 : decode cX5_item 15 = .ok (.laload, 1) := by decide +kernel
theorem dX5_item_16 : decode cX5_item 16 = .ok (.lreturn, 1) := by decide +kernel
set_option maxRecDepth 20000 in
theorem ggX5_put_X5_in : GoodIn wsX5_put wsX5_in := goodIn_r _ [6] (by decide +kernel) (by decide +kernel)
set_option maxRecDepth 20000 in
theorem gX5_put_X5_in : GoodIn wsX5_put (va_wsS RX5 71 yX5_in wsX5_in) := goodIn_app (goodIn_of _ (by decide +kernel)) ggX5_put_X5_in
set_option maxRecDepth 20000 in
theorem ggX5_put_X5_isNumber : GoodIn wsX5_put wsX5_isNumber := goodIn_r _ [9, 10, 11, 12, 13] (by decide +kernel) (by decide +kernel)
set_option maxRecDepth 20000 in
theorem gX5_put_X5_isNumber : GoodIn wsX5_put (va_wsS RX5 83 yX5_isNumber wsX5_isNumber) := goodIn_app (goodIn_of _ (by decide +kernel)) ggX5_put_X5_isNumber
set_option maxRecDepth 20000 in
theorem ggX5_put_X5_askedItem : GoodIn wsX5_put wsX5_askedItem := goodIn_r _ [17, 18, 2, 19, 20, 21, 5, 22, 23, 3, 4, 6, 27, 28, 29, 30, 31, 32, 33, 34, 35, 36, 37, 38] (by decide +kernel) (by decide +kernel)
set_option maxRecDepth 20000 in
theorem gX5_put_X5_askedItem : GoodIn wsX5_put (wsV RX5 87 RX5 yX5_askedItem wsX5_askedItem) := goodIn_app (goodIn_of _ (by decide +kernel)) ggX5_put_X5_askedItem
set_option maxRecDepth 20000 in
theorem ggX5_put_X5_fails : GoodIn wsX5_put wsX5_fails := goodIn_r _ [26] (by decide +kernel) (by decide +kernel)
set_option maxRecDepth 20000 in
theorem gX5_put_X5_fails : GoodIn wsX5_put (va_wsS RX5 91 yX5_fails wsX5_fails) := goodIn_app (goodIn_of _ (by decide +kernel)) ggX5_put_X5_fails
theorem dX5_put_0 : decode cX5_put 0 = .ok (.iload_n 1, 1) := by decide +kernel
theorem dX5_put_1 : decode cX5_put 1 = .ok (.iconst 0, 1) := by decide +kernel
theorem dX5_put_2 : decode cX5_put 2 = .ok (.bipush 7, 2) := by decide +kernel
theorem dX5_put_4 : decode cX5_put 4 = .ok (.invokestatic 71, 3) := by decide +kernel
theorem dX5_put_7 : decode cX5_put 7 = .ok (.ifCond .eq 12, 3) := by decide +kernel
theorem dX5_put_10 : decode cX5_put 10 = .ok (.iload_n 2, 1) := by decide +kernel
theorem dX5_put_11 : decode cX5_put 11 = .ok (.lload 4, 2) := by decide +kernel
theorem dX5_put_13 : decode cX5_put 13 = .ok (.invokestatic 83, 3) := by decide +kernel
theorem dX5_put_16 : decode cX5_put 16 = .ok (.ifCond .ne 5, 3) := by decide +kernel
theorem dX5_put_19 : decode cX5_put 19 = .ok (.iconst (-1), 1) := by decide +kernel
theorem dX5_put_20 : decode cX5_put 20 = .ok (.ireturn, 1) := by decide +kernel
theorem dX5_put_21 : decode cX5_put 21 = .ok (.aload_n 0, 1) := by decide +kernel
theorem dX5_put_22 : decode cX5_put 22 = .ok (.iload_n 1, 1) := by decide +kernel
theorem dX5_put_23 : decode cX5_put 23 = .ok (.iload_n 2, 1) := by decide +kernel
theorem dX5_put_24 : decode cX5_put 24 = .ok (.iload_n 3, 1) := by decide +kernel
theorem dX5_put_25 : decode cX5_put 25 = .ok (.invokevirtual 87, 3) := by decide +kernel
theorem dX5_put_28 : decode cX5_put 28 = .ok (.istore 6, 2) := by decide +kernel
theorem dX5_put_30 : decode cX5_put 30 = .ok (.iload 6, 2) := by decide +kernel
theorem dX5_put_32 : decode cX5_put 32 = .ok (.ifCond .eq 9, 3) := by decide +kernel
theorem dX5_put_35 : decode cX5_put 35 = .ok (.iload 6, 2) := by decide +kernel
theorem dX5_put_37 : decode cX5_put 37 = .ok (.invokestatic 91, 3) := by decide +kernel
theorem dX5_put_40 : decode cX5_put 40 = .ok (.ireturn, 1) := by decide +kernel
theorem dX5_put_41 : decode cX5_put 41 = .ok (.aload_n 0, 1) := by decide +kernel
theorem dX5_put_42 : decode cX5_put 42 = .ok (.getfield 18, 3) := by decide +kernel
theorem dX5_put_45 : decode cX5_put 45 = .ok (.bipush 12, 2) := by decide +kernel
theorem dX5_put_47 : decode cX5_put 47 = .ok (.aload_n 0, 1) := by decide +kernel
theorem dX5_put_48 : decode cX5_put 48 = .ok (.getfield 22, 3) := by decide +kernel
theorem dX5_put_51 : decode cX5_put 51 = .ok (.iload_n 1, 1) := by decide +kernel
theorem dX5_put_52 : decode cX5_put 52 = .ok (.iaload, 1) := by decide +kernel
theorem dX5_put_53 : decode cX5_put 53 = .ok (.imul, 1) := by decide +kernel
theorem dX5_put_54 : decode cX5_put 54 = .ok (.iload_n 3, 1) := by decide +kernel
theorem dX5_put_55 : decode cX5_put 55 = .ok (.iadd, 1) := by decide +kernel
theorem dX5_put_56 : decode cX5_put 56 = .ok (.iload_n 2, 1) := by decide +kernel
theorem dX5_put_57 : decode cX5_put 57 = .ok (.ifCond .eq 8, 3) := by decide +kernel
theorem dX5_put_60 : decode cX5_put 60 = .ok (.lload 4, 2) := by decide +kernel
theorem dX5_put_62 : decode cX5_put 62 = .ok (.goto 7, 3) := by decide +kernel
theorem dX5_put_65 : decode cX5_put 65 = .ok (.lload 4, 2) := by decide +kernel
theorem dX5_put_67 : decode cX5_put 67 = .ok (.l2i, 1) := by decide +kernel
theorem dX5_put_68 : decode cX5_put 68 = .ok (.i2l, 1) := by decide +kernel
theorem dX5_put_69 : decode cX5_put 69 = .ok (.lastore, 1) := by decide +kernel
theorem dX5_put_70 : decode cX5_put 70 = .ok (.iconst 1, 1) := by decide +kernel
theorem dX5_put_71 : decode cX5_put 71 = .ok (.ireturn, 1) := by decide +kernel
set_option maxRecDepth 20000 in
theorem ggX5_get_X5_in : GoodIn wsX5_get wsX5_in := goodIn_r _ [5] (by decide +kernel) (by decide +kernel)
set_option maxRecDepth 20000 in
theorem gX5_get_X5_in : GoodIn wsX5_get (va_wsS RX5 71 yX5_in wsX5_in) := goodIn_app (goodIn_of _ (by decide +kernel)) ggX5_get_X5_in
set_option maxRecDepth 20000 in
theorem ggX5_get_X5_askedItem : GoodIn wsX5_get wsX5_askedItem := goodIn_r _ [9, 10, 11, 12, 13, 14, 4, 15, 16, 2, 3, 5, 25, 26, 27, 28, 29, 30, 31, 32, 33, 34, 35, 36] (by decide +kernel) (by decide +kernel)
set_option maxRecDepth 20000 in
theorem gX5_get_X5_askedItem : GoodIn wsX5_get (wsV RX5 87 RX5 yX5_askedItem wsX5_askedItem) := goodIn_app (goodIn_of _ (by decide +kernel)) ggX5_get_X5_askedItem
set_option maxRecDepth 20000 in
theorem ggX5_get_X5_fails : GoodIn wsX5_get wsX5_fails := goodIn_r _ [19] (by decide +kernel) (by decide +kernel)
set_option maxRecDepth 20000 in
theorem gX5_get_X5_fails : GoodIn wsX5_get (va_wsS RX5 91 yX5_fails wsX5_fails) := goodIn_app (goodIn_of _ (by decide +kernel)) ggX5_get_X5_fails
set_option maxRecDepth 20000 in
theorem ggX5_get_X5_item : GoodIn wsX5_get wsX5_item := goodIn_r _ [23, 24, 11, 25, 26, 27, 28, 29, 30, 31, 32, 33, 34, 35, 36] (by decide +kernel) (by decide +kernel)
set_option maxRecDepth 20000 in
theorem gX5_get_X5_item : GoodIn wsX5_get (wsV RX5 95 RX5 yX5_item wsX5_item) := goodIn_app (goodIn_of _ (by decide +kernel)) ggX5_get_X5_item
theorem dX5_get_0 : decode cX5_get 0 = .ok (.iload_n 1, 1) := by decide +kernel
theorem dX5_get_1 : decode cX5_get 1 = .ok (.iconst 0, 1) := by decide +kernel
theorem dX5_get_2 : decode cX5_get 2 = .ok (.bipush 7, 2) := by decide +kernel
theorem dX5_get_4 : decode cX5_get 4 = .ok (.invokestatic 71, 3) := by decide +kernel
theorem dX5_get_7 : decode cX5_get 7 = .ok (.ifCond .ne 5, 3) := by decide +kernel
theorem dX5_get_10 : decode cX5_get 10 = .ok (.iconst (-1), 1) := by decide +kernel
theorem dX5_get_11 : decode cX5_get 11 = .ok (.ireturn, 1) := by decide +kernel
theorem dX5_get_12 : decode cX5_get 12 = .ok (.aload_n 0, 1) := by decide +kernel
theorem dX5_get_13 : decode cX5_get 13 = .ok (.iload_n 1, 1) := by decide +kernel
theorem dX5_get_14 : decode cX5_get 14 = .ok (.iload_n 2, 1) := by decide +kernel
theorem dX5_get_15 : decode cX5_get 15 = .ok (.iload_n 3, 1) := by decide +kernel
theorem dX5_get_16 : decode cX5_get 16 = .ok (.invokevirtual 87, 3) := by decide +kernel
theorem dX5_get_19 : decode cX5_get 19 = .ok (.istore 4, 2) := by decide +kernel
theorem dX5_get_21 : decode cX5_get 21 = .ok (.iload 4, 2) := by decide +kernel
theorem dX5_get_23 : decode cX5_get 23 = .ok (.ifCond .eq 9, 3) := by decide +kernel
theorem dX5_get_26 : decode cX5_get 26 = .ok (.iload 4, 2) := by decide +kernel
theorem dX5_get_28 : decode cX5_get 28 = .ok (.invokestatic 91, 3) := by decide +kernel
theorem dX5_get_31 : decode cX5_get 31 = .ok (.ireturn, 1) := by decide +kernel
theorem dX5_get_32 : decode cX5_get 32 = .ok (.aload_n 0, 1) := by decide +kernel
theorem dX5_get_33 : decode cX5_get 33 = .ok (.aload_n 0, 1) := by decide +kernel
theorem dX5_get_34 : decode cX5_get 34 = .ok (.iload_n 1, 1) := by decide +kernel
theorem dX5_get_35 : decode cX5_get 35 = .ok (.iload_n 3, 1) := by decide +kernel
theorem dX5_get_36 : decode cX5_get 36 = .ok (.invokevirtual 95, 3) := by decide +kernel
theorem dX5_get_39 : decode cX5_get 39 = .ok (.putfield 99, 3) := by decide +kernel
theorem dX5_get_42 : decode cX5_get 42 = .ok (.iconst 1, 1) := by decide +kernel
theorem dX5_get_43 : decode cX5_get 43 = .ok (.ireturn, 1) := by decide +kernel
set_option maxRecDepth 20000 in
theorem ggX5_rest_X5_in : GoodIn wsX5_rest wsX5_in := goodIn_r _ [5] (by decide +kernel) (by decide +kernel)
set_option maxRecDepth 20000 in
theorem gX5_rest_X5_in : GoodIn wsX5_rest (va_wsS RX5 71 yX5_in wsX5_in) := goodIn_app (goodIn_of _ (by decide +kernel)) ggX5_rest_X5_in
set_option maxRecDepth 20000 in
theorem ggX5_rest_X5_askedItem : GoodIn wsX5_rest wsX5_askedItem := goodIn_r _ [9, 10, 11, 12, 13, 14, 4, 15, 16, 2, 3, 5, 66, 67, 68, 69, 70, 71, 72, 73, 74, 75, 76, 77] (by decide +kernel) (by decide +kernel)
set_option maxRecDepth 20000 in
theorem gX5_rest_X5_askedItem : GoodIn wsX5_rest (wsV RX5 87 RX5 yX5_askedItem wsX5_askedItem) := goodIn_app (goodIn_of _ (by decide +kernel)) ggX5_rest_X5_askedItem
set_option maxRecDepth 20000 in
theorem ggX5_rest_X5_fails : GoodIn wsX5_rest wsX5_fails := goodIn_r _ [19] (by decide +kernel) (by decide +kernel)
set_option maxRecDepth 20000 in
theorem gX5_rest_X5_fails : GoodIn wsX5_rest (va_wsS RX5 91 yX5_fails wsX5_fails) := goodIn_app (goodIn_of _ (by decide +kernel)) ggX5_rest_X5_fails
set_option maxRecDepth 20000 in
theorem ggX5_rest_X5_item : GoodIn wsX5_rest wsX5_item := goodIn_r _ [23, 24, 11, 66, 67, 68, 69, 70, 71, 72, 73, 74, 75, 76, 77] (by decide +kernel) (by decide +kernel)
set_option maxRecDepth 20000 in
theorem gX5_rest_X5_item : GoodIn wsX5_rest (wsV RX5 95 RX5 yX5_item wsX5_item) := goodIn_app (goodIn_of _ (by decide +kernel)) ggX5_rest_X5_item
set_option maxRecDepth 20000 in
theorem ggX5_rest_X5_number : GoodIn wsX5_rest wsX5_number := goodIn_r _ [27, 28, 29, 30, 31, 32, 33, 34, 35] (by decide +kernel) (by decide +kernel)
set_option maxRecDepth 20000 in
theorem gX5_rest_X5_number : GoodIn wsX5_rest (va_wsS RX5 103 yX5_number wsX5_number) := goodIn_app (goodIn_of _ (by decide +kernel)) ggX5_rest_X5_number
set_option maxRecDepth 20000 in
theorem ggX5_rest_X5_isEndless : GoodIn wsX5_rest wsX5_isEndless := goodIn_r _ [38, 39, 40] (by decide +kernel) (by decide +kernel)
set_option maxRecDepth 20000 in
theorem gX5_rest_X5_isEndless : GoodIn wsX5_rest (va_wsS RX5 107 yX5_isEndless wsX5_isEndless) := goodIn_app (goodIn_of _ (by decide +kernel)) ggX5_rest_X5_isEndless
set_option maxRecDepth 20000 in
theorem ggX5_rest_X5_bitsOf : GoodIn wsX5_rest wsX5_bitsOf := goodIn_r _ [43, 44, 45, 46, 47, 48, 49, 50, 31, 51, 52, 53, 54, 55, 56, 57, 58, 59, 60, 61, 35, 62, 63, 64, 65] (by decide +kernel) (by decide +kernel)
set_option maxRecDepth 20000 in
theorem gX5_rest_X5_bitsOf : GoodIn wsX5_rest (va_wsS RX5 111 yX5_bitsOf wsX5_bitsOf) := goodIn_app (goodIn_of _ (by decide +kernel)) ggX5_rest_X5_bitsOf
theorem dX5_rest_0 : decode cX5_rest 0 = .ok (.iload_n 1, 1) := by decide +kernel
theorem dX5_rest_1 : decode cX5_rest 1 = .ok (.iconst 0, 1) := by decide +kernel
theorem dX5_rest_2 : decode cX5_rest 2 = .ok (.bipush 7, 2) := by decide +kernel
theorem dX5_rest_4 : decode cX5_rest 4 = .ok (.invokestatic 71, 3) := by decide +kernel
theorem dX5_rest_7 : decode cX5_rest 7 = .ok (.ifCond .ne 5, 3) := by decide +kernel
theorem dX5_rest_10 : decode cX5_rest 10 = .ok (.iconst (-1), 1) := by decide +kernel
theorem dX5_rest_11 : decode cX5_rest 11 = .ok (.ireturn, 1) := by decide +kernel
theorem dX5_rest_12 : decode cX5_rest 12 = .ok (.aload_n 0, 1) := by decide +kernel
theorem dX5_rest_13 : decode cX5_rest 13 = .ok (.iload_n 1, 1) := by decide +kernel
theorem dX5_rest_14 : decode cX5_rest 14 = .ok (.iload_n 2, 1) := by decide +kernel
theorem dX5_rest_15 : decode cX5_rest 15 = .ok (.iload_n 3, 1) := by decide +kernel
theorem dX5_rest_16 : decode cX5_rest 16 = .ok (.invokevirtual 87, 3) := by decide +kernel
theorem dX5_rest_19 : decode cX5_rest 19 = .ok (.istore 5, 2) := by decide +kernel
theorem dX5_rest_21 : decode cX5_rest 21 = .ok (.iload 5, 2) := by decide +kernel
theorem dX5_rest_23 : decode cX5_rest 23 = .ok (.ifCond .eq 8, 3) := by decide +kernel
theorem dX5_rest_26 : decode cX5_rest 26 = .ok (.iload 5, 2) := by decide +kernel
theorem dX5_rest_28 : decode cX5_rest 28 = .ok (.goto 11, 3) := by decide +kernel
theorem dX5_rest_31 : decode cX5_rest 31 = .ok (.aload_n 0, 1) := by decide +kernel
theorem dX5_rest_32 : decode cX5_rest 32 = .ok (.iload_n 1, 1) := by decide +kernel
theorem dX5_rest_33 : decode cX5_rest 33 = .ok (.iload_n 2, 1) := by decide +kernel
theorem dX5_rest_34 : decode cX5_rest 34 = .ok (.iload 4, 2) := by decide +kernel
theorem dX5_rest_36 : decode cX5_rest 36 = .ok (.invokevirtual 87, 3) := by decide +kernel
theorem dX5_rest_39 : decode cX5_rest 39 = .ok (.istore 5, 2) := by decide +kernel
