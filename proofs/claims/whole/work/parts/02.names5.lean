theorem dX5_rest_41 : decode cX5_rest 41 = .ok (.iload 5, 2) := by decide +kernel
theorem dX5_rest_43 : decode cX5_rest 43 = .ok (.ifCond .eq 9, 3) := by decide +kernel
theorem dX5_rest_46 : decode cX5_rest 46 = .ok (.iload 5, 2) := by decide +kernel
theorem dX5_rest_48 : decode cX5_rest 48 = .ok (.invokestatic 91, 3) := by decide +kernel
theorem dX5_rest_51 : decode cX5_rest 51 = .ok (.ireturn, 1) := by decide +kernel
theorem dX5_rest_52 : decode cX5_rest 52 = .ok (.iload_n 2, 1) := by decide +kernel
theorem dX5_rest_53 : decode cX5_rest 53 = .ok (.aload_n 0, 1) := by decide +kernel
theorem dX5_rest_54 : decode cX5_rest 54 = .ok (.iload_n 1, 1) := by decide +kernel
theorem dX5_rest_55 : decode cX5_rest 55 = .ok (.iload_n 3, 1) := by decide +kernel
theorem dX5_rest_56 : decode cX5_rest 56 = .ok (.invokevirtual 95, 3) := by decide +kernel
theorem dX5_rest_59 : decode cX5_rest 59 = .ok (.invokestatic 103, 3) := by decide +kernel
theorem dX5_rest_62 : decode cX5_rest 62 = .ok (.dstore 6, 2) := by decide +kernel
theorem dX5_rest_64 : decode cX5_rest 64 = .ok (.iload_n 2, 1) := by decide +kernel
theorem dX5_rest_65 : decode cX5_rest 65 = .ok (.aload_n 0, 1) := by decide +kernel
theorem dX5_rest_66 : decode cX5_rest 66 = .ok (.iload_n 1, 1) := by decide +kernel
theorem dX5_rest_67 : decode cX5_rest 67 = .ok (.iload 4, 2) := by decide +kernel
theorem dX5_rest_69 : decode cX5_rest 69 = .ok (.invokevirtual 95, 3) := by decide +kernel
theorem dX5_rest_72 : decode cX5_rest 72 = .ok (.invokestatic 103, 3) := by decide +kernel
theorem dX5_rest_75 : decode cX5_rest 75 = .ok (.dstore 8, 2) := by decide +kernel
theorem dX5_rest_77 : decode cX5_rest 77 = .ok (.dload 6, 2) := by decide +kernel
theorem dX5_rest_79 : decode cX5_rest 79 = .ok (.invokestatic 107, 3) := by decide +kernel
theorem dX5_rest_82 : decode cX5_rest 82 = .ok (.ifCond .ne 10, 3) := by decide +kernel
theorem dX5_rest_85 : decode cX5_rest 85 = .ok (.dload 8, 2) := by decide +kernel
theorem dX5_rest_87 : decode cX5_rest 87 = .ok (.dconst 0, 1) := by decide +kernel
theorem dX5_rest_88 : decode cX5_rest 88 = .ok (.dcmp .l, 1) := by decide +kernel
theorem dX5_rest_89 : decode cX5_rest 89 = .ok (.ifCond .ne 8, 3) := by decide +kernel
theorem dX5_rest_92 : decode cX5_rest 92 = .ok (.iconst 4, 1) := by decide +kernel
theorem dX5_rest_93 : decode cX5_rest 93 = .ok (.invokestatic 91, 3) := by decide +kernel
theorem dX5_rest_96 : decode cX5_rest 96 = .ok (.ireturn, 1) := by decide +kernel
theorem dX5_rest_97 : decode cX5_rest 97 = .ok (.aload_n 0, 1) := by decide +kernel
theorem dX5_rest_98 : decode cX5_rest 98 = .ok (.iload_n 2, 1) := by decide +kernel
theorem dX5_rest_99 : decode cX5_rest 99 = .ok (.dload 6, 2) := by decide +kernel
theorem dX5_rest_101 : decode cX5_rest 101 = .ok (.dload 8, 2) := by decide +kernel
theorem dX5_rest_103 : decode cX5_rest 103 = .ok (.drem, 1) := by decide +kernel
theorem dX5_rest_104 : decode cX5_rest 104 = .ok (.invokestatic 111, 3) := by decide +kernel
theorem dX5_rest_107 : decode cX5_rest 107 = .ok (.putfield 99, 3) := by decide +kernel
theorem dX5_rest_110 : decode cX5_rest 110 = .ok (.iconst 1, 1) := by decide +kernel
theorem dX5_rest_111 : decode cX5_rest 111 = .ok (.ireturn, 1) := by decide +kernel
set_option maxRecDepth 20000 in
theorem ggX5_turn_X5_in : GoodIn wsX5_turn wsX5_in := goodIn_r _ [5] (by decide +kernel) (by decide +kernel)
set_option maxRecDepth 20000 in
theorem gX5_turn_X5_in : GoodIn wsX5_turn (va_wsS RX5 71 yX5_in wsX5_in) := goodIn_app (goodIn_of _ (by decide +kernel)) ggX5_turn_X5_in
set_option maxRecDepth 20000 in
theorem ggX5_turn_X5_askedItem : GoodIn wsX5_turn wsX5_askedItem := goodIn_r _ [9, 10, 11, 12, 13, 14, 4, 15, 16, 2, 3, 5, 61, 62, 63, 64, 65, 66, 67, 68, 69, 70, 71, 72] (by decide +kernel) (by decide +kernel)
set_option maxRecDepth 20000 in
theorem gX5_turn_X5_askedItem : GoodIn wsX5_turn (wsV RX5 87 RX5 yX5_askedItem wsX5_askedItem) := goodIn_app (goodIn_of _ (by decide +kernel)) ggX5_turn_X5_askedItem
set_option maxRecDepth 20000 in
theorem ggX5_turn_X5_fails : GoodIn wsX5_turn wsX5_fails := goodIn_r _ [19] (by decide +kernel) (by decide +kernel)
set_option maxRecDepth 20000 in
theorem gX5_turn_X5_fails : GoodIn wsX5_turn (va_wsS RX5 91 yX5_fails wsX5_fails) := goodIn_app (goodIn_of _ (by decide +kernel)) ggX5_turn_X5_fails
set_option maxRecDepth 20000 in
theorem ggX5_turn_X5_item : GoodIn wsX5_turn wsX5_item := goodIn_r _ [23, 24, 11, 61, 62, 63, 64, 65, 66, 67, 68, 69, 70, 71, 72] (by decide +kernel) (by decide +kernel)
set_option maxRecDepth 20000 in
theorem gX5_turn_X5_item : GoodIn wsX5_turn (wsV RX5 95 RX5 yX5_item wsX5_item) := goodIn_app (goodIn_of _ (by decide +kernel)) ggX5_turn_X5_item
set_option maxRecDepth 20000 in
theorem ggX5_turn_X5_number : GoodIn wsX5_turn wsX5_number := goodIn_r _ [27, 28, 29, 30, 31, 32, 33, 34, 35] (by decide +kernel) (by decide +kernel)
set_option maxRecDepth 20000 in
theorem gX5_turn_X5_number : GoodIn wsX5_turn (va_wsS RX5 103 yX5_number wsX5_number) := goodIn_app (goodIn_of _ (by decide +kernel)) ggX5_turn_X5_number
set_option maxRecDepth 20000 in
theorem ggX5_turn_X5_bitsOf : GoodIn wsX5_turn wsX5_bitsOf := goodIn_r _ [38, 39, 40, 41, 42, 43, 44, 45, 31, 46, 47, 48, 49, 50, 51, 52, 53, 54, 55, 56, 35, 57, 58, 59, 60] (by decide +kernel) (by decide +kernel)
set_option maxRecDepth 20000 in
theorem gX5_turn_X5_bitsOf : GoodIn wsX5_turn (va_wsS RX5 111 yX5_bitsOf wsX5_bitsOf) := goodIn_app (goodIn_of _ (by decide +kernel)) ggX5_turn_X5_bitsOf
theorem dX5_turn_0 : decode cX5_turn 0 = .ok (.iload_n 1, 1) := by decide +kernel
theorem dX5_turn_1 : decode cX5_turn 1 = .ok (.iconst 0, 1) := by decide +kernel
theorem dX5_turn_2 : decode cX5_turn 2 = .ok (.bipush 7, 2) := by decide +kernel
theorem dX5_turn_4 : decode cX5_turn 4 = .ok (.invokestatic 71, 3) := by decide +kernel
theorem dX5_turn_7 : decode cX5_turn 7 = .ok (.ifCond .eq 14, 3) := by decide +kernel
theorem dX5_turn_10 : decode cX5_turn 10 = .ok (.iload 4, 2) := by decide +kernel
theorem dX5_turn_12 : decode cX5_turn 12 = .ok (.iconst 0, 1) := by decide +kernel
theorem dX5_turn_13 : decode cX5_turn 13 = .ok (.bipush 6, 2) := by decide +kernel
theorem dX5_turn_15 : decode cX5_turn 15 = .ok (.invokestatic 71, 3) := by decide +kernel
theorem dX5_turn_18 : decode cX5_turn 18 = .ok (.ifCond .ne 5, 3) := by decide +kernel
theorem dX5_turn_21 : decode cX5_turn 21 = .ok (.iconst (-1), 1) := by decide +kernel
theorem dX5_turn_22 : decode cX5_turn 22 = .ok (.ireturn, 1) := by decide +kernel
theorem dX5_turn_23 : decode cX5_turn 23 = .ok (.aload_n 0, 1) := by decide +kernel
theorem dX5_turn_24 : decode cX5_turn 24 = .ok (.iload_n 1, 1) := by decide +kernel
theorem dX5_turn_25 : decode cX5_turn 25 = .ok (.iload_n 2, 1) := by decide +kernel
theorem dX5_turn_26 : decode cX5_turn 26 = .ok (.iload_n 3, 1) := by decide +kernel
theorem dX5_turn_27 : decode cX5_turn 27 = .ok (.invokevirtual 87, 3) := by decide +kernel
theorem dX5_turn_30 : decode cX5_turn 30 = .ok (.istore 5, 2) := by decide +kernel
theorem dX5_turn_32 : decode cX5_turn 32 = .ok (.iload 5, 2) := by decide +kernel
theorem dX5_turn_34 : decode cX5_turn 34 = .ok (.ifCond .eq 9, 3) := by decide +kernel
theorem dX5_turn_37 : decode cX5_turn 37 = .ok (.iload 5, 2) := by decide +kernel
theorem dX5_turn_39 : decode cX5_turn 39 = .ok (.invokestatic 91, 3) := by decide +kernel
theorem dX5_turn_42 : decode cX5_turn 42 = .ok (.ireturn, 1) := by decide +kernel
theorem dX5_turn_43 : decode cX5_turn 43 = .ok (.iload_n 2, 1) := by decide +kernel
theorem dX5_turn_44 : decode cX5_turn 44 = .ok (.aload_n 0, 1) := by decide +kernel
theorem dX5_turn_45 : decode cX5_turn 45 = .ok (.iload_n 1, 1) := by decide +kernel
theorem dX5_turn_46 : decode cX5_turn 46 = .ok (.iload_n 3, 1) := by decide +kernel
theorem dX5_turn_47 : decode cX5_turn 47 = .ok (.invokevirtual 95, 3) := by decide +kernel
theorem dX5_turn_50 : decode cX5_turn 50 = .ok (.invokestatic 103, 3) := by decide +kernel
theorem dX5_turn_53 : decode cX5_turn 53 = .ok (.dstore 6, 2) := by decide +kernel
theorem dX5_turn_55 : decode cX5_turn 55 = .ok (.dload 6, 2) := by decide +kernel
theorem dX5_turn_57 : decode cX5_turn 57 = .ok (.d2i, 1) := by decide +kernel
theorem dX5_turn_58 : decode cX5_turn 58 = .ok (.istore 8, 2) := by decide +kernel
theorem dX5_turn_60 : decode cX5_turn 60 = .ok (.iload 4, 2) := by decide +kernel
theorem dX5_turn_62 : decode cX5_turn 62 = .ok (.tableswitch 104 0 5 #[38, 49, 60, 71, 81, 91], 38) := by decide +kernel
theorem dX5_turn_100 : decode cX5_turn 100 = .ok (.aload_n 0, 1) := by decide +kernel
theorem dX5_turn_101 : decode cX5_turn 101 = .ok (.iload 8, 2) := by decide +kernel
theorem dX5_turn_103 : decode cX5_turn 103 = .ok (.i2b, 1) := by decide +kernel
theorem dX5_turn_104 : decode cX5_turn 104 = .ok (.i2l, 1) := by decide +kernel
theorem dX5_turn_105 : decode cX5_turn 105 = .ok (.putfield 99, 3) := by decide +kernel
theorem dX5_turn_108 : decode cX5_turn 108 = .ok (.goto 68, 3) := by decide +kernel
theorem dX5_turn_111 : decode cX5_turn 111 = .ok (.aload_n 0, 1) := by decide +kernel
theorem dX5_turn_112 : decode cX5_turn 112 = .ok (.iload 8, 2) := by decide +kernel
theorem dX5_turn_114 : decode cX5_turn 114 = .ok (.i2s, 1) := by decide +kernel
theorem dX5_turn_115 : decode cX5_turn 115 = .ok (.i2l, 1) := by decide +kernel
theorem dX5_turn_116 : decode cX5_turn 116 = .ok (.putfield 99, 3) := by decide +kernel
theorem dX5_turn_119 : decode cX5_turn 119 = .ok (.goto 57, 3) := by decide +kernel
theorem dX5_turn_122 : decode cX5_turn 122 = .ok (.aload_n 0, 1) := by decide +kernel
theorem dX5_turn_123 : decode cX5_turn 123 = .ok (.iload 8, 2) := by decide +kernel
theorem dX5_turn_125 : decode cX5_turn 125 = .ok (.i2c, 1) := by decide +kernel
theorem dX5_turn_126 : decode cX5_turn 126 = .ok (.i2l, 1) := by decide +kernel
theorem dX5_turn_127 : decode cX5_turn 127 = .ok (.putfield 99, 3) := by decide +kernel
theorem dX5_turn_130 : decode cX5_turn 130 = .ok (.goto 46, 3) := by decide +kernel
theorem dX5_turn_133 : decode cX5_turn 133 = .ok (.aload_n 0, 1) := by decide +kernel
theorem dX5_turn_134 : decode cX5_turn 134 = .ok (.iload 8, 2) := by decide +kernel
theorem dX5_turn_136 : decode cX5_turn 136 = .ok (.i2l, 1) := by decide +kernel
theorem dX5_turn_137 : decode cX5_turn 137 = .ok (.putfield 99, 3) := by decide +kernel
theorem dX5_turn_140 : decode cX5_turn 140 = .ok (.goto 36, 3) := by decide +kernel
theorem dX5_turn_143 : decode cX5_turn 143 = .ok (.aload_n 0, 1) := by decide +kernel
theorem dX5_turn_144 : decode cX5_turn 144 = .ok (.dload 6, 2) := by decide +kernel
theorem dX5_turn_146 : decode cX5_turn 146 = .ok (.d2l, 1) := by decide +kernel
theorem dX5_turn_147 : decode cX5_turn 147 = .ok (.putfield 99, 3) := by decide +kernel
theorem dX5_turn_150 : decode cX5_turn 150 = .ok (.goto 26, 3) := by decide +kernel
theorem dX5_turn_153 : decode cX5_turn 153 = .ok (.aload_n 0, 1) := by decide +kernel
theorem dX5_turn_154 : decode cX5_turn 154 = .ok (.iconst 0, 1) := by decide +kernel
theorem dX5_turn_155 : decode cX5_turn 155 = .ok (.dload 6, 2) := by decide +kernel
theorem dX5_turn_157 : decode cX5_turn 157 = .ok (.invokestatic 111, 3) := by decide +kernel
theorem dX5_turn_160 : decode cX5_turn 160 = .ok (.putfield 99, 3) := by decide +kernel
theorem dX5_turn_163 : decode cX5_turn 163 = .ok (.goto 13, 3) := by decide +kernel
theorem dX5_turn_166 : decode cX5_turn 166 = .ok (.aload_n 0, 1) := by decide +kernel
theorem dX5_turn_167 : decode cX5_turn 167 = .ok (.iconst 1, 1) := by decide +kernel
theorem dX5_turn_168 : decode cX5_turn 168 = .ok (.dload 6, 2) := by decide +kernel
theorem dX5_turn_170 : decode cX5_turn 170 = .ok (.invokestatic 111, 3) := by decide +kernel
theorem dX5_turn_173 : decode cX5_turn 173 = .ok (.putfield 99, 3) := by decide +kernel
theorem dX5_turn_176 : decode cX5_turn 176 = .ok (.iconst 1, 1) := by decide +kernel
theorem dX5_turn_177 : decode cX5_turn 177 = .ok (.ireturn, 1) := by decide +kernel
set_option maxRecDepth 20000 in
theorem ggX5_tide_X5_in : GoodIn wsX5_tide wsX5_in := goodIn_r _ [9] (by decide +kernel) (by decide +kernel)
set_option maxRecDepth 20000 in
theorem gX5_tide_X5_in : GoodIn wsX5_tide (va_wsS RX5 71 yX5_in wsX5_in) := goodIn_app (goodIn_of _ (by decide +kernel)) ggX5_tide_X5_in
set_option maxRecDepth 20000 in
theorem ggX5_tide_X5_askedItem : GoodIn wsX5_tide wsX5_askedItem := goodIn_r _ [13, 14, 5, 15, 16, 17, 8, 18, 19, 6, 7, 9, 68, 69, 70, 71, 72, 73, 74, 75, 76, 77, 78, 79] (by decide +kernel) (by decide +kernel)
set_option maxRecDepth 20000 in
theorem gX5_tide_X5_askedItem : GoodIn wsX5_tide (wsV RX5 87 RX5 yX5_askedItem wsX5_askedItem) := goodIn_app (goodIn_of _ (by decide +kernel)) ggX5_tide_X5_askedItem
set_option maxRecDepth 20000 in
theorem ggX5_tide_X5_fails : GoodIn wsX5_tide wsX5_fails := goodIn_r _ [22] (by decide +kernel) (by decide +kernel)
set_option maxRecDepth 20000 in
theorem gX5_tide_X5_fails : GoodIn wsX5_tide (va_wsS RX5 91 yX5_fails wsX5_fails) := goodIn_app (goodIn_of _ (by decide +kernel)) ggX5_tide_X5_fails
set_option maxRecDepth 20000 in
theorem ggX5_tide_X5_item : GoodIn wsX5_tide wsX5_item := goodIn_r _ [26, 4, 5, 68, 69, 70, 71, 72, 73, 74, 75, 76, 77, 78, 79] (by decide +kernel) (by decide +kernel)
set_option maxRecDepth 20000 in
theorem gX5_tide_X5_item : GoodIn wsX5_tide (wsV RX5 95 RX5 yX5_item wsX5_item) := goodIn_app (goodIn_of _ (by decide +kernel)) ggX5_tide_X5_item
set_option maxRecDepth 20000 in
theorem ggX5_tide_X5_number : GoodIn wsX5_tide wsX5_number := goodIn_r _ [29, 30, 31, 32, 33, 34, 35, 36, 37] (by decide +kernel) (by decide +kernel)
set_option maxRecDepth 20000 in
theorem gX5_tide_X5_number : GoodIn wsX5_tide (va_wsS RX5 103 yX5_number wsX5_number) := goodIn_app (goodIn_of _ (by decide +kernel)) ggX5_tide_X5_number
set_option maxRecDepth 20000 in
theorem ggX5_tide_X5_isEndless : GoodIn wsX5_tide wsX5_isEndless := goodIn_r _ [40, 41, 42] (by decide +kernel) (by decide +kernel)
set_option maxRecDepth 20000 in
theorem gX5_tide_X5_isEndless : GoodIn wsX5_tide (va_wsS RX5 107 yX5_isEndless wsX5_isEndless) := goodIn_app (goodIn_of _ (by decide +kernel)) ggX5_tide_X5_isEndless
set_option maxRecDepth 20000 in
theorem ggX5_tide_X5_bitsOf : GoodIn wsX5_tide wsX5_bitsOf := goodIn_r _ [45, 46, 47, 48, 49, 50, 51, 52, 33, 53, 54, 55, 56, 57, 58, 59, 60, 61, 62, 63, 37, 64, 65, 66, 67] (by decide +kernel) (by decide +kernel)
set_option maxRecDepth 20000 in
theorem gX5_tide_X5_bitsOf : GoodIn wsX5_tide (va_wsS RX5 111 yX5_bitsOf wsX5_bitsOf) := goodIn_app (goodIn_of _ (by decide +kernel)) ggX5_tide_X5_bitsOf
theorem dX5_tide_0 : decode cX5_tide 0 = .ok (.iload_n 1, 1) := by decide +kernel
theorem dX5_tide_1 : decode cX5_tide 1 = .ok (.iconst 0, 1) := by decide +kernel
theorem dX5_tide_2 : decode cX5_tide 2 = .ok (.bipush 7, 2) := by decide +kernel
theorem dX5_tide_4 : decode cX5_tide 4 = .ok (.invokestatic 71, 3) := by decide +kernel
theorem dX5_tide_7 : decode cX5_tide 7 = .ok (.ifCond .ne 5, 3) := by decide +kernel
theorem dX5_tide_10 : decode cX5_tide 10 = .ok (.iconst (-1), 1) := by decide +kernel
theorem dX5_tide_11 : decode cX5_tide 11 = .ok (.ireturn, 1) := by decide +kernel
theorem dX5_tide_12 : decode cX5_tide 12 = .ok (.aload_n 0, 1) := by decide +kernel
theorem dX5_tide_13 : decode cX5_tide 13 = .ok (.iload_n 1, 1) := by decide +kernel
theorem dX5_tide_14 : decode cX5_tide 14 = .ok (.iload_n 2, 1) := by decide +kernel
theorem dX5_tide_15 : decode cX5_tide 15 = .ok (.iload_n 3, 1) := by decide +kernel
theorem dX5_tide_16 : decode cX5_tide 16 = .ok (.invokevirtual 87, 3) := by decide +kernel
theorem dX5_tide_19 : decode cX5_tide 19 = .ok (.istore 5, 2) := by decide +kernel
theorem dX5_tide_21 : decode cX5_tide 21 = .ok (.iload 5, 2) := by decide +kernel
theorem dX5_tide_23 : decode cX5_tide 23 = .ok (.ifCond .eq 9, 3) := by decide +kernel
theorem dX5_tide_26 : decode cX5_tide 26 = .ok (.iload 5, 2) := by decide +kernel
theorem dX5_tide_28 : decode cX5_tide 28 = .ok (.invokestatic 91, 3) := by decide +kernel
theorem dX5_tide_31 : decode cX5_tide 31 = .ok (.ireturn, 1) := by decide +kernel
theorem dX5_tide_32 : decode cX5_tide 32 = .ok (.iload_n 2, 1) := by decide +kernel
theorem dX5_tide_33 : decode cX5_tide 33 = .ok (.aload_n 0, 1) := by decide +kernel
theorem dX5_tide_34 : decode cX5_tide 34 = .ok (.iload_n 1, 1) := by decide +kernel
theorem dX5_tide_35 : decode cX5_tide 35 = .ok (.iconst 0, 1) := by decide +kernel
theorem dX5_tide_36 : decode cX5_tide 36 = .ok (.invokevirtual 95, 3) := by decide +kernel
theorem dX5_tide_39 : decode cX5_tide 39 = .ok (.invokestatic 103, 3) := by decide +kernel
theorem dX5_tide_42 : decode cX5_tide 42 = .ok (.dstore 6, 2) := by decide +kernel
theorem dX5_tide_44 : decode cX5_tide 44 = .ok (.iload_n 2, 1) := by decide +kernel
theorem dX5_tide_45 : decode cX5_tide 45 = .ok (.aload_n 0, 1) := by decide +kernel
theorem dX5_tide_46 : decode cX5_tide 46 = .ok (.iload_n 1, 1) := by decide +kernel
theorem dX5_tide_47 : decode cX5_tide 47 = .ok (.iload_n 3, 1) := by decide +kernel
theorem dX5_tide_48 : decode cX5_tide 48 = .ok (.invokevirtual 95, 3) := by decide +kernel
theorem dX5_tide_51 : decode cX5_tide 51 = .ok (.invokestatic 103, 3) := by decide +kernel
theorem dX5_tide_54 : decode cX5_tide 54 = .ok (.dstore 8, 2) := by decide +kernel
theorem dX5_tide_56 : decode cX5_tide 56 = .ok (.iload_n 2, 1) := by decide +kernel
theorem dX5_tide_57 : decode cX5_tide 57 = .ok (.ifCond .eq 16, 3) := by decide +kernel
theorem dX5_tide_60 : decode cX5_tide 60 = .ok (.dload 8, 2) := by decide +kernel
theorem dX5_tide_62 : decode cX5_tide 62 = .ok (.iload 4, 2) := by decide +kernel
theorem dX5_tide_64 : decode cX5_tide 64 = .ok (.i2d, 1) := by decide +kernel
theorem dX5_tide_65 : decode cX5_tide 65 = .ok (.ldc2_w 115, 3) := by decide +kernel
theorem dX5_tide_68 : decode cX5_tide 68 = .ok (.ddiv, 1) := by decide +kernel
theorem dX5_tide_69 : decode cX5_tide 69 = .ok (.dadd, 1) := by decide +kernel
theorem dX5_tide_70 : decode cX5_tide 70 = .ok (.goto 14, 3) := by decide +kernel
theorem dX5_tide_73 : decode cX5_tide 73 = .ok (.dload 8, 2) := by decide +kernel
theorem dX5_tide_75 : decode cX5_tide 75 = .ok (.d2f, 1) := by decide +kernel
theorem dX5_tide_76 : decode cX5_tide 76 = .ok (.iload 4, 2) := by decide +kernel
theorem dX5_tide_78 : decode cX5_tide 78 = .ok (.i2f, 1) := by decide +kernel
theorem dX5_tide_79 : decode cX5_tide 79 = .ok (.ldc 117, 2) := by decide +kernel
theorem dX5_tide_81 : decode cX5_tide 81 = .ok (.fdiv, 1) := by decide +kernel
theorem dX5_tide_82 : decode cX5_tide 82 = .ok (.fadd, 1) := by decide +kernel
theorem dX5_tide_83 : decode cX5_tide 83 = .ok (.f2d, 1) := by decide +kernel
theorem dX5_tide_84 : decode cX5_tide 84 = .ok (.dstore 10, 2) := by decide +kernel
theorem dX5_tide_86 : decode cX5_tide 86 = .ok (.dload 6, 2) := by decide +kernel
theorem dX5_tide_88 : decode cX5_tide 88 = .ok (.dconst 0, 1) := by decide +kernel
theorem dX5_tide_89 : decode cX5_tide 89 = .ok (.dcmp .l, 1) := by decide +kernel
theorem dX5_tide_90 : decode cX5_tide 90 = .ok (.ifCond .eq 18, 3) := by decide +kernel
theorem dX5_tide_93 : decode cX5_tide 93 = .ok (.dload 10, 2) := by decide +kernel
theorem dX5_tide_95 : decode cX5_tide 95 = .ok (.invokestatic 107, 3) := by decide +kernel
theorem dX5_tide_98 : decode cX5_tide 98 = .ok (.ifCond .ne 10, 3) := by decide +kernel
theorem dX5_tide_101 : decode cX5_tide 101 = .ok (.dload 10, 2) := by decide +kernel
theorem dX5_tide_103 : decode cX5_tide 103 = .ok (.dload 6, 2) := by decide +kernel
theorem dX5_tide_105 : decode cX5_tide 105 = .ok (.drem, 1) := by decide +kernel
theorem dX5_tide_106 : decode cX5_tide 106 = .ok (.dstore 10, 2) := by decide +kernel
theorem dX5_tide_108 : decode cX5_tide 108 = .ok (.aload_n 0, 1) := by decide +kernel
theorem dX5_tide_109 : decode cX5_tide 109 = .ok (.iload_n 2, 1) := by decide +kernel
theorem dX5_tide_110 : decode cX5_tide 110 = .ok (.dload 10, 2) := by decide +kernel
theorem dX5_tide_112 : decode cX5_tide 112 = .ok (.invokestatic 111, 3) := by decide +kernel
theorem dX5_tide_115 : decode cX5_tide 115 = .ok (.putfield 99, 3) := by decide +kernel
theorem dX5_tide_118 : decode cX5_tide 118 = .ok (.aload_n 0, 1) := by decide +kernel
theorem dX5_tide_119 : decode cX5_tide 119 = .ok (.getfield 18, 3) := by decide +kernel
theorem dX5_tide_122 : decode cX5_tide 122 = .ok (.bipush 12, 2) := by decide +kernel
theorem dX5_tide_124 : decode cX5_tide 124 = .ok (.aload_n 0, 1) := by decide +kernel
theorem dX5_tide_125 : decode cX5_tide 125 = .ok (.getfield 22, 3) := by decide +kernel
theorem dX5_tide_128 : decode cX5_tide 128 = .ok (.iload_n 1, 1) := by decide +kernel
theorem dX5_tide_129 : decode cX5_tide 129 = .ok (.iaload, 1) := by decide +kernel
theorem dX5_tide_130 : decode cX5_tide 130 = .ok (.imul, 1) := by decide +kernel
theorem dX5_tide_131 : decode cX5_tide 131 = .ok (.iload_n 3, 1) := by decide +kernel
theorem dX5_tide_132 : decode cX5_tide 132 = .ok (.iadd, 1) := by decide +kernel
theorem dX5_tide_133 : decode cX5_tide 133 = .ok (.aload_n 0, 1) := by decide +kernel
theorem dX5_tide_134 : decode cX5_tide 134 = .ok (.getfield 99, 3) := by decide +kernel
theorem dX5_tide_137 : decode cX5_tide 137 = .ok (.lastore, 1) := by decide +kernel
theorem dX5_tide_138 : decode cX5_tide 138 = .ok (.iconst 1, 1) := by decide +kernel
theorem dX5_tide_139 : decode cX5_tide 139 = .ok (.ireturn, 1) := by decide +kernel
set_option maxRecDepth 20000 in
theorem ggX5_sum_X5_in : GoodIn wsX5_sum wsX5_in := goodIn_r _ [7] (by decide +kernel) (by decide +kernel)
set_option maxRecDepth 20000 in
theorem gX5_sum_X5_in : GoodIn wsX5_sum (va_wsS RX5 71 yX5_in wsX5_in) := goodIn_app (goodIn_of _ (by decide +kernel)) ggX5_sum_X5_in
set_option maxRecDepth 20000 in
theorem ggX5_sum_X5_asked : GoodIn wsX5_sum wsX5_asked := goodIn_r _ [11, 2, 12, 62, 63, 64, 65, 66, 67, 68, 69, 70, 71, 72, 73] (by decide +kernel) (by decide +kernel)
set_option maxRecDepth 20000 in
theorem gX5_sum_X5_asked : GoodIn wsX5_sum (wsV RX5 79 RX5 yX5_asked wsX5_asked) := goodIn_app (goodIn_of _ (by decide +kernel)) ggX5_sum_X5_asked
set_option maxRecDepth 20000 in
theorem ggX5_sum_X5_fails : GoodIn wsX5_sum wsX5_fails := goodIn_r _ [15] (by decide +kernel) (by decide +kernel)
set_option maxRecDepth 20000 in
theorem gX5_sum_X5_fails : GoodIn wsX5_sum (va_wsS RX5 91 yX5_fails wsX5_fails) := goodIn_app (goodIn_of _ (by decide +kernel)) ggX5_sum_X5_fails
set_option maxRecDepth 20000 in
theorem ggX5_sum_X5_item : GoodIn wsX5_sum wsX5_item := goodIn_r _ [19, 20, 2, 62, 63, 64, 65, 66, 67, 68, 69, 70, 71, 72, 73] (by decide +kernel) (by decide +kernel)
set_option maxRecDepth 20000 in
theorem gX5_sum_X5_item : GoodIn wsX5_sum (wsV RX5 95 RX5 yX5_item wsX5_item) := goodIn_app (goodIn_of _ (by decide +kernel)) ggX5_sum_X5_item
set_option maxRecDepth 20000 in
theorem ggX5_sum_X5_number : GoodIn wsX5_sum wsX5_number := goodIn_r _ [23, 24, 25, 26, 27, 28, 29, 30, 31] (by decide +kernel) (by decide +kernel)
set_option maxRecDepth 20000 in
theorem gX5_sum_X5_number : GoodIn wsX5_sum (va_wsS RX5 103 yX5_number wsX5_number) := goodIn_app (goodIn_of _ (by decide +kernel)) ggX5_sum_X5_number
set_option maxRecDepth 20000 in
theorem ggX5_sum_X5_isEndless : GoodIn wsX5_sum wsX5_isEndless := goodIn_r _ [34, 35, 36] (by decide +kernel) (by decide +kernel)
set_option maxRecDepth 20000 in
theorem gX5_sum_X5_isEndless : GoodIn wsX5_sum (va_wsS RX5 107 yX5_isEndless wsX5_isEndless) := goodIn_app (goodIn_of _ (by decide +kernel)) ggX5_sum_X5_isEndless
set_option maxRecDepth 20000 in
theorem ggX5_sum_X5_bitsOf : GoodIn wsX5_sum wsX5_bitsOf := goodIn_r _ [39, 40, 41, 42, 43, 44, 45, 46, 27, 47, 48, 49, 50, 51, 52, 53, 54, 55, 56, 57, 31, 58, 59, 60, 61] (by decide +kernel) (by decide +kernel)
set_option maxRecDepth 20000 in
theorem gX5_sum_X5_bitsOf : GoodIn wsX5_sum (va_wsS RX5 111 yX5_bitsOf wsX5_bitsOf) := goodIn_app (goodIn_of _ (by decide +kernel)) ggX5_sum_X5_bitsOf
theorem dX5_sum_0 : decode cX5_sum 0 = .ok (.iload_n 1, 1) := by decide +kernel
theorem dX5_sum_1 : decode cX5_sum 1 = .ok (.iconst 0, 1) := by decide +kernel
theorem dX5_sum_2 : decode cX5_sum 2 = .ok (.bipush 7, 2) := by decide +kernel
theorem dX5_sum_4 : decode cX5_sum 4 = .ok (.invokestatic 71, 3) := by decide +kernel
theorem dX5_sum_7 : decode cX5_sum 7 = .ok (.ifCond .eq 8, 3) := by decide +kernel
theorem dX5_sum_10 : decode cX5_sum 10 = .ok (.iload 4, 2) := by decide +kernel
theorem dX5_sum_12 : decode cX5_sum 12 = .ok (.ifCond .ge 5, 3) := by decide +kernel
theorem dX5_sum_15 : decode cX5_sum 15 = .ok (.iconst (-1), 1) := by decide +kernel
theorem dX5_sum_16 : decode cX5_sum 16 = .ok (.ireturn, 1) := by decide +kernel
theorem dX5_sum_17 : decode cX5_sum 17 = .ok (.aload_n 0, 1) := by decide +kernel
theorem dX5_sum_18 : decode cX5_sum 18 = .ok (.iload_n 1, 1) := by decide +kernel
theorem dX5_sum_19 : decode cX5_sum 19 = .ok (.iload_n 2, 1) := by decide +kernel
theorem dX5_sum_20 : decode cX5_sum 20 = .ok (.invokevirtual 79, 3) := by decide +kernel
theorem dX5_sum_23 : decode cX5_sum 23 = .ok (.istore 5, 2) := by decide +kernel
theorem dX5_sum_25 : decode cX5_sum 25 = .ok (.iload 5, 2) := by decide +kernel
theorem dX5_sum_27 : decode cX5_sum 27 = .ok (.ifCond .eq 9, 3) := by decide +kernel
theorem dX5_sum_30 : decode cX5_sum 30 = .ok (.iload 5, 2) := by decide +kernel
theorem dX5_sum_32 : decode cX5_sum 32 = .ok (.invokestatic 91, 3) := by decide +kernel
theorem dX5_sum_35 : decode cX5_sum 35 = .ok (.ireturn, 1) := by decide +kernel
theorem dX5_sum_36 : decode cX5_sum 36 = .ok (.dconst 0, 1) := by decide +kernel
theorem dX5_sum_37 : decode cX5_sum 37 = .ok (.dstore 6, 2) := by decide +kernel
theorem dX5_sum_39 : decode cX5_sum 39 = .ok (.iconst 0, 1) := by decide +kernel
theorem dX5_sum_40 : decode cX5_sum 40 = .ok (.istore 8, 2) := by decide +kernel
theorem dX5_sum_42 : decode cX5_sum 42 = .ok (.iload 8, 2) := by decide +kernel
theorem dX5_sum_44 : decode cX5_sum 44 = .ok (.iload 4, 2) := by decide +kernel
theorem dX5_sum_46 : decode cX5_sum 46 = .ok (.if_icmp .ge 106, 3) := by decide +kernel
theorem dX5_sum_49 : decode cX5_sum 49 = .ok (.iload_n 3, 1) := by decide +kernel
theorem dX5_sum_50 : decode cX5_sum 50 = .ok (.iload 8, 2) := by decide +kernel
theorem dX5_sum_52 : decode cX5_sum 52 = .ok (.iadd, 1) := by decide +kernel
theorem dX5_sum_53 : decode cX5_sum 53 = .ok (.istore 9, 2) := by decide +kernel
theorem dX5_sum_55 : decode cX5_sum 55 = .ok (.iload 9, 2) := by decide +kernel
theorem dX5_sum_57 : decode cX5_sum 57 = .ok (.iconst 0, 1) := by decide +kernel
theorem dX5_sum_58 : decode cX5_sum 58 = .ok (.aload_n 0, 1) := by decide +kernel
theorem dX5_sum_59 : decode cX5_sum 59 = .ok (.getfield 13, 3) := by decide +kernel
theorem dX5_sum_62 : decode cX5_sum 62 = .ok (.aload_n 0, 1) := by decide +kernel
theorem dX5_sum_63 : decode cX5_sum 63 = .ok (.getfield 22, 3) := by decide +kernel
theorem dX5_sum_66 : decode cX5_sum 66 = .ok (.iload_n 1, 1) := by decide +kernel
theorem dX5_sum_67 : decode cX5_sum 67 = .ok (.iaload, 1) := by decide +kernel
theorem dX5_sum_68 : decode cX5_sum 68 = .ok (.iaload, 1) := by decide +kernel
theorem dX5_sum_69 : decode cX5_sum 69 = .ok (.iconst 1, 1) := by decide +kernel
theorem dX5_sum_70 : decode cX5_sum 70 = .ok (.isub, 1) := by decide +kernel
theorem dX5_sum_71 : decode cX5_sum 71 = .ok (.invokestatic 71, 3) := by decide +kernel
theorem dX5_sum_74 : decode cX5_sum 74 = .ok (.ifCond .ne 8, 3) := by decide +kernel
theorem dX5_sum_77 : decode cX5_sum 77 = .ok (.iconst 2, 1) := by decide +kernel
theorem dX5_sum_78 : decode cX5_sum 78 = .ok (.invokestatic 91, 3) := by decide +kernel
theorem dX5_sum_81 : decode cX5_sum 81 = .ok (.ireturn, 1) := by decide +kernel
theorem dX5_sum_82 : decode cX5_sum 82 = .ok (.iload_n 2, 1) := by decide +kernel
theorem dX5_sum_83 : decode cX5_sum 83 = .ok (.aload_n 0, 1) := by decide +kernel
theorem dX5_sum_84 : decode cX5_sum 84 = .ok (.iload_n 1, 1) := by decide +kernel
theorem dX5_sum_85 : decode cX5_sum 85 = .ok (.iload 9, 2) := by decide +kernel
theorem dX5_sum_87 : decode cX5_sum 87 = .ok (.invokevirtual 95, 3) := by decide +kernel
theorem dX5_sum_90 : decode cX5_sum 90 = .ok (.invokestatic 103, 3) := by decide +kernel
theorem dX5_sum_93 : decode cX5_sum 93 = .ok (.dstore 10, 2) := by decide +kernel
theorem dX5_sum_95 : decode cX5_sum 95 = .ok (.dload 6, 2) := by decide +kernel
theorem dX5_sum_97 : decode cX5_sum 97 = .ok (.invokestatic 107, 3) := by decide +kernel
theorem dX5_sum_100 : decode cX5_sum 100 = .ok (.ifCond .eq 24, 3) := by decide +kernel
theorem dX5_sum_103 : decode cX5_sum 103 = .ok (.dload 10, 2) := by decide +kernel
theorem dX5_sum_105 : decode cX5_sum 105 = .ok (.invokestatic 107, 3) := by decide +kernel
theorem dX5_sum_108 : decode cX5_sum 108 = .ok (.ifCond .eq 16, 3) := by decide +kernel
theorem dX5_sum_111 : decode cX5_sum 111 = .ok (.dload 6, 2) := by decide +kernel
theorem dX5_sum_113 : decode cX5_sum 113 = .ok (.dload 10, 2) := by decide +kernel
theorem dX5_sum_115 : decode cX5_sum 115 = .ok (.dcmp .l, 1) := by decide +kernel
theorem dX5_sum_116 : decode cX5_sum 116 = .ok (.ifCond .eq 8, 3) := by decide +kernel
theorem dX5_sum_119 : decode cX5_sum 119 = .ok (.iconst 4, 1) := by decide +kernel
theorem dX5_sum_120 : decode cX5_sum 120 = .ok (.invokestatic 91, 3) := by decide +kernel
theorem dX5_sum_123 : decode cX5_sum 123 = .ok (.ireturn, 1) := by decide +kernel
theorem dX5_sum_124 : decode cX5_sum 124 = .ok (.iload_n 2, 1) := by decide +kernel
theorem dX5_sum_125 : decode cX5_sum 125 = .ok (.ifCond .eq 11, 3) := by decide +kernel
theorem dX5_sum_128 : decode cX5_sum 128 = .ok (.dload 6, 2) := by decide +kernel
theorem dX5_sum_130 : decode cX5_sum 130 = .ok (.dload 10, 2) := by decide +kernel
theorem dX5_sum_132 : decode cX5_sum 132 = .ok (.dadd, 1) := by decide +kernel
theorem dX5_sum_133 : decode cX5_sum 133 = .ok (.goto 11, 3) := by decide +kernel
theorem dX5_sum_136 : decode cX5_sum 136 = .ok (.dload 6, 2) := by decide +kernel
theorem dX5_sum_138 : decode cX5_sum 138 = .ok (.d2f, 1) := by decide +kernel
theorem dX5_sum_139 : decode cX5_sum 139 = .ok (.dload 10, 2) := by decide +kernel
theorem dX5_sum_141 : decode cX5_sum 141 = .ok (.d2f, 1) := by decide +kernel
theorem dX5_sum_142 : decode cX5_sum 142 = .ok (.fadd, 1) := by decide +kernel
theorem dX5_sum_143 : decode cX5_sum 143 = .ok (.f2d, 1) := by decide +kernel
theorem dX5_sum_144 : decode cX5_sum 144 = .ok (.dstore 6, 2) := by decide +kernel
theorem dX5_sum_146 : decode cX5_sum 146 = .ok (.iinc 8 1, 3) := by decide +kernel
theorem dX5_sum_149 : decode cX5_sum 149 = .ok (.goto (-107), 3) := by decide +kernel
theorem dX5_sum_152 : decode cX5_sum 152 = .ok (.aload_n 0, 1) := by decide +kernel
theorem dX5_sum_153 : decode cX5_sum 153 = .ok (.iload_n 2, 1) := by decide +kernel
theorem dX5_sum_154 : decode cX5_sum 154 = .ok (.dload 6, 2) := by decide +kernel
theorem dX5_sum_156 : decode cX5_sum 156 = .ok (.invokestatic 111, 3) := by decide +kernel
theorem dX5_sum_159 : decode cX5_sum 159 = .ok (.putfield 99, 3) := by decide +kernel
theorem dX5_sum_162 : decode cX5_sum 162 = .ok (.iconst 1, 1) := by decide +kernel
theorem dX5_sum_163 : decode cX5_sum 163 = .ok (.ireturn, 1) := by decide +kernel
set_option maxRecDepth 20000 in
theorem ggX5_round_Jxf58ca_floatToIntBits_5c35a : GoodIn wsX5_round wsJxf58ca_floatToIntBits_5c35a := goodIn_r _ [4, 5, 6, 7, 8, 9, 10, 11, 3, 12] (by decide +kernel) (by decide +kernel)
set_option maxRecDepth 20000 in
theorem gX5_round_Jxf58ca_floatToIntBits_5c35a : GoodIn wsX5_round (va_wsS RX5 67 yJxf58ca_floatToIntBits_5c35a wsJxf58ca_floatToIntBits_5c35a) := goodIn_app (goodIn_of _ (by decide +kernel)) ggX5_round_Jxf58ca_floatToIntBits_5c35a
set_option maxRecDepth 20000 in
theorem ggX5_round_Jxe99ae_doubleToLongBits_ccdee : GoodIn wsX5_round wsJxe99ae_doubleToLongBits_ccdee := goodIn_r _ [16, 17, 18, 19, 20, 21, 22, 23, 15, 24] (by decide +kernel) (by decide +kernel)
set_option maxRecDepth 20000 in
theorem gX5_round_Jxe99ae_doubleToLongBits_ccdee : GoodIn wsX5_round (va_wsS RX5 63 yJxe99ae_doubleToLongBits_ccdee wsJxe99ae_doubleToLongBits_ccdee) := goodIn_app (goodIn_of _ (by decide +kernel)) ggX5_round_Jxe99ae_doubleToLongBits_ccdee
theorem dX5_round_0 : decode cX5_round 0 = .ok (.iload_n 3, 1) := by decide +kernel
theorem dX5_round_1 : decode cX5_round 1 = .ok (.tableswitch 73 0 5 #[39, 46, 50, 56, 60, 68], 39) := by decide +kernel
theorem dX5_round_40 : decode cX5_round 40 = .ok (.lload_n 1, 1) := by decide +kernel
theorem dX5_round_41 : decode cX5_round 41 = .ok (.l2f, 1) := by decide +kernel
theorem dX5_round_42 : decode cX5_round 42 = .ok (.invokestatic 67, 3) := by decide +kernel
theorem dX5_round_45 : decode cX5_round 45 = .ok (.i2l, 1) := by decide +kernel
theorem dX5_round_46 : decode cX5_round 46 = .ok (.lreturn, 1) := by decide +kernel
theorem dX5_round_47 : decode cX5_round 47 = .ok (.lload_n 1, 1) := by decide +kernel
theorem dX5_round_48 : decode cX5_round 48 = .ok (.l2f, 1) := by decide +kernel
theorem dX5_round_49 : decode cX5_round 49 = .ok (.f2l, 1) := by decide +kernel
theorem dX5_round_50 : decode cX5_round 50 = .ok (.lreturn, 1) := by decide +kernel
theorem dX5_round_51 : decode cX5_round 51 = .ok (.lload_n 1, 1) := by decide +kernel
theorem dX5_round_52 : decode cX5_round 52 = .ok (.l2d, 1) := by decide +kernel
theorem dX5_round_53 : decode cX5_round 53 = .ok (.invokestatic 63, 3) := by decide +kernel
theorem dX5_round_56 : decode cX5_round 56 = .ok (.lreturn, 1) := by decide +kernel
theorem dX5_round_57 : decode cX5_round 57 = .ok (.lload_n 1, 1) := by decide +kernel
theorem dX5_round_58 : decode cX5_round 58 = .ok (.l2d, 1) := by decide +kernel
theorem dX5_round_59 : decode cX5_round 59 = .ok (.d2l, 1) := by decide +kernel
theorem dX5_round_60 : decode cX5_round 60 = .ok (.lreturn, 1) := by decide +kernel
theorem dX5_round_61 : decode cX5_round 61 = .ok (.lload_n 1, 1) := by decide +kernel
theorem dX5_round_62 : decode cX5_round 62 = .ok (.l2d, 1) := by decide +kernel
theorem dX5_round_63 : decode cX5_round 63 = .ok (.d2f, 1) := by decide +kernel
theorem dX5_round_64 : decode cX5_round 64 = .ok (.invokestatic 67, 3) := by decide +kernel
theorem dX5_round_67 : decode cX5_round 67 = .ok (.i2l, 1) := by decide +kernel
theorem dX5_round_68 : decode cX5_round 68 = .ok (.lreturn, 1) := by decide +kernel
theorem dX5_round_69 : decode cX5_round 69 = .ok (.lload_n 1, 1) := by decide +kernel
theorem dX5_round_70 : decode cX5_round 70 = .ok (.l2f, 1) := by decide +kernel
theorem dX5_round_71 : decode cX5_round 71 = .ok (.f2i, 1) := by decide +kernel
theorem dX5_round_72 : decode cX5_round 72 = .ok (.i2l, 1) := by decide +kernel
theorem dX5_round_73 : decode cX5_round 73 = .ok (.lreturn, 1) := by decide +kernel
theorem dX5_round_74 : decode cX5_round 74 = .ok (.lload_n 1, 1) := by decide +kernel
theorem dX5_round_75 : decode cX5_round 75 = .ok (.lreturn, 1) := by decide +kernel
set_option maxRecDepth 20000 in
theorem ggX5_gauge_X5_in : GoodIn wsX5_gauge wsX5_in := goodIn_r _ [12] (by decide +kernel) (by decide +kernel)
set_option maxRecDepth 20000 in
theorem gX5_gauge_X5_in : GoodIn wsX5_gauge (va_wsS RX5 71 yX5_in wsX5_in) := goodIn_app (goodIn_of _ (by decide +kernel)) ggX5_gauge_X5_in
set_option maxRecDepth 20000 in
theorem ggX5_gauge_X5_isNumber : GoodIn wsX5_gauge wsX5_isNumber := goodIn_r _ [15, 16, 17, 18, 19] (by decide +kernel) (by decide +kernel)
set_option maxRecDepth 20000 in
theorem gX5_gauge_X5_isNumber : GoodIn wsX5_gauge (va_wsS RX5 83 yX5_isNumber wsX5_isNumber) := goodIn_app (goodIn_of _ (by decide +kernel)) ggX5_gauge_X5_isNumber
set_option maxRecDepth 20000 in
theorem ggX5_gauge_X5_isEndless : GoodIn wsX5_gauge wsX5_isEndless := goodIn_r _ [22, 23, 24] (by decide +kernel) (by decide +kernel)
set_option maxRecDepth 20000 in
theorem gX5_gauge_X5_isEndless : GoodIn wsX5_gauge (va_wsS RX5 107 yX5_isEndless wsX5_isEndless) := goodIn_app (goodIn_of _ (by decide +kernel)) ggX5_gauge_X5_isEndless
theorem dX5_gauge_0 : decode cX5_gauge 0 = .ok (.iload_n 1, 1) := by decide +kernel
theorem dX5_gauge_1 : decode cX5_gauge 1 = .ok (.iconst 0, 1) := by decide +kernel
theorem dX5_gauge_2 : decode cX5_gauge 2 = .ok (.iconst 5, 1) := by decide +kernel
theorem dX5_gauge_3 : decode cX5_gauge 3 = .ok (.invokestatic 71, 3) := by decide +kernel
theorem dX5_gauge_6 : decode cX5_gauge 6 = .ok (.ifCond .eq 20, 3) := by decide +kernel
theorem dX5_gauge_9 : decode cX5_gauge 9 = .ok (.iload_n 2, 1) := by decide +kernel
theorem dX5_gauge_10 : decode cX5_gauge 10 = .ok (.iconst 0, 1) := by decide +kernel
theorem dX5_gauge_11 : decode cX5_gauge 11 = .ok (.iconst 2, 1) := by decide +kernel
theorem dX5_gauge_12 : decode cX5_gauge 12 = .ok (.invokestatic 71, 3) := by decide +kernel
theorem dX5_gauge_15 : decode cX5_gauge 15 = .ok (.ifCond .eq 11, 3) := by decide +kernel
theorem dX5_gauge_18 : decode cX5_gauge 18 = .ok (.iconst 1, 1) := by decide +kernel
theorem dX5_gauge_19 : decode cX5_gauge 19 = .ok (.lload_n 3, 1) := by decide +kernel
theorem dX5_gauge_20 : decode cX5_gauge 20 = .ok (.invokestatic 83, 3) := by decide +kernel
theorem dX5_gauge_23 : decode cX5_gauge 23 = .ok (.ifCond .ne 5, 3) := by decide +kernel
theorem dX5_gauge_26 : decode cX5_gauge 26 = .ok (.iconst (-1), 1) := by decide +kernel
theorem dX5_gauge_27 : decode cX5_gauge 27 = .ok (.ireturn, 1) := by decide +kernel
theorem dX5_gauge_28 : decode cX5_gauge 28 = .ok (.lload_n 3, 1) := by decide +kernel
theorem dX5_gauge_29 : decode cX5_gauge 29 = .ok (.invokestatic 53, 3) := by decide +kernel
theorem dX5_gauge_32 : decode cX5_gauge 32 = .ok (.dstore 5, 2) := by decide +kernel
theorem dX5_gauge_34 : decode cX5_gauge 34 = .ok (.dload 5, 2) := by decide +kernel
theorem dX5_gauge_36 : decode cX5_gauge 36 = .ok (.dconst 0, 1) := by decide +kernel
theorem dX5_gauge_37 : decode cX5_gauge 37 = .ok (.dcmp .l, 1) := by decide +kernel
theorem dX5_gauge_38 : decode cX5_gauge 38 = .ok (.ifCond .eq 11, 3) := by decide +kernel
theorem dX5_gauge_41 : decode cX5_gauge 41 = .ok (.dload 5, 2) := by decide +kernel
theorem dX5_gauge_43 : decode cX5_gauge 43 = .ok (.invokestatic 107, 3) := by decide +kernel
theorem dX5_gauge_46 : decode cX5_gauge 46 = .ok (.ifCond .eq 5, 3) := by decide +kernel
theorem dX5_gauge_49 : decode cX5_gauge 49 = .ok (.iconst (-1), 1) := by decide +kernel
theorem dX5_gauge_50 : decode cX5_gauge 50 = .ok (.ireturn, 1) := by decide +kernel
theorem dX5_gauge_51 : decode cX5_gauge 51 = .ok (.aload_n 0, 1) := by decide +kernel
theorem dX5_gauge_52 : decode cX5_gauge 52 = .ok (.getfield 25, 3) := by decide +kernel
theorem dX5_gauge_55 : decode cX5_gauge 55 = .ok (.aload_n 0, 1) := by decide +kernel
theorem dX5_gauge_56 : decode cX5_gauge 56 = .ok (.getfield 118, 3) := by decide +kernel
theorem dX5_gauge_59 : decode cX5_gauge 59 = .ok (.iload_n 2, 1) := by decide +kernel
theorem dX5_gauge_60 : decode cX5_gauge 60 = .ok (.iastore, 1) := by decide +kernel
theorem dX5_gauge_61 : decode cX5_gauge 61 = .ok (.aload_n 0, 1) := by decide +kernel
theorem dX5_gauge_62 : decode cX5_gauge 62 = .ok (.getfield 28, 3) := by decide +kernel
theorem dX5_gauge_65 : decode cX5_gauge 65 = .ok (.aload_n 0, 1) := by decide +kernel
theorem dX5_gauge_66 : decode cX5_gauge 66 = .ok (.getfield 118, 3) := by decide +kernel
theorem dX5_gauge_69 : decode cX5_gauge 69 = .ok (.dload 5, 2) := by decide +kernel
theorem dX5_gauge_71 : decode cX5_gauge 71 = .ok (.dastore, 1) := by decide +kernel
theorem dX5_gauge_72 : decode cX5_gauge 72 = .ok (.aload_n 0, 1) := by decide +kernel
theorem dX5_gauge_73 : decode cX5_gauge 73 = .ok (.getfield 32, 3) := by decide +kernel
theorem dX5_gauge_76 : decode cX5_gauge 76 = .ok (.iload_n 1, 1) := by decide +kernel
theorem dX5_gauge_77 : decode cX5_gauge 77 = .ok (.aload_n 0, 1) := by decide +kernel
theorem dX5_gauge_78 : decode cX5_gauge 78 = .ok (.getfield 118, 3) := by decide +kernel
theorem dX5_gauge_81 : decode cX5_gauge 81 = .ok (.iastore, 1) := by decide +kernel
theorem dX5_gauge_82 : decode cX5_gauge 82 = .ok (.aload_n 0, 1) := by decide +kernel
theorem dX5_gauge_83 : decode cX5_gauge 83 = .ok (.dup, 1) := by decide +kernel
theorem dX5_gauge_84 : decode cX5_gauge 84 = .ok (.getfield 118, 3) := by decide +kernel
theorem dX5_gauge_87 : decode cX5_gauge 87 = .ok (.iconst 1, 1) := by decide +kernel
theorem dX5_gauge_88 : decode cX5_gauge 88 = .ok (.iadd, 1) := by decide +kernel
theorem dX5_gauge_89 : decode cX5_gauge 89 = .ok (.putfield 118, 3) := by decide +kernel
theorem dX5_gauge_92 : decode cX5_gauge 92 = .ok (.iconst 1, 1) := by decide +kernel
theorem dX5_gauge_93 : decode cX5_gauge 93 = .ok (.ireturn, 1) := by decide +kernel
theorem dX5_tells_0 : decode cX5_tells 0 = .ok (.aload_n 0, 1) := by decide +kernel
theorem dX5_tells_1 : decode cX5_tells 1 = .ok (.getfield 28, 3) := by decide +kernel
theorem dX5_tells_4 : decode cX5_tells 4 = .ok (.iload_n 1, 1) := by decide +kernel
theorem dX5_tells_5 : decode cX5_tells 5 = .ok (.daload, 1) := by decide +kernel
theorem dX5_tells_6 : decode cX5_tells 6 = .ok (.dstore 4, 2) := by decide +kernel
theorem dX5_tells_8 : decode cX5_tells 8 = .ok (.dload_n 2, 1) := by decide +kernel
theorem dX5_tells_9 : decode cX5_tells 9 = .ok (.dload_n 2, 1) := by decide +kernel
theorem dX5_tells_10 : decode cX5_tells 10 = .ok (.dload 4, 2) := by decide +kernel
theorem dX5_tells_12 : decode cX5_tells 12 = .ok (.drem, 1) := by decide +kernel
theorem dX5_tells_13 : decode cX5_tells 13 = .ok (.dsub, 1) := by decide +kernel
theorem dX5_tells_14 : decode cX5_tells 14 = .ok (.dstore 6, 2) := by decide +kernel
theorem dX5_tells_16 : decode cX5_tells 16 = .ok (.aload_n 0, 1) := by decide +kernel
theorem dX5_tells_17 : decode cX5_tells 17 = .ok (.getfield 25, 3) := by decide +kernel
theorem dX5_tells_20 : decode cX5_tells 20 = .ok (.iload_n 1, 1) := by decide +kernel
theorem dX5_tells_21 : decode cX5_tells 21 = .ok (.iaload, 1) := by decide +kernel
theorem dX5_tells_22 : decode cX5_tells 22 = .ok (.ifCond .ne 6, 3) := by decide +kernel
theorem dX5_tells_25 : decode cX5_tells 25 = .ok (.dload 6, 2) := by decide +kernel
theorem dX5_tells_27 : decode cX5_tells 27 = .ok (.dreturn, 1) := by decide +kernel
theorem dX5_tells_28 : decode cX5_tells 28 = .ok (.dload_n 2, 1) := by decide +kernel
theorem dX5_tells_29 : decode cX5_tells 29 = .ok (.dload 6, 2) := by decide +kernel
theorem dX5_tells_31 : decode cX5_tells 31 = .ok (.dsub, 1) := by decide +kernel
theorem dX5_tells_32 : decode cX5_tells 32 = .ok (.dstore 8, 2) := by decide +kernel
theorem dX5_tells_34 : decode cX5_tells 34 = .ok (.dload 8, 2) := by decide +kernel
theorem dX5_tells_36 : decode cX5_tells 36 = .ok (.dconst 0, 1) := by decide +kernel
theorem dX5_tells_37 : decode cX5_tells 37 = .ok (.dcmp .g, 1) := by decide +kernel
theorem dX5_tells_38 : decode cX5_tells 38 = .ok (.ifCond .ge 24, 3) := by decide +kernel
theorem dX5_tells_41 : decode cX5_tells 41 = .ok (.dload 8, 2) := by decide +kernel
theorem dX5_tells_43 : decode cX5_tells 43 = .ok (.dload 4, 2) := by decide +kernel
theorem dX5_tells_45 : decode cX5_tells 45 = .ok (.dconst 0, 1) := by decide +kernel
theorem dX5_tells_46 : decode cX5_tells 46 = .ok (.dcmp .g, 1) := by decide +kernel
theorem dX5_tells_47 : decode cX5_tells 47 = .ok (.ifCond .ge 9, 3) := by decide +kernel
theorem dX5_tells_50 : decode cX5_tells 50 = .ok (.dload 4, 2) := by decide +kernel
theorem dX5_tells_52 : decode cX5_tells 52 = .ok (.dneg, 1) := by decide +kernel
theorem dX5_tells_53 : decode cX5_tells 53 = .ok (.goto 5, 3) := by decide +kernel
theorem dX5_tells_56 : decode cX5_tells 56 = .ok (.dload 4, 2) := by decide +kernel
theorem dX5_tells_58 : decode cX5_tells 58 = .ok (.dadd, 1) := by decide +kernel
theorem dX5_tells_59 : decode cX5_tells 59 = .ok (.goto 5, 3) := by decide +kernel
theorem dX5_tells_62 : decode cX5_tells 62 = .ok (.dload 8, 2) := by decide +kernel
theorem dX5_tells_64 : decode cX5_tells 64 = .ok (.dreturn, 1) := by decide +kernel
set_option maxRecDepth 20000 in
theorem ggX5_read_X5_in : GoodIn wsX5_read wsX5_in := goodIn_r _ [11] (by decide +kernel) (by decide +kernel)
set_option maxRecDepth 20000 in
theorem gX5_read_X5_in : GoodIn wsX5_read (va_wsS RX5 71 yX5_in wsX5_in) := goodIn_app (goodIn_of _ (by decide +kernel)) ggX5_read_X5_in
set_option maxRecDepth 20000 in
theorem ggX5_read_X5_isNumber : GoodIn wsX5_read wsX5_isNumber := goodIn_r _ [14, 15, 16, 17, 18] (by decide +kernel) (by decide +kernel)
set_option maxRecDepth 20000 in
theorem gX5_read_X5_isNumber : GoodIn wsX5_read (va_wsS RX5 83 yX5_isNumber wsX5_isNumber) := goodIn_app (goodIn_of _ (by decide +kernel)) ggX5_read_X5_isNumber
set_option maxRecDepth 20000 in
theorem ggX5_read_X5_fails : GoodIn wsX5_read wsX5_fails := goodIn_r _ [21] (by decide +kernel) (by decide +kernel)
set_option maxRecDepth 20000 in
theorem gX5_read_X5_fails : GoodIn wsX5_read (va_wsS RX5 91 yX5_fails wsX5_fails) := goodIn_app (goodIn_of _ (by decide +kernel)) ggX5_read_X5_fails
set_option maxRecDepth 20000 in
theorem ggX5_read_Jxf58ca_floatToIntBits_5c35a : GoodIn wsX5_read wsJxf58ca_floatToIntBits_5c35a := goodIn_r _ [25, 26, 27, 28, 29, 30, 31, 32, 24, 33] (by decide +kernel) (by decide +kernel)
set_option maxRecDepth 20000 in
theorem gX5_read_Jxf58ca_floatToIntBits_5c35a : GoodIn wsX5_read (va_wsS RX5 67 yJxf58ca_floatToIntBits_5c35a wsJxf58ca_floatToIntBits_5c35a) := goodIn_app (goodIn_of _ (by decide +kernel)) ggX5_read_Jxf58ca_floatToIntBits_5c35a
set_option maxRecDepth 20000 in
theorem ggX5_read_Jxe99ae_doubleToLongBits_ccdee : GoodIn wsX5_read wsJxe99ae_doubleToLongBits_ccdee := goodIn_r _ [37, 38, 39, 40, 5, 41, 42, 43, 36, 44] (by decide +kernel) (by decide +kernel)
set_option maxRecDepth 20000 in
theorem gX5_read_Jxe99ae_doubleToLongBits_ccdee : GoodIn wsX5_read (va_wsS RX5 63 yJxe99ae_doubleToLongBits_ccdee wsJxe99ae_doubleToLongBits_ccdee) := goodIn_app (goodIn_of _ (by decide +kernel)) ggX5_read_Jxe99ae_doubleToLongBits_ccdee
set_option maxRecDepth 20000 in
theorem ggX5_read_X5_isEndless : GoodIn wsX5_read wsX5_isEndless := goodIn_r _ [47, 48, 49] (by decide +kernel) (by decide +kernel)
set_option maxRecDepth 20000 in
theorem gX5_read_X5_isEndless : GoodIn wsX5_read (va_wsS RX5 107 yX5_isEndless wsX5_isEndless) := goodIn_app (goodIn_of _ (by decide +kernel)) ggX5_read_X5_isEndless
set_option maxRecDepth 20000 in
theorem ggX5_read_X5_tells : GoodIn wsX5_read wsX5_tells := goodIn_r _ [53, 54, 6, 58, 59, 60, 61, 62, 63, 64, 65, 66, 67, 68, 69] (by decide +kernel) (by decide +kernel)
set_option maxRecDepth 20000 in
theorem gX5_read_X5_tells : GoodIn wsX5_read (wsV RX5 121 RX5 yX5_tells wsX5_tells) := goodIn_app (goodIn_of _ (by decide +kernel)) ggX5_read_X5_tells
set_option maxRecDepth 20000 in
theorem ggX5_read_X5_bitsOf : GoodIn wsX5_read wsX5_bitsOf := goodIn_r _ [57, 34, 35, 36, 37, 38, 39, 40, 5, 41, 42, 43, 44, 22, 23, 24, 25, 26, 27, 28, 29, 30, 31, 32, 33] (by decide +kernel) (by decide +kernel)
set_option maxRecDepth 20000 in
theorem gX5_read_X5_bitsOf : GoodIn wsX5_read (va_wsS RX5 111 yX5_bitsOf wsX5_bitsOf) := goodIn_app (goodIn_of _ (by decide +kernel)) ggX5_read_X5_bitsOf
theorem dX5_read_0 : decode cX5_read 0 = .ok (.iload_n 1, 1) := by decide +kernel
theorem dX5_read_1 : decode cX5_read 1 = .ok (.iconst 0, 1) := by decide +kernel
theorem dX5_read_2 : decode cX5_read 2 = .ok (.iconst 5, 1) := by decide +kernel
theorem dX5_read_3 : decode cX5_read 3 = .ok (.invokestatic 71, 3) := by decide +kernel
theorem dX5_read_6 : decode cX5_read 6 = .ok (.ifCond .eq 11, 3) := by decide +kernel
theorem dX5_read_9 : decode cX5_read 9 = .ok (.iconst 1, 1) := by decide +kernel
theorem dX5_read_10 : decode cX5_read 10 = .ok (.lload_n 2, 1) := by decide +kernel
theorem dX5_read_11 : decode cX5_read 11 = .ok (.invokestatic 83, 3) := by decide +kernel
theorem dX5_read_14 : decode cX5_read 14 = .ok (.ifCond .ne 5, 3) := by decide +kernel
theorem dX5_read_17 : decode cX5_read 17 = .ok (.iconst (-1), 1) := by decide +kernel
theorem dX5_read_18 : decode cX5_read 18 = .ok (.ireturn, 1) := by decide +kernel
theorem dX5_read_19 : decode cX5_read 19 = .ok (.aload_n 0, 1) := by decide +kernel
theorem dX5_read_20 : decode cX5_read 20 = .ok (.getfield 32, 3) := by decide +kernel
theorem dX5_read_23 : decode cX5_read 23 = .ok (.iload_n 1, 1) := by decide +kernel
theorem dX5_read_24 : decode cX5_read 24 = .ok (.iaload, 1) := by decide +kernel
theorem dX5_read_25 : decode cX5_read 25 = .ok (.istore 5, 2) := by decide +kernel
theorem dX5_read_27 : decode cX5_read 27 = .ok (.iload 5, 2) := by decide +kernel
theorem dX5_read_29 : decode cX5_read 29 = .ok (.ifCond .ge 8, 3) := by decide +kernel
theorem dX5_read_32 : decode cX5_read 32 = .ok (.iconst 1, 1) := by decide +kernel
theorem dX5_read_33 : decode cX5_read 33 = .ok (.invokestatic 91, 3) := by decide +kernel
theorem dX5_read_36 : decode cX5_read 36 = .ok (.ireturn, 1) := by decide +kernel
theorem dX5_read_37 : decode cX5_read 37 = .ok (.lload_n 2, 1) := by decide +kernel
theorem dX5_read_38 : decode cX5_read 38 = .ok (.invokestatic 53, 3) := by decide +kernel
theorem dX5_read_41 : decode cX5_read 41 = .ok (.dstore 6, 2) := by decide +kernel
theorem dX5_read_43 : decode cX5_read 43 = .ok (.aload_n 0, 1) := by decide +kernel
theorem dX5_read_44 : decode cX5_read 44 = .ok (.getfield 25, 3) := by decide +kernel
theorem dX5_read_47 : decode cX5_read 47 = .ok (.iload 5, 2) := by decide +kernel
theorem dX5_read_49 : decode cX5_read 49 = .ok (.iaload, 1) := by decide +kernel
theorem dX5_read_50 : decode cX5_read 50 = .ok (.iconst 2, 1) := by decide +kernel
theorem dX5_read_51 : decode cX5_read 51 = .ok (.if_icmp .ne 33, 3) := by decide +kernel
theorem dX5_read_54 : decode cX5_read 54 = .ok (.aload_n 0, 1) := by decide +kernel
theorem dX5_read_55 : decode cX5_read 55 = .ok (.iload 4, 2) := by decide +kernel
theorem dX5_read_57 : decode cX5_read 57 = .ok (.ifCond .eq 15, 3) := by decide +kernel
theorem dX5_read_60 : decode cX5_read 60 = .ok (.dload 6, 2) := by decide +kernel
theorem dX5_read_62 : decode cX5_read 62 = .ok (.d2f, 1) := by decide +kernel
theorem dX5_read_63 : decode cX5_read 63 = .ok (.f2l, 1) := by decide +kernel
theorem dX5_read_64 : decode cX5_read 64 = .ok (.l2f, 1) := by decide +kernel
theorem dX5_read_65 : decode cX5_read 65 = .ok (.invokestatic 67, 3) := by decide +kernel
theorem dX5_read_68 : decode cX5_read 68 = .ok (.i2l, 1) := by decide +kernel
theorem dX5_read_69 : decode cX5_read 69 = .ok (.goto 10, 3) := by decide +kernel
theorem dX5_read_72 : decode cX5_read 72 = .ok (.dload 6, 2) := by decide +kernel
theorem dX5_read_74 : decode cX5_read 74 = .ok (.d2l, 1) := by decide +kernel
theorem dX5_read_75 : decode cX5_read 75 = .ok (.l2d, 1) := by decide +kernel
theorem dX5_read_76 : decode cX5_read 76 = .ok (.invokestatic 63, 3) := by decide +kernel
theorem dX5_read_79 : decode cX5_read 79 = .ok (.putfield 99, 3) := by decide +kernel
theorem dX5_read_82 : decode cX5_read 82 = .ok (.iconst 1, 1) := by decide +kernel
theorem dX5_read_83 : decode cX5_read 83 = .ok (.ireturn, 1) := by decide +kernel
theorem dX5_read_84 : decode cX5_read 84 = .ok (.dload 6, 2) := by decide +kernel
theorem dX5_read_86 : decode cX5_read 86 = .ok (.invokestatic 107, 3) := by decide +kernel
theorem dX5_read_89 : decode cX5_read 89 = .ok (.ifCond .eq 8, 3) := by decide +kernel
theorem dX5_read_92 : decode cX5_read 92 = .ok (.iconst 4, 1) := by decide +kernel
theorem dX5_read_93 : decode cX5_read 93 = .ok (.invokestatic 91, 3) := by decide +kernel
theorem dX5_read_96 : decode cX5_read 96 = .ok (.ireturn, 1) := by decide +kernel
theorem dX5_read_97 : decode cX5_read 97 = .ok (.aload_n 0, 1) := by decide +kernel
theorem dX5_read_98 : decode cX5_read 98 = .ok (.iload 4, 2) := by decide +kernel
theorem dX5_read_100 : decode cX5_read 100 = .ok (.ifCond .ne 7, 3) := by decide +kernel
theorem dX5_read_103 : decode cX5_read 103 = .ok (.iconst 1, 1) := by decide +kernel
theorem dX5_read_104 : decode cX5_read 104 = .ok (.goto 4, 3) := by decide +kernel
theorem dX5_read_107 : decode cX5_read 107 = .ok (.iconst 0, 1) := by decide +kernel
theorem dX5_read_108 : decode cX5_read 108 = .ok (.aload_n 0, 1) := by decide +kernel
theorem dX5_read_109 : decode cX5_read 109 = .ok (.iload 5, 2) := by decide +kernel
theorem dX5_read_111 : decode cX5_read 111 = .ok (.dload 6, 2) := by decide +kernel
theorem dX5_read_113 : decode cX5_read 113 = .ok (.invokevirtual 121, 3) := by decide +kernel
theorem dX5_read_116 : decode cX5_read 116 = .ok (.invokestatic 111, 3) := by decide +kernel
theorem dX5_read_119 : decode cX5_read 119 = .ok (.putfield 99, 3) := by decide +kernel
theorem dX5_read_122 : decode cX5_read 122 = .ok (.iconst 1, 1) := by decide +kernel
theorem dX5_read_123 : decode cX5_read 123 = .ok (.ireturn, 1) := by decide +kernel
theorem dX5_fits_0 : decode cX5_fits 0 = .ok (.iload_n 0, 1) := by decide +kernel
theorem dX5_fits_1 : decode cX5_fits 1 = .ok (.iload_n 1, 1) := by decide +kernel
theorem dX5_fits_2 : decode cX5_fits 2 = .ok (.if_icmp .eq 12, 3) := by decide +kernel
theorem dX5_fits_5 : decode cX5_fits 5 = .ok (.iload_n 0, 1) := by decide +kernel
theorem dX5_fits_6 : decode cX5_fits 6 = .ok (.iconst 1, 1) := by decide +kernel
theorem dX5_fits_7 : decode cX5_fits 7 = .ok (.if_icmp .ne 11, 3) := by decide +kernel
theorem dX5_fits_10 : decode cX5_fits 10 = .ok (.iload_n 1, 1) := by decide +kernel
theorem dX5_fits_11 : decode cX5_fits 11 = .ok (.ifCond .ne 7, 3) := by decide +kernel
theorem dX5_fits_14 : decode cX5_fits 14 = .ok (.iconst 1, 1) := by decide +kernel
theorem dX5_fits_15 : decode cX5_fits 15 = .ok (.goto 4, 3) := by decide +kernel
theorem dX5_fits_18 : decode cX5_fits 18 = .ok (.iconst 0, 1) := by decide +kernel
theorem dX5_fits_19 : decode cX5_fits 19 = .ok (.ireturn, 1) := by decide +kernel
set_option maxRecDepth 20000 in
theorem ggX5_rack_X5_in : GoodIn wsX5_rack wsX5_in := goodIn_r _ [6] (by decide +kernel) (by decide +kernel)
set_option maxRecDepth 20000 in
theorem gX5_rack_X5_in : GoodIn wsX5_rack (va_wsS RX5 71 yX5_in wsX5_in) := goodIn_app (goodIn_of _ (by decide +kernel)) ggX5_rack_X5_in
theorem dX5_rack_0 : decode cX5_rack 0 = .ok (.iload_n 1, 1) := by decide +kernel
theorem dX5_rack_1 : decode cX5_rack 1 = .ok (.iconst 0, 1) := by decide +kernel
theorem dX5_rack_2 : decode cX5_rack 2 = .ok (.iconst 2, 1) := by decide +kernel
theorem dX5_rack_3 : decode cX5_rack 3 = .ok (.invokestatic 71, 3) := by decide +kernel
theorem dX5_rack_6 : decode cX5_rack 6 = .ok (.ifCond .eq 12, 3) := by decide +kernel
theorem dX5_rack_9 : decode cX5_rack 9 = .ok (.iload_n 2, 1) := by decide +kernel
theorem dX5_rack_10 : decode cX5_rack 10 = .ok (.iconst 0, 1) := by decide +kernel
theorem dX5_rack_11 : decode cX5_rack 11 = .ok (.iconst 2, 1) := by decide +kernel
theorem dX5_rack_12 : decode cX5_rack 12 = .ok (.invokestatic 71, 3) := by decide +kernel
theorem dX5_rack_15 : decode cX5_rack 15 = .ok (.ifCond .ne 5, 3) := by decide +kernel
theorem dX5_rack_18 : decode cX5_rack 18 = .ok (.iconst (-1), 1) := by decide +kernel
theorem dX5_rack_19 : decode cX5_rack 19 = .ok (.ireturn, 1) := by decide +kernel
theorem dX5_rack_20 : decode cX5_rack 20 = .ok (.aload_n 0, 1) := by decide +kernel
theorem dX5_rack_21 : decode cX5_rack 21 = .ok (.getfield 35, 3) := by decide +kernel
theorem dX5_rack_24 : decode cX5_rack 24 = .ok (.iload_n 1, 1) := by decide +kernel
theorem dX5_rack_25 : decode cX5_rack 25 = .ok (.iload_n 2, 1) := by decide +kernel
theorem dX5_rack_26 : decode cX5_rack 26 = .ok (.iastore, 1) := by decide +kernel
theorem dX5_rack_27 : decode cX5_rack 27 = .ok (.iconst 0, 1) := by decide +kernel
theorem dX5_rack_28 : decode cX5_rack 28 = .ok (.istore_n 3, 1) := by decide +kernel
theorem dX5_rack_29 : decode cX5_rack 29 = .ok (.iload_n 3, 1) := by decide +kernel
theorem dX5_rack_30 : decode cX5_rack 30 = .ok (.iconst 4, 1) := by decide +kernel
theorem dX5_rack_31 : decode cX5_rack 31 = .ok (.if_icmp .ge 20, 3) := by decide +kernel
theorem dX5_rack_34 : decode cX5_rack 34 = .ok (.aload_n 0, 1) := by decide +kernel
theorem dX5_rack_35 : decode cX5_rack 35 = .ok (.getfield 38, 3) := by decide +kernel
theorem dX5_rack_38 : decode cX5_rack 38 = .ok (.iconst 4, 1) := by decide +kernel
theorem dX5_rack_39 : decode cX5_rack 39 = .ok (.iload_n 1, 1) := by decide +kernel
theorem dX5_rack_40 : decode cX5_rack 40 = .ok (.imul, 1) := by decide +kernel
theorem dX5_rack_41 : decode cX5_rack 41 = .ok (.iload_n 3, 1) := by decide +kernel
theorem dX5_rack_42 : decode cX5_rack 42 = .ok (.iadd, 1) := by decide +kernel
theorem dX5_rack_43 : decode cX5_rack 43 = .ok (.iconst (-1), 1) := by decide +kernel
theorem dX5_rack_44 : decode cX5_rack 44 = .ok (.iastore, 1) := by decide +kernel
theorem dX5_rack_45 : decode cX5_rack 45 = .ok (.iinc 3 1, 3) := by decide +kernel
theorem dX5_rack_48 : decode cX5_rack 48 = .ok (.goto (-19), 3) := by decide +kernel
theorem dX5_rack_51 : decode cX5_rack 51 = .ok (.iconst 1, 1) := by decide +kernel
theorem dX5_rack_52 : decode cX5_rack 52 = .ok (.ireturn, 1) := by decide +kernel
set_option maxRecDepth 20000 in
theorem ggX5_hang_X5_in : GoodIn wsX5_hang wsX5_in := goodIn_r _ [8] (by decide +kernel) (by decide +kernel)
set_option maxRecDepth 20000 in
theorem gX5_hang_X5_in : GoodIn wsX5_hang (va_wsS RX5 71 yX5_in wsX5_in) := goodIn_app (goodIn_of _ (by decide +kernel)) ggX5_hang_X5_in
set_option maxRecDepth 20000 in
theorem ggX5_hang_X5_fails : GoodIn wsX5_hang wsX5_fails := goodIn_r _ [11] (by decide +kernel) (by decide +kernel)
set_option maxRecDepth 20000 in
theorem gX5_hang_X5_fails : GoodIn wsX5_hang (va_wsS RX5 91 yX5_fails wsX5_fails) := goodIn_app (goodIn_of _ (by decide +kernel)) ggX5_hang_X5_fails
set_option maxRecDepth 20000 in
theorem ggX5_hang_X5_fits : GoodIn wsX5_hang wsX5_fits := goodIn_r _ [14] (by decide +kernel) (by decide +kernel)
set_option maxRecDepth 20000 in
theorem gX5_hang_X5_fits : GoodIn wsX5_hang (va_wsS RX5 125 yX5_fits wsX5_fits) := goodIn_app (goodIn_of _ (by decide +kernel)) ggX5_hang_X5_fits
theorem dX5_hang_0 : decode cX5_hang 0 = .ok (.iload_n 1, 1) := by decide +kernel
theorem dX5_hang_1 : decode cX5_hang 1 = .ok (.iconst 0, 1) := by decide +kernel
theorem dX5_hang_2 : decode cX5_hang 2 = .ok (.iconst 2, 1) := by decide +kernel
theorem dX5_hang_3 : decode cX5_hang 3 = .ok (.invokestatic 71, 3) := by decide +kernel
theorem dX5_hang_6 : decode cX5_hang 6 = .ok (.ifCond .eq 12, 3) := by decide +kernel
theorem dX5_hang_9 : decode cX5_hang 9 = .ok (.iload_n 3, 1) := by decide +kernel
theorem dX5_hang_10 : decode cX5_hang 10 = .ok (.iconst 0, 1) := by decide +kernel
theorem dX5_hang_11 : decode cX5_hang 11 = .ok (.iconst 5, 1) := by decide +kernel
theorem dX5_hang_12 : decode cX5_hang 12 = .ok (.invokestatic 71, 3) := by decide +kernel
theorem dX5_hang_15 : decode cX5_hang 15 = .ok (.ifCond .ne 5, 3) := by decide +kernel
theorem dX5_hang_18 : decode cX5_hang 18 = .ok (.iconst (-1), 1) := by decide +kernel
theorem dX5_hang_19 : decode cX5_hang 19 = .ok (.ireturn, 1) := by decide +kernel
theorem dX5_hang_20 : decode cX5_hang 20 = .ok (.aload_n 0, 1) := by decide +kernel
theorem dX5_hang_21 : decode cX5_hang 21 = .ok (.getfield 35, 3) := by decide +kernel
theorem dX5_hang_24 : decode cX5_hang 24 = .ok (.iload_n 1, 1) := by decide +kernel
theorem dX5_hang_25 : decode cX5_hang 25 = .ok (.iaload, 1) := by decide +kernel
theorem dX5_hang_26 : decode cX5_hang 26 = .ok (.ifCond .ge 8, 3) := by decide +kernel
theorem dX5_hang_29 : decode cX5_hang 29 = .ok (.iconst 1, 1) := by decide +kernel
theorem dX5_hang_30 : decode cX5_hang 30 = .ok (.invokestatic 91, 3) := by decide +kernel
theorem dX5_hang_33 : decode cX5_hang 33 = .ok (.ireturn, 1) := by decide +kernel
theorem dX5_hang_34 : decode cX5_hang 34 = .ok (.iload_n 2, 1) := by decide +kernel
theorem dX5_hang_35 : decode cX5_hang 35 = .ok (.iconst 0, 1) := by decide +kernel
theorem dX5_hang_36 : decode cX5_hang 36 = .ok (.iconst 3, 1) := by decide +kernel
theorem dX5_hang_37 : decode cX5_hang 37 = .ok (.invokestatic 71, 3) := by decide +kernel
theorem dX5_hang_40 : decode cX5_hang 40 = .ok (.ifCond .ne 8, 3) := by decide +kernel
theorem dX5_hang_43 : decode cX5_hang 43 = .ok (.iconst 2, 1) := by decide +kernel
theorem dX5_hang_44 : decode cX5_hang 44 = .ok (.invokestatic 91, 3) := by decide +kernel
theorem dX5_hang_47 : decode cX5_hang 47 = .ok (.ireturn, 1) := by decide +kernel
theorem dX5_hang_48 : decode cX5_hang 48 = .ok (.aload_n 0, 1) := by decide +kernel
theorem dX5_hang_49 : decode cX5_hang 49 = .ok (.getfield 32, 3) := by decide +kernel
theorem dX5_hang_52 : decode cX5_hang 52 = .ok (.iload_n 3, 1) := by decide +kernel
theorem dX5_hang_53 : decode cX5_hang 53 = .ok (.iaload, 1) := by decide +kernel
theorem dX5_hang_54 : decode cX5_hang 54 = .ok (.istore 4, 2) := by decide +kernel
theorem dX5_hang_56 : decode cX5_hang 56 = .ok (.iload 4, 2) := by decide +kernel
theorem dX5_hang_58 : decode cX5_hang 58 = .ok (.ifCond .lt 27, 3) := by decide +kernel
theorem dX5_hang_61 : decode cX5_hang 61 = .ok (.aload_n 0, 1) := by decide +kernel
theorem dX5_hang_62 : decode cX5_hang 62 = .ok (.getfield 25, 3) := by decide +kernel
theorem dX5_hang_65 : decode cX5_hang 65 = .ok (.iload 4, 2) := by decide +kernel
theorem dX5_hang_67 : decode cX5_hang 67 = .ok (.iaload, 1) := by decide +kernel
theorem dX5_hang_68 : decode cX5_hang 68 = .ok (.aload_n 0, 1) := by decide +kernel
theorem dX5_hang_69 : decode cX5_hang 69 = .ok (.getfield 35, 3) := by decide +kernel
theorem dX5_hang_72 : decode cX5_hang 72 = .ok (.iload_n 1, 1) := by decide +kernel
theorem dX5_hang_73 : decode cX5_hang 73 = .ok (.iaload, 1) := by decide +kernel
theorem dX5_hang_74 : decode cX5_hang 74 = .ok (.invokestatic 125, 3) := by decide +kernel
theorem dX5_hang_77 : decode cX5_hang 77 = .ok (.ifCond .ne 8, 3) := by decide +kernel
theorem dX5_hang_80 : decode cX5_hang 80 = .ok (.iconst 5, 1) := by decide +kernel
theorem dX5_hang_81 : decode cX5_hang 81 = .ok (.invokestatic 91, 3) := by decide +kernel
theorem dX5_hang_84 : decode cX5_hang 84 = .ok (.ireturn, 1) := by decide +kernel
theorem dX5_hang_85 : decode cX5_hang 85 = .ok (.aload_n 0, 1) := by decide +kernel
theorem dX5_hang_86 : decode cX5_hang 86 = .ok (.getfield 38, 3) := by decide +kernel
theorem dX5_hang_89 : decode cX5_hang 89 = .ok (.iconst 4, 1) := by decide +kernel
theorem dX5_hang_90 : decode cX5_hang 90 = .ok (.iload_n 1, 1) := by decide +kernel
theorem dX5_hang_91 : decode cX5_hang 91 = .ok (.imul, 1) := by decide +kernel
theorem dX5_hang_92 : decode cX5_hang 92 = .ok (.iload_n 2, 1) := by decide +kernel
theorem dX5_hang_93 : decode cX5_hang 93 = .ok (.iadd, 1) := by decide +kernel
theorem dX5_hang_94 : decode cX5_hang 94 = .ok (.iload 4, 2) := by decide +kernel
theorem dX5_hang_96 : decode cX5_hang 96 = .ok (.iastore, 1) := by decide +kernel
theorem dX5_hang_97 : decode cX5_hang 97 = .ok (.iconst 1, 1) := by decide +kernel
theorem dX5_hang_98 : decode cX5_hang 98 = .ok (.ireturn, 1) := by decide +kernel
set_option maxRecDepth 20000 in
theorem ggX5_take_X5_in : GoodIn wsX5_take wsX5_in := goodIn_r _ [8] (by decide +kernel) (by decide +kernel)
set_option maxRecDepth 20000 in
theorem gX5_take_X5_in : GoodIn wsX5_take (va_wsS RX5 71 yX5_in wsX5_in) := goodIn_app (goodIn_of _ (by decide +kernel)) ggX5_take_X5_in
set_option maxRecDepth 20000 in
theorem ggX5_take_X5_fails : GoodIn wsX5_take wsX5_fails := goodIn_r _ [11] (by decide +kernel) (by decide +kernel)
set_option maxRecDepth 20000 in
theorem gX5_take_X5_fails : GoodIn wsX5_take (va_wsS RX5 91 yX5_fails wsX5_fails) := goodIn_app (goodIn_of _ (by decide +kernel)) ggX5_take_X5_fails
set_option maxRecDepth 20000 in
theorem ggX5_take_X5_fits : GoodIn wsX5_take wsX5_fits := goodIn_r _ [14] (by decide +kernel) (by decide +kernel)
set_option maxRecDepth 20000 in
theorem gX5_take_X5_fits : GoodIn wsX5_take (va_wsS RX5 125 yX5_fits wsX5_fits) := goodIn_app (goodIn_of _ (by decide +kernel)) ggX5_take_X5_fits
theorem dX5_take_0 : decode cX5_take 0 = .ok (.iload_n 1, 1) := by decide +kernel
theorem dX5_take_1 : decode cX5_take 1 = .ok (.iconst 0, 1) := by decide +kernel
theorem dX5_take_2 : decode cX5_take 2 = .ok (.iconst 2, 1) := by decide +kernel
theorem dX5_take_3 : decode cX5_take 3 = .ok (.invokestatic 71, 3) := by decide +kernel
theorem dX5_take_6 : decode cX5_take 6 = .ok (.ifCond .eq 22, 3) := by decide +kernel
theorem dX5_take_9 : decode cX5_take 9 = .ok (.iload_n 3, 1) := by decide +kernel
theorem dX5_take_10 : decode cX5_take 10 = .ok (.iconst 0, 1) := by decide +kernel
theorem dX5_take_11 : decode cX5_take 11 = .ok (.iconst 2, 1) := by decide +kernel
theorem dX5_take_12 : decode cX5_take 12 = .ok (.invokestatic 71, 3) := by decide +kernel
theorem dX5_take_15 : decode cX5_take 15 = .ok (.ifCond .eq 13, 3) := by decide +kernel
theorem dX5_take_18 : decode cX5_take 18 = .ok (.iload 4, 2) := by decide +kernel
theorem dX5_take_20 : decode cX5_take 20 = .ok (.iconst 0, 1) := by decide +kernel
theorem dX5_take_21 : decode cX5_take 21 = .ok (.iconst 5, 1) := by decide +kernel
theorem dX5_take_22 : decode cX5_take 22 = .ok (.invokestatic 71, 3) := by decide +kernel
theorem dX5_take_25 : decode cX5_take 25 = .ok (.ifCond .ne 5, 3) := by decide +kernel
theorem dX5_take_28 : decode cX5_take 28 = .ok (.iconst (-1), 1) := by decide +kernel
theorem dX5_take_29 : decode cX5_take 29 = .ok (.ireturn, 1) := by decide +kernel
theorem dX5_take_30 : decode cX5_take 30 = .ok (.aload_n 0, 1) := by decide +kernel
theorem dX5_take_31 : decode cX5_take 31 = .ok (.getfield 35, 3) := by decide +kernel
theorem dX5_take_34 : decode cX5_take 34 = .ok (.iload_n 1, 1) := by decide +kernel
theorem dX5_take_35 : decode cX5_take 35 = .ok (.iaload, 1) := by decide +kernel
theorem dX5_take_36 : decode cX5_take 36 = .ok (.ifCond .ge 8, 3) := by decide +kernel
theorem dX5_take_39 : decode cX5_take 39 = .ok (.iconst 1, 1) := by decide +kernel
theorem dX5_take_40 : decode cX5_take 40 = .ok (.invokestatic 91, 3) := by decide +kernel
theorem dX5_take_43 : decode cX5_take 43 = .ok (.ireturn, 1) := by decide +kernel
theorem dX5_take_44 : decode cX5_take 44 = .ok (.iload_n 2, 1) := by decide +kernel
theorem dX5_take_45 : decode cX5_take 45 = .ok (.iconst 0, 1) := by decide +kernel
theorem dX5_take_46 : decode cX5_take 46 = .ok (.iconst 3, 1) := by decide +kernel
theorem dX5_take_47 : decode cX5_take 47 = .ok (.invokestatic 71, 3) := by decide +kernel
theorem dX5_take_50 : decode cX5_take 50 = .ok (.ifCond .ne 8, 3) := by decide +kernel
theorem dX5_take_53 : decode cX5_take 53 = .ok (.iconst 2, 1) := by decide +kernel
theorem dX5_take_54 : decode cX5_take 54 = .ok (.invokestatic 91, 3) := by decide +kernel
theorem dX5_take_57 : decode cX5_take 57 = .ok (.ireturn, 1) := by decide +kernel
theorem dX5_take_58 : decode cX5_take 58 = .ok (.aload_n 0, 1) := by decide +kernel
theorem dX5_take_59 : decode cX5_take 59 = .ok (.getfield 38, 3) := by decide +kernel
theorem dX5_take_62 : decode cX5_take 62 = .ok (.iconst 4, 1) := by decide +kernel
theorem dX5_take_63 : decode cX5_take 63 = .ok (.iload_n 1, 1) := by decide +kernel
theorem dX5_take_64 : decode cX5_take 64 = .ok (.imul, 1) := by decide +kernel
theorem dX5_take_65 : decode cX5_take 65 = .ok (.iload_n 2, 1) := by decide +kernel
theorem dX5_take_66 : decode cX5_take 66 = .ok (.iadd, 1) := by decide +kernel
theorem dX5_take_67 : decode cX5_take 67 = .ok (.iaload, 1) := by decide +kernel
theorem dX5_take_68 : decode cX5_take 68 = .ok (.istore 5, 2) := by decide +kernel
theorem dX5_take_70 : decode cX5_take 70 = .ok (.iload 5, 2) := by decide +kernel
theorem dX5_take_72 : decode cX5_take 72 = .ok (.ifCond .lt 22, 3) := by decide +kernel
theorem dX5_take_75 : decode cX5_take 75 = .ok (.aload_n 0, 1) := by decide +kernel
theorem dX5_take_76 : decode cX5_take 76 = .ok (.getfield 25, 3) := by decide +kernel
theorem dX5_take_79 : decode cX5_take 79 = .ok (.iload 5, 2) := by decide +kernel
theorem dX5_take_81 : decode cX5_take 81 = .ok (.iaload, 1) := by decide +kernel
theorem dX5_take_82 : decode cX5_take 82 = .ok (.iload_n 3, 1) := by decide +kernel
theorem dX5_take_83 : decode cX5_take 83 = .ok (.invokestatic 125, 3) := by decide +kernel
theorem dX5_take_86 : decode cX5_take 86 = .ok (.ifCond .ne 8, 3) := by decide +kernel
theorem dX5_take_89 : decode cX5_take 89 = .ok (.iconst 3, 1) := by decide +kernel
theorem dX5_take_90 : decode cX5_take 90 = .ok (.invokestatic 91, 3) := by decide +kernel
theorem dX5_take_93 : decode cX5_take 93 = .ok (.ireturn, 1) := by decide +kernel
theorem dX5_take_94 : decode cX5_take 94 = .ok (.aload_n 0, 1) := by decide +kernel
theorem dX5_take_95 : decode cX5_take 95 = .ok (.getfield 32, 3) := by decide +kernel
theorem dX5_take_98 : decode cX5_take 98 = .ok (.iload 4, 2) := by decide +kernel
theorem dX5_take_100 : decode cX5_take 100 = .ok (.iload 5, 2) := by decide +kernel
theorem dX5_take_102 : decode cX5_take 102 = .ok (.iastore, 1) := by decide +kernel
theorem dX5_take_103 : decode cX5_take 103 = .ok (.iload 5, 2) := by decide +kernel
theorem dX5_take_105 : decode cX5_take 105 = .ok (.ifCond .ge 7, 3) := by decide +kernel
theorem dX5_take_108 : decode cX5_take 108 = .ok (.iconst 0, 1) := by decide +kernel
theorem dX5_take_109 : decode cX5_take 109 = .ok (.goto 4, 3) := by decide +kernel
theorem dX5_take_112 : decode cX5_take 112 = .ok (.iconst 1, 1) := by decide +kernel
theorem dX5_take_113 : decode cX5_take 113 = .ok (.ireturn, 1) := by decide +kernel
theorem dX5_told_0 : decode cX5_told 0 = .ok (.aload_n 0, 1) := by decide +kernel
theorem dX5_told_1 : decode cX5_told 1 = .ok (.getfield 99, 3) := by decide +kernel
theorem dX5_told_4 : decode cX5_told 4 = .ok (.lreturn, 1) := by decide +kernel
set_option maxRecDepth 20000 in
theorem ggX5_count_X5_in : GoodIn wsX5_count wsX5_in := goodIn_r _ [9] (by decide +kernel) (by decide +kernel)
set_option maxRecDepth 20000 in
theorem gX5_count_X5_in : GoodIn wsX5_count (va_wsS RX5 71 yX5_in wsX5_in) := goodIn_app (goodIn_of _ (by decide +kernel)) ggX5_count_X5_in
theorem dX5_count_0 : decode cX5_count 0 = .ok (.iconst 0, 1) := by decide +kernel
theorem dX5_count_1 : decode cX5_count 1 = .ok (.istore_n 2, 1) := by decide +kernel
theorem dX5_count_2 : decode cX5_count 2 = .ok (.iload_n 1, 1) := by decide +kernel
theorem dX5_count_3 : decode cX5_count 3 = .ok (.ifCond .ne 36, 3) := by decide +kernel
theorem dX5_count_6 : decode cX5_count 6 = .ok (.iconst 0, 1) := by decide +kernel
theorem dX5_count_7 : decode cX5_count 7 = .ok (.istore_n 3, 1) := by decide +kernel
theorem dX5_count_8 : decode cX5_count 8 = .ok (.iload_n 3, 1) := by decide +kernel
theorem dX5_count_9 : decode cX5_count 9 = .ok (.bipush 8, 2) := by decide +kernel
theorem dX5_count_11 : decode cX5_count 11 = .ok (.if_icmp .ge 26, 3) := by decide +kernel
theorem dX5_count_14 : decode cX5_count 14 = .ok (.aload_n 0, 1) := by decide +kernel
theorem dX5_count_15 : decode cX5_count 15 = .ok (.getfield 22, 3) := by decide +kernel
theorem dX5_count_18 : decode cX5_count 18 = .ok (.iload_n 3, 1) := by decide +kernel
theorem dX5_count_19 : decode cX5_count 19 = .ok (.iaload, 1) := by decide +kernel
theorem dX5_count_20 : decode cX5_count 20 = .ok (.ifCond .ge 7, 3) := by decide +kernel
theorem dX5_count_23 : decode cX5_count 23 = .ok (.iload_n 2, 1) := by decide +kernel
theorem dX5_count_24 : decode cX5_count 24 = .ok (.goto 6, 3) := by decide +kernel
theorem dX5_count_27 : decode cX5_count 27 = .ok (.iload_n 2, 1) := by decide +kernel
theorem dX5_count_28 : decode cX5_count 28 = .ok (.iconst 1, 1) := by decide +kernel
theorem dX5_count_29 : decode cX5_count 29 = .ok (.iadd, 1) := by decide +kernel
theorem dX5_count_30 : decode cX5_count 30 = .ok (.istore_n 2, 1) := by decide +kernel
theorem dX5_count_31 : decode cX5_count 31 = .ok (.iinc 3 1, 3) := by decide +kernel
theorem dX5_count_34 : decode cX5_count 34 = .ok (.goto (-26), 3) := by decide +kernel
theorem dX5_count_37 : decode cX5_count 37 = .ok (.iload_n 2, 1) := by decide +kernel
theorem dX5_count_38 : decode cX5_count 38 = .ok (.ireturn, 1) := by decide +kernel
theorem dX5_count_39 : decode cX5_count 39 = .ok (.iload_n 1, 1) := by decide +kernel
theorem dX5_count_40 : decode cX5_count 40 = .ok (.iconst 1, 1) := by decide +kernel
theorem dX5_count_41 : decode cX5_count 41 = .ok (.if_icmp .ne 36, 3) := by decide +kernel
theorem dX5_count_44 : decode cX5_count 44 = .ok (.iconst 0, 1) := by decide +kernel
theorem dX5_count_45 : decode cX5_count 45 = .ok (.istore_n 3, 1) := by decide +kernel
theorem dX5_count_46 : decode cX5_count 46 = .ok (.iload_n 3, 1) := by decide +kernel
theorem dX5_count_47 : decode cX5_count 47 = .ok (.bipush 6, 2) := by decide +kernel
theorem dX5_count_49 : decode cX5_count 49 = .ok (.if_icmp .ge 26, 3) := by decide +kernel
theorem dX5_count_52 : decode cX5_count 52 = .ok (.aload_n 0, 1) := by decide +kernel
theorem dX5_count_53 : decode cX5_count 53 = .ok (.getfield 32, 3) := by decide +kernel
theorem dX5_count_56 : decode cX5_count 56 = .ok (.iload_n 3, 1) := by decide +kernel
theorem dX5_count_57 : decode cX5_count 57 = .ok (.iaload, 1) := by decide +kernel
theorem dX5_count_58 : decode cX5_count 58 = .ok (.ifCond .ge 7, 3) := by decide +kernel
theorem dX5_count_61 : decode cX5_count 61 = .ok (.iload_n 2, 1) := by decide +kernel
theorem dX5_count_62 : decode cX5_count 62 = .ok (.goto 6, 3) := by decide +kernel
theorem dX5_count_65 : decode cX5_count 65 = .ok (.iload_n 2, 1) := by decide +kernel
theorem dX5_count_66 : decode cX5_count 66 = .ok (.iconst 1, 1) := by decide +kernel
theorem dX5_count_67 : decode cX5_count 67 = .ok (.iadd, 1) := by decide +kernel
theorem dX5_count_68 : decode cX5_count 68 = .ok (.istore_n 2, 1) := by decide +kernel
theorem dX5_count_69 : decode cX5_count 69 = .ok (.iinc 3 1, 3) := by decide +kernel
theorem dX5_count_72 : decode cX5_count 72 = .ok (.goto (-26), 3) := by decide +kernel
theorem dX5_count_75 : decode cX5_count 75 = .ok (.iload_n 2, 1) := by decide +kernel
theorem dX5_count_76 : decode cX5_count 76 = .ok (.ireturn, 1) := by decide +kernel
theorem dX5_count_77 : decode cX5_count 77 = .ok (.iload_n 1, 1) := by decide +kernel
theorem dX5_count_78 : decode cX5_count 78 = .ok (.iconst 2, 1) := by decide +kernel
theorem dX5_count_79 : decode cX5_count 79 = .ok (.if_icmp .ne 35, 3) := by decide +kernel
theorem dX5_count_82 : decode cX5_count 82 = .ok (.iconst 0, 1) := by decide +kernel
theorem dX5_count_83 : decode cX5_count 83 = .ok (.istore_n 3, 1) := by decide +kernel
theorem dX5_count_84 : decode cX5_count 84 = .ok (.iload_n 3, 1) := by decide +kernel
theorem dX5_count_85 : decode cX5_count 85 = .ok (.iconst 3, 1) := by decide +kernel
theorem dX5_count_86 : decode cX5_count 86 = .ok (.if_icmp .ge 26, 3) := by decide +kernel
theorem dX5_count_89 : decode cX5_count 89 = .ok (.aload_n 0, 1) := by decide +kernel
theorem dX5_count_90 : decode cX5_count 90 = .ok (.getfield 35, 3) := by decide +kernel
theorem dX5_count_93 : decode cX5_count 93 = .ok (.iload_n 3, 1) := by decide +kernel
theorem dX5_count_94 : decode cX5_count 94 = .ok (.iaload, 1) := by decide +kernel
theorem dX5_count_95 : decode cX5_count 95 = .ok (.ifCond .ge 7, 3) := by decide +kernel
theorem dX5_count_98 : decode cX5_count 98 = .ok (.iload_n 2, 1) := by decide +kernel
theorem dX5_count_99 : decode cX5_count 99 = .ok (.goto 6, 3) := by decide +kernel
theorem dX5_count_102 : decode cX5_count 102 = .ok (.iload_n 2, 1) := by decide +kernel
theorem dX5_count_103 : decode cX5_count 103 = .ok (.iconst 1, 1) := by decide +kernel
theorem dX5_count_104 : decode cX5_count 104 = .ok (.iadd, 1) := by decide +kernel
theorem dX5_count_105 : decode cX5_count 105 = .ok (.istore_n 2, 1) := by decide +kernel
theorem dX5_count_106 : decode cX5_count 106 = .ok (.iinc 3 1, 3) := by decide +kernel
theorem dX5_count_109 : decode cX5_count 109 = .ok (.goto (-25), 3) := by decide +kernel
theorem dX5_count_112 : decode cX5_count 112 = .ok (.iload_n 2, 1) := by decide +kernel
theorem dX5_count_113 : decode cX5_count 113 = .ok (.ireturn, 1) := by decide +kernel
theorem dX5_count_114 : decode cX5_count 114 = .ok (.iload_n 1, 1) := by decide +kernel
theorem dX5_count_115 : decode cX5_count 115 = .ok (.iconst 3, 1) := by decide +kernel
theorem dX5_count_116 : decode cX5_count 116 = .ok (.bipush 10, 2) := by decide +kernel
theorem dX5_count_118 : decode cX5_count 118 = .ok (.invokestatic 71, 3) := by decide +kernel
theorem dX5_count_121 : decode cX5_count 121 = .ok (.ifCond .eq 32, 3) := by decide +kernel
theorem dX5_count_124 : decode cX5_count 124 = .ok (.aload_n 0, 1) := by decide +kernel
theorem dX5_count_125 : decode cX5_count 125 = .ok (.getfield 22, 3) := by decide +kernel
theorem dX5_count_128 : decode cX5_count 128 = .ok (.iload_n 1, 1) := by decide +kernel
theorem dX5_count_129 : decode cX5_count 129 = .ok (.iconst 3, 1) := by decide +kernel
theorem dX5_count_130 : decode cX5_count 130 = .ok (.isub, 1) := by decide +kernel
theorem dX5_count_131 : decode cX5_count 131 = .ok (.iaload, 1) := by decide +kernel
theorem dX5_count_132 : decode cX5_count 132 = .ok (.ifCond .ge 7, 3) := by decide +kernel
theorem dX5_count_135 : decode cX5_count 135 = .ok (.iconst (-1), 1) := by decide +kernel
theorem dX5_count_136 : decode cX5_count 136 = .ok (.goto 16, 3) := by decide +kernel
theorem dX5_count_139 : decode cX5_count 139 = .ok (.aload_n 0, 1) := by decide +kernel
theorem dX5_count_140 : decode cX5_count 140 = .ok (.getfield 13, 3) := by decide +kernel
theorem dX5_count_143 : decode cX5_count 143 = .ok (.aload_n 0, 1) := by decide +kernel
