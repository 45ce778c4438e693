theorem inlX0 : ∀ w ∈ wsX00, w ∈ wsL_law := fun _ h => List.mem_append_left _ (List.mem_append_left _ (List.mem_append_right _ h))
theorem inX0 : ∀ w ∈ wsX00, w ∈ lw_tbl := fun w h => wsL_law_in w (inlX0 w h)
theorem inlX1 : ∀ w ∈ wsX10, w ∈ wsL_law := fun _ h => List.mem_append_left _ (List.mem_append_right _ h)
theorem inX1 : ∀ w ∈ wsX10, w ∈ lw_tbl := fun w h => wsL_law_in w (inlX1 w h)
theorem inlX2 : ∀ w ∈ wsX20, w ∈ wsL_law := fun _ h => List.mem_append_left _ (List.mem_append_left _ (List.mem_append_left _ (List.mem_append_right _ h)))
theorem inX2 : ∀ w ∈ wsX20, w ∈ lw_tbl := fun w h => wsL_law_in w (inlX2 w h)
theorem inX3 : ∀ w ∈ wsX30, w ∈ lw_tbl := by decide +kernel
theorem inlX4 : ∀ w ∈ wsX40, w ∈ wsL_law := fun _ h => List.mem_append_left _ (List.mem_append_left _ (List.mem_append_left _ (List.mem_append_left _ (List.mem_append_left _ (List.mem_append_right _ h)))))
theorem inX4 : ∀ w ∈ wsX40, w ∈ lw_tbl := fun w h => wsL_law_in w (inlX4 w h)
theorem inlX5 : ∀ w ∈ wsX50, w ∈ wsL_law := fun _ h => List.mem_append_left _ (List.mem_append_left _ (List.mem_append_left _ (List.mem_append_left _ (List.mem_append_right _ h))))
theorem inX5 : ∀ w ∈ wsX50, w ∈ lw_tbl := fun w h => wsL_law_in w (inlX5 w h)
theorem inJxe99ae : ∀ w ∈ wsJxe99ae0, w ∈ lw_tbl := by decide +kernel
theorem inJx29ce0 : ∀ w ∈ wsJx29ce00, w ∈ lw_tbl := by decide +kernel
theorem inJxf58ca : ∀ w ∈ wsJxf58ca0, w ∈ lw_tbl := by decide +kernel
theorem inJ9 : ∀ w ∈ wsJ90, w ∈ lw_tbl := by decide +kernel
theorem dX0_init_0 : decode cX0_init 0 = .ok (.aload_n 0, 1) := by decide +kernel
theorem dX0_init_1 : decode cX0_init 1 = .ok (.invokespecial 3, 3) := by decide +kernel
theorem dX0_init_4 : decode cX0_init 4 = .ok (.aload_n 0, 1) := by decide +kernel
theorem dX0_init_5 : decode cX0_init 5 = .ok (.iload_n 1, 1) := by decide +kernel
theorem dX0_init_6 : decode cX0_init 6 = .ok (.putfield 9, 3) := by decide +kernel
theorem dX0_init_9 : decode cX0_init 9 = .ok (.aload_n 0, 1) := by decide +kernel
theorem dX0_init_10 : decode cX0_init 10 = .ok (.lload_n 2, 1) := by decide +kernel
theorem dX0_init_11 : decode cX0_init 11 = .ok (.putfield 15, 3) := by decide +kernel
theorem dX0_init_14 : decode cX0_init 14 = .ok (.return_, 1) := by decide +kernel
theorem dX0_isOf_0 : decode cX0_isOf 0 = .ok (.aload_n 0, 1) := by decide +kernel
theorem dX0_isOf_1 : decode cX0_isOf 1 = .ok (.getfield 9, 3) := by decide +kernel
theorem dX0_isOf_4 : decode cX0_isOf 4 = .ok (.iload_n 1, 1) := by decide +kernel
theorem dX0_isOf_5 : decode cX0_isOf 5 = .ok (.if_icmp .eq 15, 3) := by decide +kernel
theorem dX0_isOf_8 : decode cX0_isOf 8 = .ok (.aload_n 0, 1) := by decide +kernel
theorem dX0_isOf_9 : decode cX0_isOf 9 = .ok (.getfield 9, 3) := by decide +kernel
theorem dX0_isOf_12 : decode cX0_isOf 12 = .ok (.iconst 1, 1) := by decide +kernel
theorem dX0_isOf_13 : decode cX0_isOf 13 = .ok (.if_icmp .ne 11, 3) := by decide +kernel
theorem dX0_isOf_16 : decode cX0_isOf 16 = .ok (.iload_n 1, 1) := by decide +kernel
theorem dX0_isOf_17 : decode cX0_isOf 17 = .ok (.ifCond .ne 7, 3) := by decide +kernel
theorem dX0_isOf_20 : decode cX0_isOf 20 = .ok (.iconst 1, 1) := by decide +kernel
theorem dX0_isOf_21 : decode cX0_isOf 21 = .ok (.goto 4, 3) := by decide +kernel
theorem dX0_isOf_24 : decode cX0_isOf 24 = .ok (.iconst 0, 1) := by decide +kernel
theorem dX0_isOf_25 : decode cX0_isOf 25 = .ok (.ireturn, 1) := by decide +kernel
set_option maxRecDepth 20000 in
theorem ggX0_hasNumberFor_X3_isEndless : GoodIn wsX0_hasNumberFor wsX3_isEndless := goodIn_r _ [7, 8, 9, 10, 11, 6, 12, 13] (by decide +kernel) (by decide +kernel)
set_option maxRecDepth 20000 in
theorem gX0_hasNumberFor_X3_isEndless : GoodIn wsX0_hasNumberFor (wsV RX0 25 RX3 yX3_isEndless wsX3_isEndless) := goodIn_app (goodIn_of _ (by decide +kernel)) ggX0_hasNumberFor_X3_isEndless
theorem dX0_hasNumberFor_0 : decode cX0_hasNumberFor 0 = .ok (.aload_n 0, 1) := by decide +kernel
theorem dX0_hasNumberFor_1 : decode cX0_hasNumberFor 1 = .ok (.getfield 9, 3) := by decide +kernel
theorem dX0_hasNumberFor_4 : decode cX0_hasNumberFor 4 = .ok (.iconst 2, 1) := by decide +kernel
theorem dX0_hasNumberFor_5 : decode cX0_hasNumberFor 5 = .ok (.if_icmp .eq 13, 3) := by decide +kernel
theorem dX0_hasNumberFor_8 : decode cX0_hasNumberFor 8 = .ok (.getstatic 19, 3) := by decide +kernel
theorem dX0_hasNumberFor_11 : decode cX0_hasNumberFor 11 = .ok (.lload_n 1, 1) := by decide +kernel
theorem dX0_hasNumberFor_12 : decode cX0_hasNumberFor 12 = .ok (.invokevirtual 25, 3) := by decide +kernel
theorem dX0_hasNumberFor_15 : decode cX0_hasNumberFor 15 = .ok (.ifCond .ne 7, 3) := by decide +kernel
theorem dX0_hasNumberFor_18 : decode cX0_hasNumberFor 18 = .ok (.iconst 1, 1) := by decide +kernel
theorem dX0_hasNumberFor_19 : decode cX0_hasNumberFor 19 = .ok (.goto 4, 3) := by decide +kernel
theorem dX0_hasNumberFor_22 : decode cX0_hasNumberFor 22 = .ok (.iconst 0, 1) := by decide +kernel
theorem dX0_hasNumberFor_23 : decode cX0_hasNumberFor 23 = .ok (.ireturn, 1) := by decide +kernel
set_option maxRecDepth 20000 in
theorem ggX0_tells_X3_cutToLong : GoodIn wsX0_tells wsX3_cutToLong := goodIn_r _ [8, 9, 10, 11, 12, 13, 7, 14, 15, 16, 17, 18, 19, 20, 21, 22, 23, 24, 25, 26, 27, 28, 29, 30, 31, 32, 33, 34, 35, 36] (by decide +kernel) (by decide +kernel)
set_option maxRecDepth 20000 in
theorem gX0_tells_X3_cutToLong : GoodIn wsX0_tells (wsV RX0 29 RX3 yX3_cutToLong wsX3_cutToLong) := goodIn_app (goodIn_of _ (by decide +kernel)) ggX0_tells_X3_cutToLong
set_option maxRecDepth 20000 in
theorem ggX0_tells_X3_nearestWhole : GoodIn wsX0_tells wsX3_nearestWhole := goodIn_r _ [40, 41, 42, 43, 7, 44, 15, 25, 26, 27, 28, 29, 45, 46, 47, 48, 49, 20, 30, 31, 32, 50, 51, 52] (by decide +kernel) (by decide +kernel)
set_option maxRecDepth 20000 in
theorem gX0_tells_X3_nearestWhole : GoodIn wsX0_tells (wsV RX0 33 RX3 yX3_nearestWhole wsX3_nearestWhole) := goodIn_app (goodIn_of _ (by decide +kernel)) ggX0_tells_X3_nearestWhole
set_option maxRecDepth 20000 in
theorem ggX0_tells_X3_remainder : GoodIn wsX0_tells wsX3_remainder := goodIn_r _ [56, 57, 58, 28, 59, 11, 12, 13, 7, 14, 15, 16, 17, 18, 19, 20, 60, 61, 62, 63, 21, 22, 23, 24, 25, 26, 27, 29, 33, 34, 35, 36, 41, 42, 43, 44, 45, 46, 47, 48, 49, 30, 31, 32, 50, 51, 52] (by decide +kernel) (by decide +kernel)
set_option maxRecDepth 20000 in
theorem gX0_tells_X3_remainder : GoodIn wsX0_tells (wsV RX0 36 RX3 yX3_remainder wsX3_remainder) := goodIn_app (goodIn_of _ (by decide +kernel)) ggX0_tells_X3_remainder
set_option maxRecDepth 20000 in
theorem ggX0_tells_X3_negated : GoodIn wsX0_tells wsX3_negated := goodIn_r _ [67, 33, 34, 35, 7, 36, 20, 60, 61, 62, 63, 46, 47, 48, 49] (by decide +kernel) (by decide +kernel)
set_option maxRecDepth 20000 in
theorem gX0_tells_X3_negated : GoodIn wsX0_tells (wsV RX0 40 RX3 yX3_negated wsX3_negated) := goodIn_app (goodIn_of _ (by decide +kernel)) ggX0_tells_X3_negated
set_option maxRecDepth 20000 in
theorem ggX0_tells_X3_added : GoodIn wsX0_tells wsX3_added := goodIn_r _ [71, 72, 73, 74, 7, 75, 45, 60, 61, 62, 63, 20, 21, 22, 23, 24, 25, 26, 27, 28, 29, 16, 17, 18, 19, 15, 11, 12, 13, 14, 76, 77, 78, 33, 34, 35, 36, 41, 42, 43, 44, 46, 47, 48, 49, 30, 31, 32, 50, 51, 52] (by decide +kernel) (by decide +kernel)
set_option maxRecDepth 20000 in
theorem gX0_tells_X3_added : GoodIn wsX0_tells (wsV RX0 43 RX3 yX3_added wsX3_added) := goodIn_app (goodIn_of _ (by decide +kernel)) ggX0_tells_X3_added
set_option maxRecDepth 20000 in
theorem ggX0_tells_X0_wrapped : GoodIn wsX0_tells wsX0_wrapped := goodIn_r _ [83, 2, 3, 64, 65, 66, 7, 67, 33, 34, 35, 36, 20, 60, 61, 62, 63, 46, 47, 48, 49, 68, 69, 70, 71, 72, 73, 74, 75, 45, 21, 22, 23, 24, 25, 26, 27, 28, 29, 16, 17, 18, 19, 15, 11, 12, 13, 14, 76, 77, 78, 41, 42, 43, 44, 30, 31, 32, 50, 51, 52, 84, 85, 86, 87, 88, 89, 90, 91] (by decide +kernel) (by decide +kernel)
set_option maxRecDepth 20000 in
theorem gX0_tells_X0_wrapped : GoodIn wsX0_tells (wsV RX0 46 RX0 yX0_wrapped wsX0_wrapped) := goodIn_app (goodIn_of _ (by decide +kernel)) ggX0_tells_X0_wrapped
theorem dX0_tells_0 : decode cX0_tells 0 = .ok (.aload_n 0, 1) := by decide +kernel
theorem dX0_tells_1 : decode cX0_tells 1 = .ok (.getfield 9, 3) := by decide +kernel
theorem dX0_tells_4 : decode cX0_tells 4 = .ok (.iconst 2, 1) := by decide +kernel
theorem dX0_tells_5 : decode cX0_tells 5 = .ok (.if_icmp .ne 17, 3) := by decide +kernel
theorem dX0_tells_8 : decode cX0_tells 8 = .ok (.getstatic 19, 3) := by decide +kernel
theorem dX0_tells_11 : decode cX0_tells 11 = .ok (.getstatic 19, 3) := by decide +kernel
theorem dX0_tells_14 : decode cX0_tells 14 = .ok (.lload_n 1, 1) := by decide +kernel
theorem dX0_tells_15 : decode cX0_tells 15 = .ok (.invokevirtual 29, 3) := by decide +kernel
theorem dX0_tells_18 : decode cX0_tells 18 = .ok (.invokevirtual 33, 3) := by decide +kernel
theorem dX0_tells_21 : decode cX0_tells 21 = .ok (.lreturn, 1) := by decide +kernel
theorem dX0_tells_22 : decode cX0_tells 22 = .ok (.getstatic 19, 3) := by decide +kernel
theorem dX0_tells_25 : decode cX0_tells 25 = .ok (.lload_n 1, 1) := by decide +kernel
theorem dX0_tells_26 : decode cX0_tells 26 = .ok (.getstatic 19, 3) := by decide +kernel
theorem dX0_tells_29 : decode cX0_tells 29 = .ok (.getstatic 19, 3) := by decide +kernel
theorem dX0_tells_32 : decode cX0_tells 32 = .ok (.lload_n 1, 1) := by decide +kernel
theorem dX0_tells_33 : decode cX0_tells 33 = .ok (.aload_n 0, 1) := by decide +kernel
theorem dX0_tells_34 : decode cX0_tells 34 = .ok (.getfield 15, 3) := by decide +kernel
theorem dX0_tells_37 : decode cX0_tells 37 = .ok (.invokevirtual 36, 3) := by decide +kernel
theorem dX0_tells_40 : decode cX0_tells 40 = .ok (.invokevirtual 40, 3) := by decide +kernel
theorem dX0_tells_43 : decode cX0_tells 43 = .ok (.invokevirtual 43, 3) := by decide +kernel
theorem dX0_tells_46 : decode cX0_tells 46 = .ok (.lstore_n 3, 1) := by decide +kernel
theorem dX0_tells_47 : decode cX0_tells 47 = .ok (.aload_n 0, 1) := by decide +kernel
theorem dX0_tells_48 : decode cX0_tells 48 = .ok (.getfield 9, 3) := by decide +kernel
theorem dX0_tells_51 : decode cX0_tells 51 = .ok (.iconst 1, 1) := by decide +kernel
theorem dX0_tells_52 : decode cX0_tells 52 = .ok (.if_icmp .ne 12, 3) := by decide +kernel
theorem dX0_tells_55 : decode cX0_tells 55 = .ok (.aload_n 0, 1) := by decide +kernel
theorem dX0_tells_56 : decode cX0_tells 56 = .ok (.lload_n 1, 1) := by decide +kernel
theorem dX0_tells_57 : decode cX0_tells 57 = .ok (.lload_n 3, 1) := by decide +kernel
theorem dX0_tells_58 : decode cX0_tells 58 = .ok (.invokevirtual 46, 3) := by decide +kernel
theorem dX0_tells_61 : decode cX0_tells 61 = .ok (.goto 4, 3) := by decide +kernel
theorem dX0_tells_64 : decode cX0_tells 64 = .ok (.lload_n 3, 1) := by decide +kernel
theorem dX0_tells_65 : decode cX0_tells 65 = .ok (.lreturn, 1) := by decide +kernel
set_option maxRecDepth 20000 in
theorem ggX0_tellsAsFloat_X3_nearestOf : GoodIn wsX0_tellsAsFloat wsX3_nearestOf := goodIn_r _ [8, 9, 10, 11, 12, 7, 13, 14, 15, 16, 17, 18, 19, 20, 21, 22, 23, 24, 25, 26, 27, 28, 29, 30, 31, 32, 33, 34, 35, 36, 37, 38, 39, 40, 41, 42, 43, 44, 45, 46, 47, 48, 49, 50, 51, 52, 53, 54] (by decide +kernel) (by decide +kernel)
set_option maxRecDepth 20000 in
theorem gX0_tellsAsFloat_X3_nearestOf : GoodIn wsX0_tellsAsFloat (wsV RX0 52 RX3 yX3_nearestOf wsX3_nearestOf) := goodIn_app (goodIn_of _ (by decide +kernel)) ggX0_tellsAsFloat_X3_nearestOf
set_option maxRecDepth 20000 in
theorem ggX0_tellsAsFloat_X3_cutToLong : GoodIn wsX0_tellsAsFloat wsX3_cutToLong := goodIn_r _ [58, 59, 60, 27, 28, 29, 7, 30, 31, 32, 33, 34, 35, 18, 36, 37, 38, 39, 40, 41, 42, 43, 44, 49, 50, 51, 19, 20, 21, 22] (by decide +kernel) (by decide +kernel)
set_option maxRecDepth 20000 in
theorem gX0_tellsAsFloat_X3_cutToLong : GoodIn wsX0_tellsAsFloat (wsV RX0 29 RX3 yX3_cutToLong wsX3_cutToLong) := goodIn_app (goodIn_of _ (by decide +kernel)) ggX0_tellsAsFloat_X3_cutToLong
set_option maxRecDepth 20000 in
theorem ggX0_tellsAsFloat_X3_nearestWhole : GoodIn wsX0_tellsAsFloat wsX3_nearestWhole := goodIn_r _ [64, 45, 46, 47, 7, 48, 31, 40, 41, 42, 43, 44, 9, 23, 24, 25, 26, 18, 49, 50, 51, 52, 53, 54] (by decide +kernel) (by decide +kernel)
set_option maxRecDepth 20000 in
theorem gX0_tellsAsFloat_X3_nearestWhole : GoodIn wsX0_tellsAsFloat (wsV RX0 33 RX3 yX3_nearestWhole wsX3_nearestWhole) := goodIn_app (goodIn_of _ (by decide +kernel)) ggX0_tellsAsFloat_X3_nearestWhole
set_option maxRecDepth 20000 in
theorem ggX0_tellsAsFloat_X0_tells : GoodIn wsX0_tellsAsFloat wsX0_tells := goodIn_r _ [69, 1, 3, 70, 55, 56, 57, 7, 58, 59, 60, 27, 28, 29, 30, 31, 32, 33, 34, 35, 18, 36, 37, 38, 39, 40, 41, 42, 43, 44, 49, 50, 51, 19, 20, 21, 22, 61, 62, 63, 64, 45, 46, 47, 48, 9, 23, 24, 25, 26, 52, 53, 54, 71, 72, 73, 74, 75, 76, 77, 14, 15, 16, 17, 78, 79, 80, 81, 82, 83, 84, 85, 10, 11, 12, 13, 86, 87, 88, 89, 90, 91, 68, 92, 93, 94, 95, 96, 97, 98, 99, 100] (by decide +kernel) (by decide +kernel)
set_option maxRecDepth 20000 in
theorem gX0_tellsAsFloat_X0_tells : GoodIn wsX0_tellsAsFloat (wsV RX0 56 RX0 yX0_tells wsX0_tells) := goodIn_app (goodIn_of _ (by decide +kernel)) ggX0_tellsAsFloat_X0_tells
theorem dX0_tellsAsFloat_0 : decode cX0_tellsAsFloat 0 = .ok (.aload_n 0, 1) := by decide +kernel
theorem dX0_tellsAsFloat_1 : decode cX0_tellsAsFloat 1 = .ok (.getfield 9, 3) := by decide +kernel
theorem dX0_tellsAsFloat_4 : decode cX0_tellsAsFloat 4 = .ok (.iconst 2, 1) := by decide +kernel
theorem dX0_tellsAsFloat_5 : decode cX0_tellsAsFloat 5 = .ok (.if_icmp .ne 28, 3) := by decide +kernel
theorem dX0_tellsAsFloat_8 : decode cX0_tellsAsFloat 8 = .ok (.getstatic 49, 3) := by decide +kernel
theorem dX0_tellsAsFloat_11 : decode cX0_tellsAsFloat 11 = .ok (.getstatic 19, 3) := by decide +kernel
theorem dX0_tellsAsFloat_14 : decode cX0_tellsAsFloat 14 = .ok (.lload_n 1, 1) := by decide +kernel
theorem dX0_tellsAsFloat_15 : decode cX0_tellsAsFloat 15 = .ok (.invokevirtual 52, 3) := by decide +kernel
theorem dX0_tellsAsFloat_18 : decode cX0_tellsAsFloat 18 = .ok (.lstore_n 3, 1) := by decide +kernel
theorem dX0_tellsAsFloat_19 : decode cX0_tellsAsFloat 19 = .ok (.getstatic 49, 3) := by decide +kernel
theorem dX0_tellsAsFloat_22 : decode cX0_tellsAsFloat 22 = .ok (.getstatic 49, 3) := by decide +kernel
theorem dX0_tellsAsFloat_25 : decode cX0_tellsAsFloat 25 = .ok (.lload_n 3, 1) := by decide +kernel
theorem dX0_tellsAsFloat_26 : decode cX0_tellsAsFloat 26 = .ok (.invokevirtual 29, 3) := by decide +kernel
theorem dX0_tellsAsFloat_29 : decode cX0_tellsAsFloat 29 = .ok (.invokevirtual 33, 3) := by decide +kernel
theorem dX0_tellsAsFloat_32 : decode cX0_tellsAsFloat 32 = .ok (.lreturn, 1) := by decide +kernel
theorem dX0_tellsAsFloat_33 : decode cX0_tellsAsFloat 33 = .ok (.getstatic 49, 3) := by decide +kernel
theorem dX0_tellsAsFloat_36 : decode cX0_tellsAsFloat 36 = .ok (.getstatic 19, 3) := by decide +kernel
theorem dX0_tellsAsFloat_39 : decode cX0_tellsAsFloat 39 = .ok (.aload_n 0, 1) := by decide +kernel
theorem dX0_tellsAsFloat_40 : decode cX0_tellsAsFloat 40 = .ok (.lload_n 1, 1) := by decide +kernel
theorem dX0_tellsAsFloat_41 : decode cX0_tellsAsFloat 41 = .ok (.invokevirtual 56, 3) := by decide +kernel
theorem dX0_tellsAsFloat_44 : decode cX0_tellsAsFloat 44 = .ok (.invokevirtual 52, 3) := by decide +kernel
theorem dX0_tellsAsFloat_47 : decode cX0_tellsAsFloat 47 = .ok (.lreturn, 1) := by decide +kernel
set_option maxRecDepth 20000 in
theorem ggX0_wrapped_X3_negated : GoodIn wsX0_wrapped wsX3_negated := goodIn_r _ [7, 8, 9, 10, 6, 11, 12, 13, 14, 15, 16, 17, 18, 19, 20] (by decide +kernel) (by decide +kernel)
set_option maxRecDepth 20000 in
theorem gX0_wrapped_X3_negated : GoodIn wsX0_wrapped (wsV RX0 40 RX3 yX3_negated wsX3_negated) := goodIn_app (goodIn_of _ (by decide +kernel)) ggX0_wrapped_X3_negated
set_option maxRecDepth 20000 in
theorem ggX0_wrapped_X3_added : GoodIn wsX0_wrapped wsX3_added := goodIn_r _ [24, 25, 26, 27, 6, 28, 29, 13, 14, 15, 16, 12, 30, 31, 32, 33, 34, 35, 36, 37, 38, 39, 40, 41, 42, 43, 44, 45, 46, 47, 48, 49, 50, 8, 9, 10, 11, 51, 52, 53, 54, 17, 18, 19, 20, 55, 56, 57, 58, 59, 60] (by decide +kernel) (by decide +kernel)
set_option maxRecDepth 20000 in
theorem gX0_wrapped_X3_added : GoodIn wsX0_wrapped (wsV RX0 43 RX3 yX3_added wsX3_added) := goodIn_app (goodIn_of _ (by decide +kernel)) ggX0_wrapped_X3_added
set_option maxRecDepth 20000 in
theorem ggX0_wrapped_X3_isNegative : GoodIn wsX0_wrapped wsX3_isNegative := goodIn_r _ [11, 12] (by decide +kernel) (by decide +kernel)
set_option maxRecDepth 20000 in
theorem gX0_wrapped_X3_isNegative : GoodIn wsX0_wrapped (wsV RX0 59 RX3 yX3_isNegative wsX3_isNegative) := goodIn_app (goodIn_of _ (by decide +kernel)) ggX0_wrapped_X3_isNegative
set_option maxRecDepth 20000 in
theorem ggX0_wrapped_X3_isZero : GoodIn wsX0_wrapped wsX3_isZero := goodIn_r _ [65, 13, 14, 15, 6, 16, 12] (by decide +kernel) (by decide +kernel)
set_option maxRecDepth 20000 in
theorem gX0_wrapped_X3_isZero : GoodIn wsX0_wrapped (wsV RX0 62 RX3 yX3_isZero wsX3_isZero) := goodIn_app (goodIn_of _ (by decide +kernel)) ggX0_wrapped_X3_isZero
set_option maxRecDepth 20000 in
theorem ggX0_wrapped_X3_size : GoodIn wsX0_wrapped wsX3_size := goodIn_r _ [16, 12] (by decide +kernel) (by decide +kernel)
set_option maxRecDepth 20000 in
theorem gX0_wrapped_X3_size : GoodIn wsX0_wrapped (wsV RX0 65 RX3 yX3_size wsX3_size) := goodIn_app (goodIn_of _ (by decide +kernel)) ggX0_wrapped_X3_size
theorem dX0_wrapped_0 : decode cX0_wrapped 0 = .ok (.getstatic 19, 3) := by decide +kernel
theorem dX0_wrapped_3 : decode cX0_wrapped 3 = .ok (.lload_n 1, 1) := by decide +kernel
theorem dX0_wrapped_4 : decode cX0_wrapped 4 = .ok (.getstatic 19, 3) := by decide +kernel
theorem dX0_wrapped_7 : decode cX0_wrapped 7 = .ok (.lload_n 3, 1) := by decide +kernel
theorem dX0_wrapped_8 : decode cX0_wrapped 8 = .ok (.invokevirtual 40, 3) := by decide +kernel
theorem dX0_wrapped_11 : decode cX0_wrapped 11 = .ok (.invokevirtual 43, 3) := by decide +kernel
theorem dX0_wrapped_14 : decode cX0_wrapped 14 = .ok (.lstore 5, 2) := by decide +kernel
theorem dX0_wrapped_16 : decode cX0_wrapped 16 = .ok (.getstatic 19, 3) := by decide +kernel
theorem dX0_wrapped_19 : decode cX0_wrapped 19 = .ok (.lload 5, 2) := by decide +kernel
theorem dX0_wrapped_21 : decode cX0_wrapped 21 = .ok (.invokevirtual 59, 3) := by decide +kernel
theorem dX0_wrapped_24 : decode cX0_wrapped 24 = .ok (.ifCond .eq 18, 3) := by decide +kernel
theorem dX0_wrapped_27 : decode cX0_wrapped 27 = .ok (.getstatic 19, 3) := by decide +kernel
theorem dX0_wrapped_30 : decode cX0_wrapped 30 = .ok (.lload 5, 2) := by decide +kernel
theorem dX0_wrapped_32 : decode cX0_wrapped 32 = .ok (.invokevirtual 62, 3) := by decide +kernel
theorem dX0_wrapped_35 : decode cX0_wrapped 35 = .ok (.ifCond .ne 7, 3) := by decide +kernel
theorem dX0_wrapped_38 : decode cX0_wrapped 38 = .ok (.iconst 1, 1) := by decide +kernel
theorem dX0_wrapped_39 : decode cX0_wrapped 39 = .ok (.goto 4, 3) := by decide +kernel
theorem dX0_wrapped_42 : decode cX0_wrapped 42 = .ok (.iconst 0, 1) := by decide +kernel
theorem dX0_wrapped_43 : decode cX0_wrapped 43 = .ok (.istore 7, 2) := by decide +kernel
theorem dX0_wrapped_45 : decode cX0_wrapped 45 = .ok (.iload 7, 2) := by decide +kernel
theorem dX0_wrapped_47 : decode cX0_wrapped 47 = .ok (.ifCond .eq 24, 3) := by decide +kernel
theorem dX0_wrapped_50 : decode cX0_wrapped 50 = .ok (.getstatic 19, 3) := by decide +kernel
theorem dX0_wrapped_53 : decode cX0_wrapped 53 = .ok (.lload 5, 2) := by decide +kernel
theorem dX0_wrapped_55 : decode cX0_wrapped 55 = .ok (.getstatic 19, 3) := by decide +kernel
theorem dX0_wrapped_58 : decode cX0_wrapped 58 = .ok (.aload_n 0, 1) := by decide +kernel
theorem dX0_wrapped_59 : decode cX0_wrapped 59 = .ok (.getfield 15, 3) := by decide +kernel
theorem dX0_wrapped_62 : decode cX0_wrapped 62 = .ok (.invokevirtual 65, 3) := by decide +kernel
theorem dX0_wrapped_65 : decode cX0_wrapped 65 = .ok (.invokevirtual 43, 3) := by decide +kernel
theorem dX0_wrapped_68 : decode cX0_wrapped 68 = .ok (.goto 5, 3) := by decide +kernel
theorem dX0_wrapped_71 : decode cX0_wrapped 71 = .ok (.lload 5, 2) := by decide +kernel
theorem dX0_wrapped_73 : decode cX0_wrapped 73 = .ok (.lreturn, 1) := by decide +kernel
theorem dX1_init_0 : decode cX1_init 0 = .ok (.aload_n 0, 1) := by decide +kernel
theorem dX1_init_1 : decode cX1_init 1 = .ok (.invokespecial 3, 3) := by decide +kernel
theorem dX1_init_4 : decode cX1_init 4 = .ok (.aload_n 0, 1) := by decide +kernel
theorem dX1_init_5 : decode cX1_init 5 = .ok (.iconst 4, 1) := by decide +kernel
theorem dX1_init_6 : decode cX1_init 6 = .ok (.anewarray 9, 3) := by decide +kernel
theorem dX1_init_9 : decode cX1_init 9 = .ok (.putfield 11, 3) := by decide +kernel
theorem dX1_init_12 : decode cX1_init 12 = .ok (.aload_n 0, 1) := by decide +kernel
theorem dX1_init_13 : decode cX1_init 13 = .ok (.iload_n 1, 1) := by decide +kernel
theorem dX1_init_14 : decode cX1_init 14 = .ok (.putfield 17, 3) := by decide +kernel
theorem dX1_init_17 : decode cX1_init 17 = .ok (.return_, 1) := by decide +kernel
theorem dX2_init_0 : decode cX2_init 0 = .ok (.aload_n 0, 1) := by decide +kernel
theorem dX2_init_1 : decode cX2_init 1 = .ok (.invokespecial 1, 3) := by decide +kernel
theorem dX2_init_4 : decode cX2_init 4 = .ok (.aload_n 0, 1) := by decide +kernel
theorem dX2_init_5 : decode cX2_init 5 = .ok (.aload_n 1, 1) := by decide +kernel
theorem dX2_init_6 : decode cX2_init 6 = .ok (.putfield 7, 3) := by decide +kernel
theorem dX2_init_9 : decode cX2_init 9 = .ok (.aload_n 0, 1) := by decide +kernel
theorem dX2_init_10 : decode cX2_init 10 = .ok (.aload_n 2, 1) := by decide +kernel
theorem dX2_init_11 : decode cX2_init 11 = .ok (.putfield 13, 3) := by decide +kernel
theorem dX2_init_14 : decode cX2_init 14 = .ok (.return_, 1) := by decide +kernel
set_option maxRecDepth 20000 in
theorem ggX3_isNumber_X3_size : GoodIn wsX3_isNumber wsX3_size := goodIn_r _ [6, 7] (by decide +kernel) (by decide +kernel)
set_option maxRecDepth 20000 in
theorem gX3_isNumber_X3_size : GoodIn wsX3_isNumber (wsV RX3 43 RX3 yX3_size wsX3_size) := goodIn_app (goodIn_of _ (by decide +kernel)) ggX3_isNumber_X3_size
theorem dX3_isNumber_0 : decode cX3_isNumber 0 = .ok (.aload_n 0, 1) := by decide +kernel
theorem dX3_isNumber_1 : decode cX3_isNumber 1 = .ok (.lload_n 1, 1) := by decide +kernel
theorem dX3_isNumber_2 : decode cX3_isNumber 2 = .ok (.invokevirtual 43, 3) := by decide +kernel
theorem dX3_isNumber_5 : decode cX3_isNumber 5 = .ok (.aload_n 0, 1) := by decide +kernel
theorem dX3_isNumber_6 : decode cX3_isNumber 6 = .ok (.getfield 40, 3) := by decide +kernel
theorem dX3_isNumber_9 : decode cX3_isNumber 9 = .ok (.lcmp, 1) := by decide +kernel
theorem dX3_isNumber_10 : decode cX3_isNumber 10 = .ok (.ifCond .gt 7, 3) := by decide +kernel
theorem dX3_isNumber_13 : decode cX3_isNumber 13 = .ok (.iconst 1, 1) := by decide +kernel
theorem dX3_isNumber_14 : decode cX3_isNumber 14 = .ok (.goto 4, 3) := by decide +kernel
theorem dX3_isNumber_17 : decode cX3_isNumber 17 = .ok (.iconst 0, 1) := by decide +kernel
theorem dX3_isNumber_18 : decode cX3_isNumber 18 = .ok (.ireturn, 1) := by decide +kernel
set_option maxRecDepth 20000 in
theorem ggX3_isEndless_X3_size : GoodIn wsX3_isEndless wsX3_size := goodIn_r _ [6, 7] (by decide +kernel) (by decide +kernel)
set_option maxRecDepth 20000 in
theorem gX3_isEndless_X3_size : GoodIn wsX3_isEndless (wsV RX3 43 RX3 yX3_size wsX3_size) := goodIn_app (goodIn_of _ (by decide +kernel)) ggX3_isEndless_X3_size
theorem dX3_isEndless_0 : decode cX3_isEndless 0 = .ok (.aload_n 0, 1) := by decide +kernel
theorem dX3_isEndless_1 : decode cX3_isEndless 1 = .ok (.lload_n 1, 1) := by decide +kernel
theorem dX3_isEndless_2 : decode cX3_isEndless 2 = .ok (.invokevirtual 43, 3) := by decide +kernel
theorem dX3_isEndless_5 : decode cX3_isEndless 5 = .ok (.aload_n 0, 1) := by decide +kernel
theorem dX3_isEndless_6 : decode cX3_isEndless 6 = .ok (.getfield 40, 3) := by decide +kernel
theorem dX3_isEndless_9 : decode cX3_isEndless 9 = .ok (.lcmp, 1) := by decide +kernel
theorem dX3_isEndless_10 : decode cX3_isEndless 10 = .ok (.ifCond .ne 7, 3) := by decide +kernel
theorem dX3_isEndless_13 : decode cX3_isEndless 13 = .ok (.iconst 1, 1) := by decide +kernel
theorem dX3_isEndless_14 : decode cX3_isEndless 14 = .ok (.goto 4, 3) := by decide +kernel
theorem dX3_isEndless_17 : decode cX3_isEndless 17 = .ok (.iconst 0, 1) := by decide +kernel
theorem dX3_isEndless_18 : decode cX3_isEndless 18 = .ok (.ireturn, 1) := by decide +kernel
set_option maxRecDepth 20000 in
theorem ggX3_isZero_X3_size : GoodIn wsX3_isZero wsX3_size := goodIn_r _ [5, 6] (by decide +kernel) (by decide +kernel)
set_option maxRecDepth 20000 in
theorem gX3_isZero_X3_size : GoodIn wsX3_isZero (wsV RX3 43 RX3 yX3_size wsX3_size) := goodIn_app (goodIn_of _ (by decide +kernel)) ggX3_isZero_X3_size
theorem dX3_isZero_0 : decode cX3_isZero 0 = .ok (.aload_n 0, 1) := by decide +kernel
theorem dX3_isZero_1 : decode cX3_isZero 1 = .ok (.lload_n 1, 1) := by decide +kernel
theorem dX3_isZero_2 : decode cX3_isZero 2 = .ok (.invokevirtual 43, 3) := by decide +kernel
theorem dX3_isZero_5 : decode cX3_isZero 5 = .ok (.lconst 0, 1) := by decide +kernel
theorem dX3_isZero_6 : decode cX3_isZero 6 = .ok (.lcmp, 1) := by decide +kernel
theorem dX3_isZero_7 : decode cX3_isZero 7 = .ok (.ifCond .ne 7, 3) := by decide +kernel
theorem dX3_isZero_10 : decode cX3_isZero 10 = .ok (.iconst 1, 1) := by decide +kernel
theorem dX3_isZero_11 : decode cX3_isZero 11 = .ok (.goto 4, 3) := by decide +kernel
theorem dX3_isZero_14 : decode cX3_isZero 14 = .ok (.iconst 0, 1) := by decide +kernel
theorem dX3_isZero_15 : decode cX3_isZero 15 = .ok (.ireturn, 1) := by decide +kernel
theorem dX3_isNegative_0 : decode cX3_isNegative 0 = .ok (.lload_n 1, 1) := by decide +kernel
theorem dX3_isNegative_1 : decode cX3_isNegative 1 = .ok (.aload_n 0, 1) := by decide +kernel
theorem dX3_isNegative_2 : decode cX3_isNegative 2 = .ok (.getfield 36, 3) := by decide +kernel
theorem dX3_isNegative_5 : decode cX3_isNegative 5 = .ok (.land, 1) := by decide +kernel
theorem dX3_isNegative_6 : decode cX3_isNegative 6 = .ok (.lconst 0, 1) := by decide +kernel
theorem dX3_isNegative_7 : decode cX3_isNegative 7 = .ok (.lcmp, 1) := by decide +kernel
theorem dX3_isNegative_8 : decode cX3_isNegative 8 = .ok (.ifCond .eq 7, 3) := by decide +kernel
theorem dX3_isNegative_11 : decode cX3_isNegative 11 = .ok (.iconst 1, 1) := by decide +kernel
theorem dX3_isNegative_12 : decode cX3_isNegative 12 = .ok (.goto 4, 3) := by decide +kernel
theorem dX3_isNegative_15 : decode cX3_isNegative 15 = .ok (.iconst 0, 1) := by decide +kernel
theorem dX3_isNegative_16 : decode cX3_isNegative 16 = .ok (.ireturn, 1) := by decide +kernel
set_option maxRecDepth 20000 in
theorem ggX3_areUnlikeEndless_X3_isEndless : GoodIn wsX3_areUnlikeEndless wsX3_isEndless := goodIn_r _ [5, 6, 7, 8, 9, 4, 10, 11] (by decide +kernel) (by decide +kernel)
set_option maxRecDepth 20000 in
theorem gX3_areUnlikeEndless_X3_isEndless : GoodIn wsX3_areUnlikeEndless (wsV RX3 47 RX3 yX3_isEndless wsX3_isEndless) := goodIn_app (goodIn_of _ (by decide +kernel)) ggX3_areUnlikeEndless_X3_isEndless
set_option maxRecDepth 20000 in
theorem ggX3_areUnlikeEndless_X3_isNegative : GoodIn wsX3_areUnlikeEndless wsX3_isNegative := goodIn_r _ [15, 11] (by decide +kernel) (by decide +kernel)
set_option maxRecDepth 20000 in
theorem gX3_areUnlikeEndless_X3_isNegative : GoodIn wsX3_areUnlikeEndless (wsV RX3 51 RX3 yX3_isNegative wsX3_isNegative) := goodIn_app (goodIn_of _ (by decide +kernel)) ggX3_areUnlikeEndless_X3_isNegative
theorem dX3_areUnlikeEndless_0 : decode cX3_areUnlikeEndless 0 = .ok (.aload_n 0, 1) := by decide +kernel
theorem dX3_areUnlikeEndless_1 : decode cX3_areUnlikeEndless 1 = .ok (.lload_n 1, 1) := by decide +kernel
theorem dX3_areUnlikeEndless_2 : decode cX3_areUnlikeEndless 2 = .ok (.invokevirtual 47, 3) := by decide +kernel
theorem dX3_areUnlikeEndless_5 : decode cX3_areUnlikeEndless 5 = .ok (.ifCond .eq 28, 3) := by decide +kernel
theorem dX3_areUnlikeEndless_8 : decode cX3_areUnlikeEndless 8 = .ok (.aload_n 0, 1) := by decide +kernel
theorem dX3_areUnlikeEndless_9 : decode cX3_areUnlikeEndless 9 = .ok (.lload_n 3, 1) := by decide +kernel
theorem dX3_areUnlikeEndless_10 : decode cX3_areUnlikeEndless 10 = .ok (.invokevirtual 47, 3) := by decide +kernel
theorem dX3_areUnlikeEndless_13 : decode cX3_areUnlikeEndless 13 = .ok (.ifCond .eq 20, 3) := by decide +kernel
theorem dX3_areUnlikeEndless_16 : decode cX3_areUnlikeEndless 16 = .ok (.aload_n 0, 1) := by decide +kernel
theorem dX3_areUnlikeEndless_17 : decode cX3_areUnlikeEndless 17 = .ok (.lload_n 1, 1) := by decide +kernel
theorem dX3_areUnlikeEndless_18 : decode cX3_areUnlikeEndless 18 = .ok (.invokevirtual 51, 3) := by decide +kernel
theorem dX3_areUnlikeEndless_21 : decode cX3_areUnlikeEndless 21 = .ok (.aload_n 0, 1) := by decide +kernel
theorem dX3_areUnlikeEndless_22 : decode cX3_areUnlikeEndless 22 = .ok (.lload_n 3, 1) := by decide +kernel
theorem dX3_areUnlikeEndless_23 : decode cX3_areUnlikeEndless 23 = .ok (.invokevirtual 51, 3) := by decide +kernel
theorem dX3_areUnlikeEndless_26 : decode cX3_areUnlikeEndless 26 = .ok (.if_icmp .eq 7, 3) := by decide +kernel
theorem dX3_areUnlikeEndless_29 : decode cX3_areUnlikeEndless 29 = .ok (.iconst 1, 1) := by decide +kernel
theorem dX3_areUnlikeEndless_30 : decode cX3_areUnlikeEndless 30 = .ok (.goto 4, 3) := by decide +kernel
theorem dX3_areUnlikeEndless_33 : decode cX3_areUnlikeEndless 33 = .ok (.iconst 0, 1) := by decide +kernel
theorem dX3_areUnlikeEndless_34 : decode cX3_areUnlikeEndless 34 = .ok (.ireturn, 1) := by decide +kernel
theorem dX3_size_0 : decode cX3_size 0 = .ok (.lload_n 1, 1) := by decide +kernel
theorem dX3_size_1 : decode cX3_size 1 = .ok (.aload_n 0, 1) := by decide +kernel
theorem dX3_size_2 : decode cX3_size 2 = .ok (.getfield 36, 3) := by decide +kernel
theorem dX3_size_5 : decode cX3_size 5 = .ok (.lconst 1, 1) := by decide +kernel
theorem dX3_size_6 : decode cX3_size 6 = .ok (.lsub, 1) := by decide +kernel
theorem dX3_size_7 : decode cX3_size 7 = .ok (.land, 1) := by decide +kernel
theorem dX3_size_8 : decode cX3_size 8 = .ok (.lreturn, 1) := by decide +kernel
set_option maxRecDepth 20000 in
theorem ggX3_asTold_X3_isNegative : GoodIn wsX3_asTold wsX3_isNegative := goodIn_r _ [5, 6] (by decide +kernel) (by decide +kernel)
set_option maxRecDepth 20000 in
theorem gX3_asTold_X3_isNegative : GoodIn wsX3_asTold (wsV RX3 51 RX3 yX3_isNegative wsX3_isNegative) := goodIn_app (goodIn_of _ (by decide +kernel)) ggX3_asTold_X3_isNegative
set_option maxRecDepth 20000 in
theorem ggX3_asTold_X3_size : GoodIn wsX3_asTold wsX3_size := goodIn_r _ [10, 6] (by decide +kernel) (by decide +kernel)
set_option maxRecDepth 20000 in
theorem gX3_asTold_X3_size : GoodIn wsX3_asTold (wsV RX3 43 RX3 yX3_size wsX3_size) := goodIn_app (goodIn_of _ (by decide +kernel)) ggX3_asTold_X3_size
set_option maxRecDepth 20000 in
theorem ggX3_asTold_X3_signed : GoodIn wsX3_asTold wsX3_signed := goodIn_r _ [14, 6] (by decide +kernel) (by decide +kernel)
set_option maxRecDepth 20000 in
theorem gX3_asTold_X3_signed : GoodIn wsX3_asTold (wsV RX3 54 RX3 yX3_signed wsX3_signed) := goodIn_app (goodIn_of _ (by decide +kernel)) ggX3_asTold_X3_signed
theorem dX3_asTold_0 : decode cX3_asTold 0 = .ok (.aload_n 0, 1) := by decide +kernel
theorem dX3_asTold_1 : decode cX3_asTold 1 = .ok (.aload_n 0, 1) := by decide +kernel
theorem dX3_asTold_2 : decode cX3_asTold 2 = .ok (.lload_n 1, 1) := by decide +kernel
theorem dX3_asTold_3 : decode cX3_asTold 3 = .ok (.invokevirtual 51, 3) := by decide +kernel
theorem dX3_asTold_6 : decode cX3_asTold 6 = .ok (.aload_n 0, 1) := by decide +kernel
theorem dX3_asTold_7 : decode cX3_asTold 7 = .ok (.lload_n 1, 1) := by decide +kernel
theorem dX3_asTold_8 : decode cX3_asTold 8 = .ok (.invokevirtual 43, 3) := by decide +kernel
theorem dX3_asTold_11 : decode cX3_asTold 11 = .ok (.invokevirtual 54, 3) := by decide +kernel
theorem dX3_asTold_14 : decode cX3_asTold 14 = .ok (.lreturn, 1) := by decide +kernel
set_option maxRecDepth 20000 in
theorem ggX3_nearestWhole_X3_nearest : GoodIn wsX3_nearestWhole wsX3_nearest := goodIn_r _ [5, 6, 7, 8, 9, 10, 11, 12, 13, 14, 15, 4, 16, 17, 18, 19, 20, 21, 22, 23] (by decide +kernel) (by decide +kernel)
set_option maxRecDepth 20000 in
theorem gX3_nearestWhole_X3_nearest : GoodIn wsX3_nearestWhole (wsV RX3 58 RX3 yX3_nearest wsX3_nearest) := goodIn_app (goodIn_of _ (by decide +kernel)) ggX3_nearestWhole_X3_nearest
theorem dX3_nearestWhole_0 : decode cX3_nearestWhole 0 = .ok (.aload_n 0, 1) := by decide +kernel
theorem dX3_nearestWhole_1 : decode cX3_nearestWhole 1 = .ok (.lload_n 1, 1) := by decide +kernel
theorem dX3_nearestWhole_2 : decode cX3_nearestWhole 2 = .ok (.lconst 0, 1) := by decide +kernel
theorem dX3_nearestWhole_3 : decode cX3_nearestWhole 3 = .ok (.lcmp, 1) := by decide +kernel
theorem dX3_nearestWhole_4 : decode cX3_nearestWhole 4 = .ok (.ifCond .ge 7, 3) := by decide +kernel
theorem dX3_nearestWhole_7 : decode cX3_nearestWhole 7 = .ok (.iconst 1, 1) := by decide +kernel
theorem dX3_nearestWhole_8 : decode cX3_nearestWhole 8 = .ok (.goto 4, 3) := by decide +kernel
theorem dX3_nearestWhole_11 : decode cX3_nearestWhole 11 = .ok (.iconst 0, 1) := by decide +kernel
theorem dX3_nearestWhole_12 : decode cX3_nearestWhole 12 = .ok (.lload_n 1, 1) := by decide +kernel
theorem dX3_nearestWhole_13 : decode cX3_nearestWhole 13 = .ok (.lconst 0, 1) := by decide +kernel
theorem dX3_nearestWhole_14 : decode cX3_nearestWhole 14 = .ok (.lcmp, 1) := by decide +kernel
theorem dX3_nearestWhole_15 : decode cX3_nearestWhole 15 = .ok (.ifCond .ge 8, 3) := by decide +kernel
theorem dX3_nearestWhole_18 : decode cX3_nearestWhole 18 = .ok (.lload_n 1, 1) := by decide +kernel
theorem dX3_nearestWhole_19 : decode cX3_nearestWhole 19 = .ok (.lneg, 1) := by decide +kernel
theorem dX3_nearestWhole_20 : decode cX3_nearestWhole 20 = .ok (.goto 4, 3) := by decide +kernel
theorem dX3_nearestWhole_23 : decode cX3_nearestWhole 23 = .ok (.lload_n 1, 1) := by decide +kernel
theorem dX3_nearestWhole_24 : decode cX3_nearestWhole 24 = .ok (.iconst 0, 1) := by decide +kernel
theorem dX3_nearestWhole_25 : decode cX3_nearestWhole 25 = .ok (.invokevirtual 58, 3) := by decide +kernel
theorem dX3_nearestWhole_28 : decode cX3_nearestWhole 28 = .ok (.lreturn, 1) := by decide +kernel
set_option maxRecDepth 20000 in
theorem ggX3_nearestEighths_X3_nearest : GoodIn wsX3_nearestEighths wsX3_nearest := goodIn_r _ [5, 6, 7, 8, 9, 10, 11, 12, 13, 14, 15, 4, 16, 17, 18, 19, 20, 21, 22, 23] (by decide +kernel) (by decide +kernel)
set_option maxRecDepth 20000 in
theorem gX3_nearestEighths_X3_nearest : GoodIn wsX3_nearestEighths (wsV RX3 58 RX3 yX3_nearest wsX3_nearest) := goodIn_app (goodIn_of _ (by decide +kernel)) ggX3_nearestEighths_X3_nearest
theorem dX3_nearestEighths_0 : decode cX3_nearestEighths 0 = .ok (.iload_n 1, 1) := by decide +kernel
theorem dX3_nearestEighths_1 : decode cX3_nearestEighths 1 = .ok (.i2l, 1) := by decide +kernel
theorem dX3_nearestEighths_2 : decode cX3_nearestEighths 2 = .ok (.lstore_n 2, 1) := by decide +kernel
theorem dX3_nearestEighths_3 : decode cX3_nearestEighths 3 = .ok (.aload_n 0, 1) := by decide +kernel
theorem dX3_nearestEighths_4 : decode cX3_nearestEighths 4 = .ok (.lload_n 2, 1) := by decide +kernel
theorem dX3_nearestEighths_5 : decode cX3_nearestEighths 5 = .ok (.lconst 0, 1) := by decide +kernel
theorem dX3_nearestEighths_6 : decode cX3_nearestEighths 6 = .ok (.lcmp, 1) := by decide +kernel
theorem dX3_nearestEighths_7 : decode cX3_nearestEighths 7 = .ok (.ifCond .ge 7, 3) := by decide +kernel
theorem dX3_nearestEighths_10 : decode cX3_nearestEighths 10 = .ok (.iconst 1, 1) := by decide +kernel
theorem dX3_nearestEighths_11 : decode cX3_nearestEighths 11 = .ok (.goto 4, 3) := by decide +kernel
theorem dX3_nearestEighths_14 : decode cX3_nearestEighths 14 = .ok (.iconst 0, 1) := by decide +kernel
theorem dX3_nearestEighths_15 : decode cX3_nearestEighths 15 = .ok (.lload_n 2, 1) := by decide +kernel
theorem dX3_nearestEighths_16 : decode cX3_nearestEighths 16 = .ok (.lconst 0, 1) := by decide +kernel
theorem dX3_nearestEighths_17 : decode cX3_nearestEighths 17 = .ok (.lcmp, 1) := by decide +kernel
theorem dX3_nearestEighths_18 : decode cX3_nearestEighths 18 = .ok (.ifCond .ge 8, 3) := by decide +kernel
theorem dX3_nearestEighths_21 : decode cX3_nearestEighths 21 = .ok (.lload_n 2, 1) := by decide +kernel
theorem dX3_nearestEighths_22 : decode cX3_nearestEighths 22 = .ok (.lneg, 1) := by decide +kernel
theorem dX3_nearestEighths_23 : decode cX3_nearestEighths 23 = .ok (.goto 4, 3) := by decide +kernel
theorem dX3_nearestEighths_26 : decode cX3_nearestEighths 26 = .ok (.lload_n 2, 1) := by decide +kernel
theorem dX3_nearestEighths_27 : decode cX3_nearestEighths 27 = .ok (.bipush (-3), 2) := by decide +kernel
theorem dX3_nearestEighths_29 : decode cX3_nearestEighths 29 = .ok (.invokevirtual 58, 3) := by decide +kernel
theorem dX3_nearestEighths_32 : decode cX3_nearestEighths 32 = .ok (.lreturn, 1) := by decide +kernel
set_option maxRecDepth 20000 in
theorem ggX3_nearestOf_X3_isEndless : GoodIn wsX3_nearestOf wsX3_isEndless := goodIn_r _ [6, 1, 7, 8, 9, 5, 10, 11] (by decide +kernel) (by decide +kernel)
set_option maxRecDepth 20000 in
theorem gX3_nearestOf_X3_isEndless : GoodIn wsX3_nearestOf (wsV RX3 47 RX3 yX3_isEndless wsX3_isEndless) := goodIn_app (goodIn_of _ (by decide +kernel)) ggX3_nearestOf_X3_isEndless
set_option maxRecDepth 20000 in
theorem ggX3_nearestOf_X3_isNegative : GoodIn wsX3_nearestOf wsX3_isNegative := goodIn_r _ [15, 11] (by decide +kernel) (by decide +kernel)
set_option maxRecDepth 20000 in
theorem gX3_nearestOf_X3_isNegative : GoodIn wsX3_nearestOf (wsV RX3 51 RX3 yX3_isNegative wsX3_isNegative) := goodIn_app (goodIn_of _ (by decide +kernel)) ggX3_nearestOf_X3_isNegative
set_option maxRecDepth 20000 in
theorem ggX3_nearestOf_X3_signed : GoodIn wsX3_nearestOf wsX3_signed := goodIn_r _ [19, 11] (by decide +kernel) (by decide +kernel)
set_option maxRecDepth 20000 in
theorem gX3_nearestOf_X3_signed : GoodIn wsX3_nearestOf (wsV RX3 54 RX3 yX3_signed wsX3_signed) := goodIn_app (goodIn_of _ (by decide +kernel)) ggX3_nearestOf_X3_signed
set_option maxRecDepth 20000 in
theorem ggX3_nearestOf_X3_significand : GoodIn wsX3_nearestOf wsX3_significand := goodIn_r _ [23, 24, 25, 26, 27, 5, 28, 11] (by decide +kernel) (by decide +kernel)
set_option maxRecDepth 20000 in
theorem gX3_nearestOf_X3_significand : GoodIn wsX3_nearestOf (wsV RX3 62 RX3 yX3_significand wsX3_significand) := goodIn_app (goodIn_of _ (by decide +kernel)) ggX3_nearestOf_X3_significand
set_option maxRecDepth 20000 in
theorem ggX3_nearestOf_X3_exponent : GoodIn wsX3_nearestOf wsX3_exponent := goodIn_r _ [32, 33, 34, 35, 36, 37, 25, 26, 27, 5, 28, 11, 24] (by decide +kernel) (by decide +kernel)
set_option maxRecDepth 20000 in
theorem gX3_nearestOf_X3_exponent : GoodIn wsX3_nearestOf (wsV RX3 65 RX3 yX3_exponent wsX3_exponent) := goodIn_app (goodIn_of _ (by decide +kernel)) ggX3_nearestOf_X3_exponent
set_option maxRecDepth 20000 in
theorem ggX3_nearestOf_X3_nearest : GoodIn wsX3_nearestOf wsX3_nearest := goodIn_r _ [41, 24, 33, 34, 35, 36, 37, 1, 16, 17, 18, 5, 19, 11, 42, 43, 44, 45, 46, 47] (by decide +kernel) (by decide +kernel)
set_option maxRecDepth 20000 in
theorem gX3_nearestOf_X3_nearest : GoodIn wsX3_nearestOf (wsV RX3 58 RX3 yX3_nearest wsX3_nearest) := goodIn_app (goodIn_of _ (by decide +kernel)) ggX3_nearestOf_X3_nearest
theorem dX3_nearestOf_0 : decode cX3_nearestOf 0 = .ok (.aload_n 1, 1) := by decide +kernel
theorem dX3_nearestOf_1 : decode cX3_nearestOf 1 = .ok (.lload_n 2, 1) := by decide +kernel
theorem dX3_nearestOf_2 : decode cX3_nearestOf 2 = .ok (.invokevirtual 47, 3) := by decide +kernel
theorem dX3_nearestOf_5 : decode cX3_nearestOf 5 = .ok (.ifCond .eq 17, 3) := by decide +kernel
theorem dX3_nearestOf_8 : decode cX3_nearestOf 8 = .ok (.aload_n 0, 1) := by decide +kernel
theorem dX3_nearestOf_9 : decode cX3_nearestOf 9 = .ok (.aload_n 1, 1) := by decide +kernel
theorem dX3_nearestOf_10 : decode cX3_nearestOf 10 = .ok (.lload_n 2, 1) := by decide +kernel
theorem dX3_nearestOf_11 : decode cX3_nearestOf 11 = .ok (.invokevirtual 51, 3) := by decide +kernel
theorem dX3_nearestOf_14 : decode cX3_nearestOf 14 = .ok (.aload_n 0, 1) := by decide +kernel
theorem dX3_nearestOf_15 : decode cX3_nearestOf 15 = .ok (.getfield 40, 3) := by decide +kernel
theorem dX3_nearestOf_18 : decode cX3_nearestOf 18 = .ok (.invokevirtual 54, 3) := by decide +kernel
theorem dX3_nearestOf_21 : decode cX3_nearestOf 21 = .ok (.lreturn, 1) := by decide +kernel
theorem dX3_nearestOf_22 : decode cX3_nearestOf 22 = .ok (.aload_n 0, 1) := by decide +kernel
theorem dX3_nearestOf_23 : decode cX3_nearestOf 23 = .ok (.aload_n 1, 1) := by decide +kernel
theorem dX3_nearestOf_24 : decode cX3_nearestOf 24 = .ok (.lload_n 2, 1) := by decide +kernel
theorem dX3_nearestOf_25 : decode cX3_nearestOf 25 = .ok (.invokevirtual 51, 3) := by decide +kernel
theorem dX3_nearestOf_28 : decode cX3_nearestOf 28 = .ok (.aload_n 1, 1) := by decide +kernel
theorem dX3_nearestOf_29 : decode cX3_nearestOf 29 = .ok (.lload_n 2, 1) := by decide +kernel
theorem dX3_nearestOf_30 : decode cX3_nearestOf 30 = .ok (.invokevirtual 62, 3) := by decide +kernel
theorem dX3_nearestOf_33 : decode cX3_nearestOf 33 = .ok (.aload_n 1, 1) := by decide +kernel
theorem dX3_nearestOf_34 : decode cX3_nearestOf 34 = .ok (.lload_n 2, 1) := by decide +kernel
theorem dX3_nearestOf_35 : decode cX3_nearestOf 35 = .ok (.invokevirtual 65, 3) := by decide +kernel
theorem dX3_nearestOf_38 : decode cX3_nearestOf 38 = .ok (.invokevirtual 58, 3) := by decide +kernel
theorem dX3_nearestOf_41 : decode cX3_nearestOf 41 = .ok (.lreturn, 1) := by decide +kernel
set_option maxRecDepth 20000 in
theorem ggX3_cutToLong_X3_significand : GoodIn wsX3_cutToLong wsX3_significand := goodIn_r _ [7, 8, 9, 10, 11, 6, 12, 13] (by decide +kernel) (by decide +kernel)
set_option maxRecDepth 20000 in
theorem gX3_cutToLong_X3_significand : GoodIn wsX3_cutToLong (wsV RX3 62 RX3 yX3_significand wsX3_significand) := goodIn_app (goodIn_of _ (by decide +kernel)) ggX3_cutToLong_X3_significand
set_option maxRecDepth 20000 in
theorem ggX3_cutToLong_X3_exponent : GoodIn wsX3_cutToLong wsX3_exponent := goodIn_r _ [17, 18, 19, 20, 21, 22, 9, 10, 11, 6, 12, 13, 8] (by decide +kernel) (by decide +kernel)
set_option maxRecDepth 20000 in
theorem gX3_cutToLong_X3_exponent : GoodIn wsX3_cutToLong (wsV RX3 65 RX3 yX3_exponent wsX3_exponent) := goodIn_app (goodIn_of _ (by decide +kernel)) ggX3_cutToLong_X3_exponent
set_option maxRecDepth 20000 in
theorem ggX3_cutToLong_X3_bitLength : GoodIn wsX3_cutToLong wsX3_bitLength := goodIn_r _ [25] (by decide +kernel) (by decide +kernel)
set_option maxRecDepth 20000 in
theorem gX3_cutToLong_X3_bitLength : GoodIn wsX3_cutToLong (va_wsS RX3 69 yX3_bitLength wsX3_bitLength) := goodIn_app (goodIn_of _ (by decide +kernel)) ggX3_cutToLong_X3_bitLength
set_option maxRecDepth 20000 in
theorem ggX3_cutToLong_X3_isNegative : GoodIn wsX3_cutToLong wsX3_isNegative := goodIn_r _ [29, 13] (by decide +kernel) (by decide +kernel)
set_option maxRecDepth 20000 in
theorem gX3_cutToLong_X3_isNegative : GoodIn wsX3_cutToLong (wsV RX3 51 RX3 yX3_isNegative wsX3_isNegative) := goodIn_app (goodIn_of _ (by decide +kernel)) ggX3_cutToLong_X3_isNegative
theorem dX3_cutToLong_0 : decode cX3_cutToLong 0 = .ok (.aload_n 0, 1) := by decide +kernel
theorem dX3_cutToLong_1 : decode cX3_cutToLong 1 = .ok (.lload_n 1, 1) := by decide +kernel
theorem dX3_cutToLong_2 : decode cX3_cutToLong 2 = .ok (.invokevirtual 62, 3) := by decide +kernel
theorem dX3_cutToLong_5 : decode cX3_cutToLong 5 = .ok (.lstore_n 3, 1) := by decide +kernel
theorem dX3_cutToLong_6 : decode cX3_cutToLong 6 = .ok (.aload_n 0, 1) := by decide +kernel
theorem dX3_cutToLong_7 : decode cX3_cutToLong 7 = .ok (.lload_n 1, 1) := by decide +kernel
theorem dX3_cutToLong_8 : decode cX3_cutToLong 8 = .ok (.invokevirtual 65, 3) := by decide +kernel
theorem dX3_cutToLong_11 : decode cX3_cutToLong 11 = .ok (.istore 5, 2) := by decide +kernel
theorem dX3_cutToLong_13 : decode cX3_cutToLong 13 = .ok (.lload_n 3, 1) := by decide +kernel
theorem dX3_cutToLong_14 : decode cX3_cutToLong 14 = .ok (.invokestatic 69, 3) := by decide +kernel
theorem dX3_cutToLong_17 : decode cX3_cutToLong 17 = .ok (.iload 5, 2) := by decide +kernel
theorem dX3_cutToLong_19 : decode cX3_cutToLong 19 = .ok (.iadd, 1) := by decide +kernel
theorem dX3_cutToLong_20 : decode cX3_cutToLong 20 = .ok (.bipush 64, 2) := by decide +kernel
theorem dX3_cutToLong_22 : decode cX3_cutToLong 22 = .ok (.if_icmp .lt 21, 3) := by decide +kernel
theorem dX3_cutToLong_25 : decode cX3_cutToLong 25 = .ok (.aload_n 0, 1) := by decide +kernel
theorem dX3_cutToLong_26 : decode cX3_cutToLong 26 = .ok (.lload_n 1, 1) := by decide +kernel
theorem dX3_cutToLong_27 : decode cX3_cutToLong 27 = .ok (.invokevirtual 51, 3) := by decide +kernel
theorem dX3_cutToLong_30 : decode cX3_cutToLong 30 = .ok (.ifCond .eq 9, 3) := by decide +kernel
theorem dX3_cutToLong_33 : decode cX3_cutToLong 33 = .ok (.ldc2_w 74, 3) := by decide +kernel
theorem dX3_cutToLong_36 : decode cX3_cutToLong 36 = .ok (.goto 6, 3) := by decide +kernel
theorem dX3_cutToLong_39 : decode cX3_cutToLong 39 = .ok (.ldc2_w 76, 3) := by decide +kernel
theorem dX3_cutToLong_42 : decode cX3_cutToLong 42 = .ok (.lreturn, 1) := by decide +kernel
theorem dX3_cutToLong_43 : decode cX3_cutToLong 43 = .ok (.lconst 0, 1) := by decide +kernel
theorem dX3_cutToLong_44 : decode cX3_cutToLong 44 = .ok (.lstore 6, 2) := by decide +kernel
theorem dX3_cutToLong_46 : decode cX3_cutToLong 46 = .ok (.iload 5, 2) := by decide +kernel
theorem dX3_cutToLong_48 : decode cX3_cutToLong 48 = .ok (.ifCond .lt 12, 3) := by decide +kernel
theorem dX3_cutToLong_51 : decode cX3_cutToLong 51 = .ok (.lload_n 3, 1) := by decide +kernel
theorem dX3_cutToLong_52 : decode cX3_cutToLong 52 = .ok (.iload 5, 2) := by decide +kernel
theorem dX3_cutToLong_54 : decode cX3_cutToLong 54 = .ok (.lshl, 1) := by decide +kernel
theorem dX3_cutToLong_55 : decode cX3_cutToLong 55 = .ok (.lstore 6, 2) := by decide +kernel
theorem dX3_cutToLong_57 : decode cX3_cutToLong 57 = .ok (.goto 17, 3) := by decide +kernel
theorem dX3_cutToLong_60 : decode cX3_cutToLong 60 = .ok (.iload 5, 2) := by decide +kernel
theorem dX3_cutToLong_62 : decode cX3_cutToLong 62 = .ok (.bipush (-64), 2) := by decide +kernel
theorem dX3_cutToLong_64 : decode cX3_cutToLong 64 = .ok (.if_icmp .le 10, 3) := by decide +kernel
theorem dX3_cutToLong_67 : decode cX3_cutToLong 67 = .ok (.lload_n 3, 1) := by decide +kernel
theorem dX3_cutToLong_68 : decode cX3_cutToLong 68 = .ok (.iload 5, 2) := by decide +kernel
theorem dX3_cutToLong_70 : decode cX3_cutToLong 70 = .ok (.ineg, 1) := by decide +kernel
theorem dX3_cutToLong_71 : decode cX3_cutToLong 71 = .ok (.lushr, 1) := by decide +kernel
theorem dX3_cutToLong_72 : decode cX3_cutToLong 72 = .ok (.lstore 6, 2) := by decide +kernel
theorem dX3_cutToLong_74 : decode cX3_cutToLong 74 = .ok (.aload_n 0, 1) := by decide +kernel
theorem dX3_cutToLong_75 : decode cX3_cutToLong 75 = .ok (.lload_n 1, 1) := by decide +kernel
theorem dX3_cutToLong_76 : decode cX3_cutToLong 76 = .ok (.invokevirtual 51, 3) := by decide +kernel
theorem dX3_cutToLong_79 : decode cX3_cutToLong 79 = .ok (.ifCond .eq 9, 3) := by decide +kernel
theorem dX3_cutToLong_82 : decode cX3_cutToLong 82 = .ok (.lload 6, 2) := by decide +kernel
theorem dX3_cutToLong_84 : decode cX3_cutToLong 84 = .ok (.lneg, 1) := by decide +kernel
theorem dX3_cutToLong_85 : decode cX3_cutToLong 85 = .ok (.goto 5, 3) := by decide +kernel
theorem dX3_cutToLong_88 : decode cX3_cutToLong 88 = .ok (.lload 6, 2) := by decide +kernel
theorem dX3_cutToLong_90 : decode cX3_cutToLong 90 = .ok (.lreturn, 1) := by decide +kernel
set_option maxRecDepth 20000 in
theorem ggX3_cutToInt_X3_cutToLong : GoodIn wsX3_cutToInt wsX3_cutToLong := goodIn_r _ [14, 15, 16, 17, 18, 19, 13, 20, 21, 22, 23, 24, 25, 26, 27, 28, 29, 30, 31, 32, 33, 5, 34, 35, 36, 37, 38, 39, 40, 41] (by decide +kernel) (by decide +kernel)
set_option maxRecDepth 20000 in
theorem gX3_cutToInt_X3_cutToLong : GoodIn wsX3_cutToInt (wsV RX3 84 RX3 yX3_cutToLong wsX3_cutToLong) := goodIn_app (goodIn_of _ (by decide +kernel)) ggX3_cutToInt_X3_cutToLong
theorem dX3_cutToInt_0 : decode cX3_cutToInt 0 = .ok (.ldc2_w 80, 3) := by decide +kernel
theorem dX3_cutToInt_3 : decode cX3_cutToInt 3 = .ok (.ldc2_w 82, 3) := by decide +kernel
theorem dX3_cutToInt_6 : decode cX3_cutToInt 6 = .ok (.aload_n 0, 1) := by decide +kernel
theorem dX3_cutToInt_7 : decode cX3_cutToInt 7 = .ok (.lload_n 1, 1) := by decide +kernel
theorem dX3_cutToInt_8 : decode cX3_cutToInt 8 = .ok (.invokevirtual 84, 3) := by decide +kernel
theorem dX3_cutToInt_11 : decode cX3_cutToInt 11 = .ok (.invokestatic 87, 3) := by decide +kernel
theorem dX3_cutToInt_14 : decode cX3_cutToInt 14 = .ok (.invokestatic 93, 3) := by decide +kernel
theorem dX3_cutToInt_17 : decode cX3_cutToInt 17 = .ok (.l2i, 1) := by decide +kernel
theorem dX3_cutToInt_18 : decode cX3_cutToInt 18 = .ok (.ireturn, 1) := by decide +kernel
set_option maxRecDepth 20000 in
theorem ggX3_negated_X3_isNegative : GoodIn wsX3_negated wsX3_isNegative := goodIn_r _ [5, 6] (by decide +kernel) (by decide +kernel)
set_option maxRecDepth 20000 in
theorem gX3_negated_X3_isNegative : GoodIn wsX3_negated (wsV RX3 51 RX3 yX3_isNegative wsX3_isNegative) := goodIn_app (goodIn_of _ (by decide +kernel)) ggX3_negated_X3_isNegative
set_option maxRecDepth 20000 in
theorem ggX3_negated_X3_size : GoodIn wsX3_negated wsX3_size := goodIn_r _ [10, 6] (by decide +kernel) (by decide +kernel)
set_option maxRecDepth 20000 in
theorem gX3_negated_X3_size : GoodIn wsX3_negated (wsV RX3 43 RX3 yX3_size wsX3_size) := goodIn_app (goodIn_of _ (by decide +kernel)) ggX3_negated_X3_size
set_option maxRecDepth 20000 in
theorem ggX3_negated_X3_signed : GoodIn wsX3_negated wsX3_signed := goodIn_r _ [14, 6] (by decide +kernel) (by decide +kernel)
set_option maxRecDepth 20000 in
theorem gX3_negated_X3_signed : GoodIn wsX3_negated (wsV RX3 54 RX3 yX3_signed wsX3_signed) := goodIn_app (goodIn_of _ (by decide +kernel)) ggX3_negated_X3_signed
theorem dX3_negated_0 : decode cX3_negated 0 = .ok (.aload_n 0, 1) := by decide +kernel
theorem dX3_negated_1 : decode cX3_negated 1 = .ok (.aload_n 0, 1) := by decide +kernel
theorem dX3_negated_2 : decode cX3_negated 2 = .ok (.lload_n 1, 1) := by decide +kernel
theorem dX3_negated_3 : decode cX3_negated 3 = .ok (.invokevirtual 51, 3) := by decide +kernel
theorem dX3_negated_6 : decode cX3_negated 6 = .ok (.ifCond .ne 7, 3) := by decide +kernel
theorem dX3_negated_9 : decode cX3_negated 9 = .ok (.iconst 1, 1) := by decide +kernel
theorem dX3_negated_10 : decode cX3_negated 10 = .ok (.goto 4, 3) := by decide +kernel
theorem dX3_negated_13 : decode cX3_negated 13 = .ok (.iconst 0, 1) := by decide +kernel
theorem dX3_negated_14 : decode cX3_negated 14 = .ok (.aload_n 0, 1) := by decide +kernel
theorem dX3_negated_15 : decode cX3_negated 15 = .ok (.lload_n 1, 1) := by decide +kernel
theorem dX3_negated_16 : decode cX3_negated 16 = .ok (.invokevirtual 43, 3) := by decide +kernel
theorem dX3_negated_19 : decode cX3_negated 19 = .ok (.invokevirtual 54, 3) := by decide +kernel
theorem dX3_negated_22 : decode cX3_negated 22 = .ok (.lreturn, 1) := by decide +kernel
set_option maxRecDepth 20000 in
theorem ggX3_added_X3_isEndless : GoodIn wsX3_added wsX3_isEndless := goodIn_r _ [5, 6, 7, 8, 9, 4, 10, 11] (by decide +kernel) (by decide +kernel)
set_option maxRecDepth 20000 in
theorem gX3_added_X3_isEndless : GoodIn wsX3_added (wsV RX3 47 RX3 yX3_isEndless wsX3_isEndless) := goodIn_app (goodIn_of _ (by decide +kernel)) ggX3_added_X3_isEndless
set_option maxRecDepth 20000 in
theorem ggX3_added_X3_size : GoodIn wsX3_added wsX3_size := goodIn_r _ [10, 11] (by decide +kernel) (by decide +kernel)
set_option maxRecDepth 20000 in
theorem gX3_added_X3_size : GoodIn wsX3_added (wsV RX3 43 RX3 yX3_size wsX3_size) := goodIn_app (goodIn_of _ (by decide +kernel)) ggX3_added_X3_size
set_option maxRecDepth 20000 in
theorem ggX3_added_X3_exponent : GoodIn wsX3_added wsX3_exponent := goodIn_r _ [15, 16, 17, 18, 19, 20, 21, 22, 23, 4, 24, 11, 25] (by decide +kernel) (by decide +kernel)
set_option maxRecDepth 20000 in
theorem gX3_added_X3_exponent : GoodIn wsX3_added (wsV RX3 65 RX3 yX3_exponent wsX3_exponent) := goodIn_app (goodIn_of _ (by decide +kernel)) ggX3_added_X3_exponent
set_option maxRecDepth 20000 in
theorem ggX3_added_X3_significand : GoodIn wsX3_added wsX3_significand := goodIn_r _ [29, 25, 21, 22, 23, 4, 24, 11] (by decide +kernel) (by decide +kernel)
set_option maxRecDepth 20000 in
theorem gX3_added_X3_significand : GoodIn wsX3_added (wsV RX3 62 RX3 yX3_significand wsX3_significand) := goodIn_app (goodIn_of _ (by decide +kernel)) ggX3_added_X3_significand
set_option maxRecDepth 20000 in
theorem ggX3_added_X3_shiftedWithTrace : GoodIn wsX3_added wsX3_shiftedWithTrace := goodIn_r _ [32] (by decide +kernel) (by decide +kernel)
set_option maxRecDepth 20000 in
theorem gX3_added_X3_shiftedWithTrace : GoodIn wsX3_added (va_wsS RX3 96 yX3_shiftedWithTrace wsX3_shiftedWithTrace) := goodIn_app (goodIn_of _ (by decide +kernel)) ggX3_added_X3_shiftedWithTrace
set_option maxRecDepth 20000 in
theorem ggX3_added_X3_isNegative : GoodIn wsX3_added wsX3_isNegative := goodIn_r _ [36, 11] (by decide +kernel) (by decide +kernel)
set_option maxRecDepth 20000 in
theorem gX3_added_X3_isNegative : GoodIn wsX3_added (wsV RX3 51 RX3 yX3_isNegative wsX3_isNegative) := goodIn_app (goodIn_of _ (by decide +kernel)) ggX3_added_X3_isNegative
set_option maxRecDepth 20000 in
theorem ggX3_added_X3_nearest : GoodIn wsX3_added wsX3_nearest := goodIn_r _ [40, 25, 16, 17, 18, 19, 20, 6, 41, 42, 43, 4, 44, 11, 45, 46, 47, 48, 49, 50] (by decide +kernel) (by decide +kernel)
set_option maxRecDepth 20000 in
theorem gX3_added_X3_nearest : GoodIn wsX3_added (wsV RX3 58 RX3 yX3_nearest wsX3_nearest) := goodIn_app (goodIn_of _ (by decide +kernel)) ggX3_added_X3_nearest
theorem dX3_added_0 : decode cX3_added 0 = .ok (.aload_n 0, 1) := by decide +kernel
theorem dX3_added_1 : decode cX3_added 1 = .ok (.lload_n 1, 1) := by decide +kernel
theorem dX3_added_2 : decode cX3_added 2 = .ok (.invokevirtual 47, 3) := by decide +kernel
theorem dX3_added_5 : decode cX3_added 5 = .ok (.ifCond .ne 11, 3) := by decide +kernel
theorem dX3_added_8 : decode cX3_added 8 = .ok (.aload_n 0, 1) := by decide +kernel
theorem dX3_added_9 : decode cX3_added 9 = .ok (.lload_n 3, 1) := by decide +kernel
theorem dX3_added_10 : decode cX3_added 10 = .ok (.invokevirtual 47, 3) := by decide +kernel
theorem dX3_added_13 : decode cX3_added 13 = .ok (.ifCond .eq 17, 3) := by decide +kernel
theorem dX3_added_16 : decode cX3_added 16 = .ok (.aload_n 0, 1) := by decide +kernel
theorem dX3_added_17 : decode cX3_added 17 = .ok (.lload_n 1, 1) := by decide +kernel
theorem dX3_added_18 : decode cX3_added 18 = .ok (.invokevirtual 47, 3) := by decide +kernel
theorem dX3_added_21 : decode cX3_added 21 = .ok (.ifCond .eq 7, 3) := by decide +kernel
theorem dX3_added_24 : decode cX3_added 24 = .ok (.lload_n 1, 1) := by decide +kernel
theorem dX3_added_25 : decode cX3_added 25 = .ok (.goto 4, 3) := by decide +kernel
theorem dX3_added_28 : decode cX3_added 28 = .ok (.lload_n 3, 1) := by decide +kernel
theorem dX3_added_29 : decode cX3_added 29 = .ok (.lreturn, 1) := by decide +kernel
theorem dX3_added_30 : decode cX3_added 30 = .ok (.aload_n 0, 1) := by decide +kernel
theorem dX3_added_31 : decode cX3_added 31 = .ok (.lload_n 1, 1) := by decide +kernel
theorem dX3_added_32 : decode cX3_added 32 = .ok (.invokevirtual 43, 3) := by decide +kernel
theorem dX3_added_35 : decode cX3_added 35 = .ok (.aload_n 0, 1) := by decide +kernel
theorem dX3_added_36 : decode cX3_added 36 = .ok (.lload_n 3, 1) := by decide +kernel
theorem dX3_added_37 : decode cX3_added 37 = .ok (.invokevirtual 43, 3) := by decide +kernel
theorem dX3_added_40 : decode cX3_added 40 = .ok (.lcmp, 1) := by decide +kernel
theorem dX3_added_41 : decode cX3_added 41 = .ok (.ifCond .lt 7, 3) := by decide +kernel
theorem dX3_added_44 : decode cX3_added 44 = .ok (.lload_n 1, 1) := by decide +kernel
theorem dX3_added_45 : decode cX3_added 45 = .ok (.goto 4, 3) := by decide +kernel
theorem dX3_added_48 : decode cX3_added 48 = .ok (.lload_n 3, 1) := by decide +kernel
theorem dX3_added_49 : decode cX3_added 49 = .ok (.lstore 5, 2) := by decide +kernel
theorem dX3_added_51 : decode cX3_added 51 = .ok (.aload_n 0, 1) := by decide +kernel
theorem dX3_added_52 : decode cX3_added 52 = .ok (.lload_n 1, 1) := by decide +kernel
theorem dX3_added_53 : decode cX3_added 53 = .ok (.invokevirtual 43, 3) := by decide +kernel
theorem dX3_added_56 : decode cX3_added 56 = .ok (.aload_n 0, 1) := by decide +kernel
theorem dX3_added_57 : decode cX3_added 57 = .ok (.lload_n 3, 1) := by decide +kernel
theorem dX3_added_58 : decode cX3_added 58 = .ok (.invokevirtual 43, 3) := by decide +kernel
theorem dX3_added_61 : decode cX3_added 61 = .ok (.lcmp, 1) := by decide +kernel
theorem dX3_added_62 : decode cX3_added 62 = .ok (.ifCond .lt 7, 3) := by decide +kernel
theorem dX3_added_65 : decode cX3_added 65 = .ok (.lload_n 3, 1) := by decide +kernel
theorem dX3_added_66 : decode cX3_added 66 = .ok (.goto 4, 3) := by decide +kernel
theorem dX3_added_69 : decode cX3_added 69 = .ok (.lload_n 1, 1) := by decide +kernel
theorem dX3_added_70 : decode cX3_added 70 = .ok (.lstore 7, 2) := by decide +kernel
theorem dX3_added_72 : decode cX3_added 72 = .ok (.aload_n 0, 1) := by decide +kernel
theorem dX3_added_73 : decode cX3_added 73 = .ok (.lload 5, 2) := by decide +kernel
theorem dX3_added_75 : decode cX3_added 75 = .ok (.invokevirtual 65, 3) := by decide +kernel
theorem dX3_added_78 : decode cX3_added 78 = .ok (.istore 9, 2) := by decide +kernel
theorem dX3_added_80 : decode cX3_added 80 = .ok (.aload_n 0, 1) := by decide +kernel
theorem dX3_added_81 : decode cX3_added 81 = .ok (.lload 5, 2) := by decide +kernel
theorem dX3_added_83 : decode cX3_added 83 = .ok (.invokevirtual 62, 3) := by decide +kernel
theorem dX3_added_86 : decode cX3_added 86 = .ok (.iconst 3, 1) := by decide +kernel
theorem dX3_added_87 : decode cX3_added 87 = .ok (.lshl, 1) := by decide +kernel
theorem dX3_added_88 : decode cX3_added 88 = .ok (.lstore 10, 2) := by decide +kernel
theorem dX3_added_90 : decode cX3_added 90 = .ok (.aload_n 0, 1) := by decide +kernel
theorem dX3_added_91 : decode cX3_added 91 = .ok (.lload 7, 2) := by decide +kernel
theorem dX3_added_93 : decode cX3_added 93 = .ok (.invokevirtual 62, 3) := by decide +kernel
theorem dX3_added_96 : decode cX3_added 96 = .ok (.iconst 3, 1) := by decide +kernel
theorem dX3_added_97 : decode cX3_added 97 = .ok (.lshl, 1) := by decide +kernel
theorem dX3_added_98 : decode cX3_added 98 = .ok (.iload 9, 2) := by decide +kernel
theorem dX3_added_100 : decode cX3_added 100 = .ok (.aload_n 0, 1) := by decide +kernel
theorem dX3_added_101 : decode cX3_added 101 = .ok (.lload 7, 2) := by decide +kernel
theorem dX3_added_103 : decode cX3_added 103 = .ok (.invokevirtual 65, 3) := by decide +kernel
theorem dX3_added_106 : decode cX3_added 106 = .ok (.isub, 1) := by decide +kernel
theorem dX3_added_107 : decode cX3_added 107 = .ok (.invokestatic 96, 3) := by decide +kernel
theorem dX3_added_110 : decode cX3_added 110 = .ok (.lstore 12, 2) := by decide +kernel
theorem dX3_added_112 : decode cX3_added 112 = .ok (.aload_n 0, 1) := by decide +kernel
theorem dX3_added_113 : decode cX3_added 113 = .ok (.lload 5, 2) := by decide +kernel
theorem dX3_added_115 : decode cX3_added 115 = .ok (.invokevirtual 51, 3) := by decide +kernel
theorem dX3_added_118 : decode cX3_added 118 = .ok (.aload_n 0, 1) := by decide +kernel
theorem dX3_added_119 : decode cX3_added 119 = .ok (.lload 7, 2) := by decide +kernel
theorem dX3_added_121 : decode cX3_added 121 = .ok (.invokevirtual 51, 3) := by decide +kernel
theorem dX3_added_124 : decode cX3_added 124 = .ok (.if_icmp .ne 23, 3) := by decide +kernel
theorem dX3_added_127 : decode cX3_added 127 = .ok (.aload_n 0, 1) := by decide +kernel
theorem dX3_added_128 : decode cX3_added 128 = .ok (.aload_n 0, 1) := by decide +kernel
theorem dX3_added_129 : decode cX3_added 129 = .ok (.lload 5, 2) := by decide +kernel
theorem dX3_added_131 : decode cX3_added 131 = .ok (.invokevirtual 51, 3) := by decide +kernel
theorem dX3_added_134 : decode cX3_added 134 = .ok (.lload 10, 2) := by decide +kernel
theorem dX3_added_136 : decode cX3_added 136 = .ok (.lload 12, 2) := by decide +kernel
theorem dX3_added_138 : decode cX3_added 138 = .ok (.ladd, 1) := by decide +kernel
theorem dX3_added_139 : decode cX3_added 139 = .ok (.iload 9, 2) := by decide +kernel
theorem dX3_added_141 : decode cX3_added 141 = .ok (.iconst 3, 1) := by decide +kernel
theorem dX3_added_142 : decode cX3_added 142 = .ok (.isub, 1) := by decide +kernel
theorem dX3_added_143 : decode cX3_added 143 = .ok (.invokevirtual 58, 3) := by decide +kernel
theorem dX3_added_146 : decode cX3_added 146 = .ok (.lreturn, 1) := by decide +kernel
theorem dX3_added_147 : decode cX3_added 147 = .ok (.aload_n 0, 1) := by decide +kernel
theorem dX3_added_148 : decode cX3_added 148 = .ok (.aload_n 0, 1) := by decide +kernel
theorem dX3_added_149 : decode cX3_added 149 = .ok (.lload 5, 2) := by decide +kernel
theorem dX3_added_151 : decode cX3_added 151 = .ok (.invokevirtual 51, 3) := by decide +kernel
theorem dX3_added_154 : decode cX3_added 154 = .ok (.ifCond .eq 15, 3) := by decide +kernel
theorem dX3_added_157 : decode cX3_added 157 = .ok (.lload 10, 2) := by decide +kernel
theorem dX3_added_159 : decode cX3_added 159 = .ok (.lload 12, 2) := by decide +kernel
theorem dX3_added_161 : decode cX3_added 161 = .ok (.lcmp, 1) := by decide +kernel
theorem dX3_added_162 : decode cX3_added 162 = .ok (.ifCond .eq 7, 3) := by decide +kernel
theorem dX3_added_165 : decode cX3_added 165 = .ok (.iconst 1, 1) := by decide +kernel
theorem dX3_added_166 : decode cX3_added 166 = .ok (.goto 4, 3) := by decide +kernel
theorem dX3_added_169 : decode cX3_added 169 = .ok (.iconst 0, 1) := by decide +kernel
theorem dX3_added_170 : decode cX3_added 170 = .ok (.lload 10, 2) := by decide +kernel
theorem dX3_added_172 : decode cX3_added 172 = .ok (.lload 12, 2) := by decide +kernel
theorem dX3_added_174 : decode cX3_added 174 = .ok (.lsub, 1) := by decide +kernel
theorem dX3_added_175 : decode cX3_added 175 = .ok (.iload 9, 2) := by decide +kernel
theorem dX3_added_177 : decode cX3_added 177 = .ok (.iconst 3, 1) := by decide +kernel
theorem dX3_added_178 : decode cX3_added 178 = .ok (.isub, 1) := by decide +kernel
theorem dX3_added_179 : decode cX3_added 179 = .ok (.invokevirtual 58, 3) := by decide +kernel
theorem dX3_added_182 : decode cX3_added 182 = .ok (.lreturn, 1) := by decide +kernel
set_option maxRecDepth 20000 in
theorem ggX3_remainder_X3_significand : GoodIn wsX3_remainder wsX3_significand := goodIn_r _ [9, 10, 11, 12, 13, 8, 14, 15] (by decide +kernel) (by decide +kernel)
set_option maxRecDepth 20000 in
theorem gX3_remainder_X3_significand : GoodIn wsX3_remainder (wsV RX3 62 RX3 yX3_significand wsX3_significand) := goodIn_app (goodIn_of _ (by decide +kernel)) ggX3_remainder_X3_significand
set_option maxRecDepth 20000 in
theorem ggX3_remainder_X3_size : GoodIn wsX3_remainder wsX3_size := goodIn_r _ [19, 15] (by decide +kernel) (by decide +kernel)
set_option maxRecDepth 20000 in
theorem gX3_remainder_X3_size : GoodIn wsX3_remainder (wsV RX3 43 RX3 yX3_size wsX3_size) := goodIn_app (goodIn_of _ (by decide +kernel)) ggX3_remainder_X3_size
set_option maxRecDepth 20000 in
theorem ggX3_remainder_X3_exponent : GoodIn wsX3_remainder wsX3_exponent := goodIn_r _ [23, 24, 25, 26, 3, 27, 11, 12, 13, 8, 14, 15, 10] (by decide +kernel) (by decide +kernel)
set_option maxRecDepth 20000 in
theorem gX3_remainder_X3_exponent : GoodIn wsX3_remainder (wsV RX3 65 RX3 yX3_exponent wsX3_exponent) := goodIn_app (goodIn_of _ (by decide +kernel)) ggX3_remainder_X3_exponent
set_option maxRecDepth 20000 in
theorem ggX3_remainder_X3_isNegative : GoodIn wsX3_remainder wsX3_isNegative := goodIn_r _ [31, 15] (by decide +kernel) (by decide +kernel)
set_option maxRecDepth 20000 in
theorem gX3_remainder_X3_isNegative : GoodIn wsX3_remainder (wsV RX3 51 RX3 yX3_isNegative wsX3_isNegative) := goodIn_app (goodIn_of _ (by decide +kernel)) ggX3_remainder_X3_isNegative
set_option maxRecDepth 20000 in
theorem ggX3_remainder_X3_nearest : GoodIn wsX3_remainder wsX3_nearest := goodIn_r _ [35, 10, 24, 25, 26, 3, 27, 36, 37, 38, 39, 8, 40, 15, 41, 42, 43, 44, 45, 46] (by decide +kernel) (by decide +kernel)
set_option maxRecDepth 20000 in
theorem gX3_remainder_X3_nearest : GoodIn wsX3_remainder (wsV RX3 58 RX3 yX3_nearest wsX3_nearest) := goodIn_app (goodIn_of _ (by decide +kernel)) ggX3_remainder_X3_nearest
theorem dX3_remainder_0 : decode cX3_remainder 0 = .ok (.aload_n 0, 1) := by decide +kernel
theorem dX3_remainder_1 : decode cX3_remainder 1 = .ok (.lload_n 3, 1) := by decide +kernel
theorem dX3_remainder_2 : decode cX3_remainder 2 = .ok (.invokevirtual 62, 3) := by decide +kernel
theorem dX3_remainder_5 : decode cX3_remainder 5 = .ok (.lstore 5, 2) := by decide +kernel
theorem dX3_remainder_7 : decode cX3_remainder 7 = .ok (.lload 5, 2) := by decide +kernel
theorem dX3_remainder_9 : decode cX3_remainder 9 = .ok (.lconst 0, 1) := by decide +kernel
theorem dX3_remainder_10 : decode cX3_remainder 10 = .ok (.lcmp, 1) := by decide +kernel
theorem dX3_remainder_11 : decode cX3_remainder 11 = .ok (.ifCond .eq 17, 3) := by decide +kernel
theorem dX3_remainder_14 : decode cX3_remainder 14 = .ok (.aload_n 0, 1) := by decide +kernel
theorem dX3_remainder_15 : decode cX3_remainder 15 = .ok (.lload_n 1, 1) := by decide +kernel
theorem dX3_remainder_16 : decode cX3_remainder 16 = .ok (.invokevirtual 43, 3) := by decide +kernel
theorem dX3_remainder_19 : decode cX3_remainder 19 = .ok (.aload_n 0, 1) := by decide +kernel
theorem dX3_remainder_20 : decode cX3_remainder 20 = .ok (.lload_n 3, 1) := by decide +kernel
theorem dX3_remainder_21 : decode cX3_remainder 21 = .ok (.invokevirtual 43, 3) := by decide +kernel
theorem dX3_remainder_24 : decode cX3_remainder 24 = .ok (.lcmp, 1) := by decide +kernel
theorem dX3_remainder_25 : decode cX3_remainder 25 = .ok (.ifCond .ge 5, 3) := by decide +kernel
theorem dX3_remainder_28 : decode cX3_remainder 28 = .ok (.lload_n 1, 1) := by decide +kernel
theorem dX3_remainder_29 : decode cX3_remainder 29 = .ok (.lreturn, 1) := by decide +kernel
theorem dX3_remainder_30 : decode cX3_remainder 30 = .ok (.aload_n 0, 1) := by decide +kernel
theorem dX3_remainder_31 : decode cX3_remainder 31 = .ok (.lload_n 1, 1) := by decide +kernel
theorem dX3_remainder_32 : decode cX3_remainder 32 = .ok (.invokevirtual 62, 3) := by decide +kernel
theorem dX3_remainder_35 : decode cX3_remainder 35 = .ok (.lload 5, 2) := by decide +kernel
theorem dX3_remainder_37 : decode cX3_remainder 37 = .ok (.lrem, 1) := by decide +kernel
theorem dX3_remainder_38 : decode cX3_remainder 38 = .ok (.lstore 7, 2) := by decide +kernel
theorem dX3_remainder_40 : decode cX3_remainder 40 = .ok (.aload_n 0, 1) := by decide +kernel
theorem dX3_remainder_41 : decode cX3_remainder 41 = .ok (.lload_n 1, 1) := by decide +kernel
theorem dX3_remainder_42 : decode cX3_remainder 42 = .ok (.invokevirtual 65, 3) := by decide +kernel
theorem dX3_remainder_45 : decode cX3_remainder 45 = .ok (.aload_n 0, 1) := by decide +kernel
theorem dX3_remainder_46 : decode cX3_remainder 46 = .ok (.lload_n 3, 1) := by decide +kernel
theorem dX3_remainder_47 : decode cX3_remainder 47 = .ok (.invokevirtual 65, 3) := by decide +kernel
theorem dX3_remainder_50 : decode cX3_remainder 50 = .ok (.isub, 1) := by decide +kernel
theorem dX3_remainder_51 : decode cX3_remainder 51 = .ok (.istore 9, 2) := by decide +kernel
theorem dX3_remainder_53 : decode cX3_remainder 53 = .ok (.iload 9, 2) := by decide +kernel
theorem dX3_remainder_55 : decode cX3_remainder 55 = .ok (.ifCond .le 24, 3) := by decide +kernel
theorem dX3_remainder_58 : decode cX3_remainder 58 = .ok (.lload 7, 2) := by decide +kernel
theorem dX3_remainder_60 : decode cX3_remainder 60 = .ok (.iload 9, 2) := by decide +kernel
theorem dX3_remainder_62 : decode cX3_remainder 62 = .ok (.bipush 10, 2) := by decide +kernel
theorem dX3_remainder_64 : decode cX3_remainder 64 = .ok (.invokestatic 100, 3) := by decide +kernel
theorem dX3_remainder_67 : decode cX3_remainder 67 = .ok (.lshl, 1) := by decide +kernel
theorem dX3_remainder_68 : decode cX3_remainder 68 = .ok (.lload 5, 2) := by decide +kernel
theorem dX3_remainder_70 : decode cX3_remainder 70 = .ok (.lrem, 1) := by decide +kernel
theorem dX3_remainder_71 : decode cX3_remainder 71 = .ok (.lstore 7, 2) := by decide +kernel
theorem dX3_remainder_73 : decode cX3_remainder 73 = .ok (.iinc 9 (-10), 3) := by decide +kernel
theorem dX3_remainder_76 : decode cX3_remainder 76 = .ok (.goto (-23), 3) := by decide +kernel
theorem dX3_remainder_79 : decode cX3_remainder 79 = .ok (.aload_n 0, 1) := by decide +kernel
theorem dX3_remainder_80 : decode cX3_remainder 80 = .ok (.aload_n 0, 1) := by decide +kernel
theorem dX3_remainder_81 : decode cX3_remainder 81 = .ok (.lload_n 1, 1) := by decide +kernel
theorem dX3_remainder_82 : decode cX3_remainder 82 = .ok (.invokevirtual 51, 3) := by decide +kernel
theorem dX3_remainder_85 : decode cX3_remainder 85 = .ok (.lload 7, 2) := by decide +kernel
theorem dX3_remainder_87 : decode cX3_remainder 87 = .ok (.aload_n 0, 1) := by decide +kernel
theorem dX3_remainder_88 : decode cX3_remainder 88 = .ok (.lload_n 3, 1) := by decide +kernel
theorem dX3_remainder_89 : decode cX3_remainder 89 = .ok (.invokevirtual 65, 3) := by decide +kernel
theorem dX3_remainder_92 : decode cX3_remainder 92 = .ok (.invokevirtual 58, 3) := by decide +kernel
theorem dX3_remainder_95 : decode cX3_remainder 95 = .ok (.lreturn, 1) := by decide +kernel
theorem dX3_signed_0 : decode cX3_signed 0 = .ok (.iload_n 1, 1) := by decide +kernel
theorem dX3_signed_1 : decode cX3_signed 1 = .ok (.ifCond .eq 13, 3) := by decide +kernel
theorem dX3_signed_4 : decode cX3_signed 4 = .ok (.lload_n 2, 1) := by decide +kernel
theorem dX3_signed_5 : decode cX3_signed 5 = .ok (.aload_n 0, 1) := by decide +kernel
theorem dX3_signed_6 : decode cX3_signed 6 = .ok (.getfield 36, 3) := by decide +kernel
theorem dX3_signed_9 : decode cX3_signed 9 = .ok (.lneg, 1) := by decide +kernel
theorem dX3_signed_10 : decode cX3_signed 10 = .ok (.lor, 1) := by decide +kernel
theorem dX3_signed_11 : decode cX3_signed 11 = .ok (.goto 4, 3) := by decide +kernel
theorem dX3_signed_14 : decode cX3_signed 14 = .ok (.lload_n 2, 1) := by decide +kernel
theorem dX3_signed_15 : decode cX3_signed 15 = .ok (.lreturn, 1) := by decide +kernel
theorem dX3_exponentField_0 : decode cX3_exponentField 0 = .ok (.lload_n 1, 1) := by decide +kernel
theorem dX3_exponentField_1 : decode cX3_exponentField 1 = .ok (.aload_n 0, 1) := by decide +kernel
theorem dX3_exponentField_2 : decode cX3_exponentField 2 = .ok (.getfield 36, 3) := by decide +kernel
theorem dX3_exponentField_5 : decode cX3_exponentField 5 = .ok (.lconst 1, 1) := by decide +kernel
theorem dX3_exponentField_6 : decode cX3_exponentField 6 = .ok (.lsub, 1) := by decide +kernel
theorem dX3_exponentField_7 : decode cX3_exponentField 7 = .ok (.land, 1) := by decide +kernel
theorem dX3_exponentField_8 : decode cX3_exponentField 8 = .ok (.aload_n 0, 1) := by decide +kernel
theorem dX3_exponentField_9 : decode cX3_exponentField 9 = .ok (.getfield 29, 3) := by decide +kernel
theorem dX3_exponentField_12 : decode cX3_exponentField 12 = .ok (.lushr, 1) := by decide +kernel
theorem dX3_exponentField_13 : decode cX3_exponentField 13 = .ok (.l2i, 1) := by decide +kernel
theorem dX3_exponentField_14 : decode cX3_exponentField 14 = .ok (.ireturn, 1) := by decide +kernel
set_option maxRecDepth 20000 in
theorem ggX3_exponent_X3_exponentField : GoodIn wsX3_exponent wsX3_exponentField := goodIn_r _ [10, 11, 12] (by decide +kernel) (by decide +kernel)
set_option maxRecDepth 20000 in
theorem gX3_exponent_X3_exponentField : GoodIn wsX3_exponent (wsV RX3 103 RX3 yX3_exponentField wsX3_exponentField) := goodIn_app (goodIn_of _ (by decide +kernel)) ggX3_exponent_X3_exponentField
theorem dX3_exponent_0 : decode cX3_exponent 0 = .ok (.aload_n 0, 1) := by decide +kernel
theorem dX3_exponent_1 : decode cX3_exponent 1 = .ok (.getfield 33, 3) := by decide +kernel
theorem dX3_exponent_4 : decode cX3_exponent 4 = .ok (.aload_n 0, 1) := by decide +kernel
theorem dX3_exponent_5 : decode cX3_exponent 5 = .ok (.lload_n 1, 1) := by decide +kernel
theorem dX3_exponent_6 : decode cX3_exponent 6 = .ok (.invokevirtual 103, 3) := by decide +kernel
theorem dX3_exponent_9 : decode cX3_exponent 9 = .ok (.iconst 1, 1) := by decide +kernel
theorem dX3_exponent_10 : decode cX3_exponent 10 = .ok (.isub, 1) := by decide +kernel
theorem dX3_exponent_11 : decode cX3_exponent 11 = .ok (.iconst 0, 1) := by decide +kernel
theorem dX3_exponent_12 : decode cX3_exponent 12 = .ok (.invokestatic 106, 3) := by decide +kernel
theorem dX3_exponent_15 : decode cX3_exponent 15 = .ok (.iadd, 1) := by decide +kernel
theorem dX3_exponent_16 : decode cX3_exponent 16 = .ok (.ireturn, 1) := by decide +kernel
set_option maxRecDepth 20000 in
theorem ggX3_significand_X3_exponentField : GoodIn wsX3_significand wsX3_exponentField := goodIn_r _ [6, 7, 1] (by decide +kernel) (by decide +kernel)
set_option maxRecDepth 20000 in
theorem gX3_significand_X3_exponentField : GoodIn wsX3_significand (wsV RX3 103 RX3 yX3_exponentField wsX3_exponentField) := goodIn_app (goodIn_of _ (by decide +kernel)) ggX3_significand_X3_exponentField
theorem dX3_significand_0 : decode cX3_significand 0 = .ok (.lconst 1, 1) := by decide +kernel
theorem dX3_significand_1 : decode cX3_significand 1 = .ok (.aload_n 0, 1) := by decide +kernel
theorem dX3_significand_2 : decode cX3_significand 2 = .ok (.getfield 29, 3) := by decide +kernel
theorem dX3_significand_5 : decode cX3_significand 5 = .ok (.lshl, 1) := by decide +kernel
theorem dX3_significand_6 : decode cX3_significand 6 = .ok (.lstore_n 3, 1) := by decide +kernel
theorem dX3_significand_7 : decode cX3_significand 7 = .ok (.lload_n 1, 1) := by decide +kernel
theorem dX3_significand_8 : decode cX3_significand 8 = .ok (.lload_n 3, 1) := by decide +kernel
theorem dX3_significand_9 : decode cX3_significand 9 = .ok (.lconst 1, 1) := by decide +kernel
theorem dX3_significand_10 : decode cX3_significand 10 = .ok (.lsub, 1) := by decide +kernel
theorem dX3_significand_11 : decode cX3_significand 11 = .ok (.land, 1) := by decide +kernel
theorem dX3_significand_12 : decode cX3_significand 12 = .ok (.lstore 5, 2) := by decide +kernel
theorem dX3_significand_14 : decode cX3_significand 14 = .ok (.aload_n 0, 1) := by decide +kernel
theorem dX3_significand_15 : decode cX3_significand 15 = .ok (.lload_n 1, 1) := by decide +kernel
theorem dX3_significand_16 : decode cX3_significand 16 = .ok (.invokevirtual 103, 3) := by decide +kernel
theorem dX3_significand_19 : decode cX3_significand 19 = .ok (.ifCond .ne 8, 3) := by decide +kernel
theorem dX3_significand_22 : decode cX3_significand 22 = .ok (.lload 5, 2) := by decide +kernel
theorem dX3_significand_24 : decode cX3_significand 24 = .ok (.goto 7, 3) := by decide +kernel
theorem dX3_significand_27 : decode cX3_significand 27 = .ok (.lload 5, 2) := by decide +kernel
theorem dX3_significand_29 : decode cX3_significand 29 = .ok (.lload_n 3, 1) := by decide +kernel
theorem dX3_significand_30 : decode cX3_significand 30 = .ok (.lor, 1) := by decide +kernel
theorem dX3_significand_31 : decode cX3_significand 31 = .ok (.lreturn, 1) := by decide +kernel
set_option maxRecDepth 20000 in
theorem ggX3_nearest_X3_signed : GoodIn wsX3_nearest wsX3_signed := goodIn_r _ [12, 13] (by decide +kernel) (by decide +kernel)
set_option maxRecDepth 20000 in
theorem gX3_nearest_X3_signed : GoodIn wsX3_nearest (wsV RX3 54 RX3 yX3_signed wsX3_signed) := goodIn_app (goodIn_of _ (by decide +kernel)) ggX3_nearest_X3_signed
set_option maxRecDepth 20000 in
theorem ggX3_nearest_X3_bitLength : GoodIn wsX3_nearest wsX3_bitLength := goodIn_r _ [16] (by decide +kernel) (by decide +kernel)
set_option maxRecDepth 20000 in
theorem gX3_nearest_X3_bitLength : GoodIn wsX3_nearest (va_wsS RX3 69 yX3_bitLength wsX3_bitLength) := goodIn_app (goodIn_of _ (by decide +kernel)) ggX3_nearest_X3_bitLength
set_option maxRecDepth 20000 in
theorem ggX3_nearest_X3_withoutLowest : GoodIn wsX3_nearest wsX3_withoutLowest := goodIn_r _ [19] (by decide +kernel) (by decide +kernel)
set_option maxRecDepth 20000 in
theorem gX3_nearest_X3_withoutLowest : GoodIn wsX3_nearest (va_wsS RX3 108 yX3_withoutLowest wsX3_withoutLowest) := goodIn_app (goodIn_of _ (by decide +kernel)) ggX3_nearest_X3_withoutLowest
theorem dX3_nearest_0 : decode cX3_nearest 0 = .ok (.lload_n 2, 1) := by decide +kernel
theorem dX3_nearest_1 : decode cX3_nearest 1 = .ok (.lconst 0, 1) := by decide +kernel
theorem dX3_nearest_2 : decode cX3_nearest 2 = .ok (.lcmp, 1) := by decide +kernel
theorem dX3_nearest_3 : decode cX3_nearest 3 = .ok (.ifCond .ne 10, 3) := by decide +kernel
theorem dX3_nearest_6 : decode cX3_nearest 6 = .ok (.aload_n 0, 1) := by decide +kernel
theorem dX3_nearest_7 : decode cX3_nearest 7 = .ok (.iload_n 1, 1) := by decide +kernel
theorem dX3_nearest_8 : decode cX3_nearest 8 = .ok (.lconst 0, 1) := by decide +kernel
theorem dX3_nearest_9 : decode cX3_nearest 9 = .ok (.invokevirtual 54, 3) := by decide +kernel
theorem dX3_nearest_12 : decode cX3_nearest 12 = .ok (.lreturn, 1) := by decide +kernel
theorem dX3_nearest_13 : decode cX3_nearest 13 = .ok (.lload_n 2, 1) := by decide +kernel
theorem dX3_nearest_14 : decode cX3_nearest 14 = .ok (.invokestatic 69, 3) := by decide +kernel
theorem dX3_nearest_17 : decode cX3_nearest 17 = .ok (.aload_n 0, 1) := by decide +kernel
theorem dX3_nearest_18 : decode cX3_nearest 18 = .ok (.getfield 29, 3) := by decide +kernel
theorem dX3_nearest_21 : decode cX3_nearest 21 = .ok (.isub, 1) := by decide +kernel
theorem dX3_nearest_22 : decode cX3_nearest 22 = .ok (.iconst 1, 1) := by decide +kernel
theorem dX3_nearest_23 : decode cX3_nearest 23 = .ok (.isub, 1) := by decide +kernel
theorem dX3_nearest_24 : decode cX3_nearest 24 = .ok (.aload_n 0, 1) := by decide +kernel
theorem dX3_nearest_25 : decode cX3_nearest 25 = .ok (.getfield 33, 3) := by decide +kernel
theorem dX3_nearest_28 : decode cX3_nearest 28 = .ok (.iload 4, 2) := by decide +kernel
theorem dX3_nearest_30 : decode cX3_nearest 30 = .ok (.isub, 1) := by decide +kernel
theorem dX3_nearest_31 : decode cX3_nearest 31 = .ok (.invokestatic 106, 3) := by decide +kernel
theorem dX3_nearest_34 : decode cX3_nearest 34 = .ok (.istore 5, 2) := by decide +kernel
theorem dX3_nearest_36 : decode cX3_nearest 36 = .ok (.iload 5, 2) := by decide +kernel
theorem dX3_nearest_38 : decode cX3_nearest 38 = .ok (.ifCond .le 12, 3) := by decide +kernel
theorem dX3_nearest_41 : decode cX3_nearest 41 = .ok (.lload_n 2, 1) := by decide +kernel
theorem dX3_nearest_42 : decode cX3_nearest 42 = .ok (.iload 5, 2) := by decide +kernel
theorem dX3_nearest_44 : decode cX3_nearest 44 = .ok (.invokestatic 108, 3) := by decide +kernel
theorem dX3_nearest_47 : decode cX3_nearest 47 = .ok (.goto 8, 3) := by decide +kernel
theorem dX3_nearest_50 : decode cX3_nearest 50 = .ok (.lload_n 2, 1) := by decide +kernel
theorem dX3_nearest_51 : decode cX3_nearest 51 = .ok (.iload 5, 2) := by decide +kernel
theorem dX3_nearest_53 : decode cX3_nearest 53 = .ok (.ineg, 1) := by decide +kernel
theorem dX3_nearest_54 : decode cX3_nearest 54 = .ok (.lshl, 1) := by decide +kernel
theorem dX3_nearest_55 : decode cX3_nearest 55 = .ok (.lstore 6, 2) := by decide +kernel
theorem dX3_nearest_57 : decode cX3_nearest 57 = .ok (.iload 4, 2) := by decide +kernel
theorem dX3_nearest_59 : decode cX3_nearest 59 = .ok (.i2l, 1) := by decide +kernel
theorem dX3_nearest_60 : decode cX3_nearest 60 = .ok (.iload 5, 2) := by decide +kernel
theorem dX3_nearest_62 : decode cX3_nearest 62 = .ok (.i2l, 1) := by decide +kernel
theorem dX3_nearest_63 : decode cX3_nearest 63 = .ok (.ladd, 1) := by decide +kernel
theorem dX3_nearest_64 : decode cX3_nearest 64 = .ok (.aload_n 0, 1) := by decide +kernel
theorem dX3_nearest_65 : decode cX3_nearest 65 = .ok (.getfield 33, 3) := by decide +kernel
theorem dX3_nearest_68 : decode cX3_nearest 68 = .ok (.i2l, 1) := by decide +kernel
theorem dX3_nearest_69 : decode cX3_nearest 69 = .ok (.lsub, 1) := by decide +kernel
theorem dX3_nearest_70 : decode cX3_nearest 70 = .ok (.lstore 8, 2) := by decide +kernel
theorem dX3_nearest_72 : decode cX3_nearest 72 = .ok (.lload 8, 2) := by decide +kernel
theorem dX3_nearest_74 : decode cX3_nearest 74 = .ok (.lconst 1, 1) := by decide +kernel
theorem dX3_nearest_75 : decode cX3_nearest 75 = .ok (.ladd, 1) := by decide +kernel
theorem dX3_nearest_76 : decode cX3_nearest 76 = .ok (.aload_n 0, 1) := by decide +kernel
theorem dX3_nearest_77 : decode cX3_nearest 77 = .ok (.getfield 40, 3) := by decide +kernel
theorem dX3_nearest_80 : decode cX3_nearest 80 = .ok (.aload_n 0, 1) := by decide +kernel
theorem dX3_nearest_81 : decode cX3_nearest 81 = .ok (.getfield 29, 3) := by decide +kernel
theorem dX3_nearest_84 : decode cX3_nearest 84 = .ok (.lushr, 1) := by decide +kernel
theorem dX3_nearest_85 : decode cX3_nearest 85 = .ok (.lcmp, 1) := by decide +kernel
theorem dX3_nearest_86 : decode cX3_nearest 86 = .ok (.ifCond .lt 13, 3) := by decide +kernel
theorem dX3_nearest_89 : decode cX3_nearest 89 = .ok (.aload_n 0, 1) := by decide +kernel
theorem dX3_nearest_90 : decode cX3_nearest 90 = .ok (.iload_n 1, 1) := by decide +kernel
theorem dX3_nearest_91 : decode cX3_nearest 91 = .ok (.aload_n 0, 1) := by decide +kernel
theorem dX3_nearest_92 : decode cX3_nearest 92 = .ok (.getfield 40, 3) := by decide +kernel
theorem dX3_nearest_95 : decode cX3_nearest 95 = .ok (.invokevirtual 54, 3) := by decide +kernel
theorem dX3_nearest_98 : decode cX3_nearest 98 = .ok (.lreturn, 1) := by decide +kernel
theorem dX3_nearest_99 : decode cX3_nearest 99 = .ok (.aload_n 0, 1) := by decide +kernel
theorem dX3_nearest_100 : decode cX3_nearest 100 = .ok (.iload_n 1, 1) := by decide +kernel
theorem dX3_nearest_101 : decode cX3_nearest 101 = .ok (.lload 8, 2) := by decide +kernel
theorem dX3_nearest_103 : decode cX3_nearest 103 = .ok (.aload_n 0, 1) := by decide +kernel
theorem dX3_nearest_104 : decode cX3_nearest 104 = .ok (.getfield 29, 3) := by decide +kernel
theorem dX3_nearest_107 : decode cX3_nearest 107 = .ok (.lshl, 1) := by decide +kernel
theorem dX3_nearest_108 : decode cX3_nearest 108 = .ok (.lload 6, 2) := by decide +kernel
theorem dX3_nearest_110 : decode cX3_nearest 110 = .ok (.ladd, 1) := by decide +kernel
theorem dX3_nearest_111 : decode cX3_nearest 111 = .ok (.invokevirtual 54, 3) := by decide +kernel
theorem dX3_nearest_114 : decode cX3_nearest 114 = .ok (.lreturn, 1) := by decide +kernel
theorem dX3_withoutLowest_0 : decode cX3_withoutLowest 0 = .ok (.iload_n 2, 1) := by decide +kernel
theorem dX3_withoutLowest_1 : decode cX3_withoutLowest 1 = .ok (.bipush 63, 2) := by decide +kernel
theorem dX3_withoutLowest_3 : decode cX3_withoutLowest 3 = .ok (.if_icmp .le 5, 3) := by decide +kernel
theorem dX3_withoutLowest_6 : decode cX3_withoutLowest 6 = .ok (.lconst 0, 1) := by decide +kernel
theorem dX3_withoutLowest_7 : decode cX3_withoutLowest 7 = .ok (.lreturn, 1) := by decide +kernel
theorem dX3_withoutLowest_8 : decode cX3_withoutLowest 8 = .ok (.lload_n 0, 1) := by decide +kernel
theorem dX3_withoutLowest_9 : decode cX3_withoutLowest 9 = .ok (.iload_n 2, 1) := by decide +kernel
theorem dX3_withoutLowest_10 : decode cX3_withoutLowest 10 = .ok (.lushr, 1) := by decide +kernel
theorem dX3_withoutLowest_11 : decode cX3_withoutLowest 11 = .ok (.lstore_n 3, 1) := by decide +kernel
theorem dX3_withoutLowest_12 : decode cX3_withoutLowest 12 = .ok (.lload_n 0, 1) := by decide +kernel
theorem dX3_withoutLowest_13 : decode cX3_withoutLowest 13 = .ok (.lload_n 3, 1) := by decide +kernel
theorem dX3_withoutLowest_14 : decode cX3_withoutLowest 14 = .ok (.iload_n 2, 1) := by decide +kernel
theorem dX3_withoutLowest_15 : decode cX3_withoutLowest 15 = .ok (.lshl, 1) := by decide +kernel
theorem dX3_withoutLowest_16 : decode cX3_withoutLowest 16 = .ok (.lsub, 1) := by decide +kernel
theorem dX3_withoutLowest_17 : decode cX3_withoutLowest 17 = .ok (.lstore 5, 2) := by decide +kernel
theorem dX3_withoutLowest_19 : decode cX3_withoutLowest 19 = .ok (.lconst 1, 1) := by decide +kernel
theorem dX3_withoutLowest_20 : decode cX3_withoutLowest 20 = .ok (.iload_n 2, 1) := by decide +kernel
theorem dX3_withoutLowest_21 : decode cX3_withoutLowest 21 = .ok (.iconst 1, 1) := by decide +kernel
theorem dX3_withoutLowest_22 : decode cX3_withoutLowest 22 = .ok (.isub, 1) := by decide +kernel
theorem dX3_withoutLowest_23 : decode cX3_withoutLowest 23 = .ok (.lshl, 1) := by decide +kernel
theorem dX3_withoutLowest_24 : decode cX3_withoutLowest 24 = .ok (.lstore 7, 2) := by decide +kernel
theorem dX3_withoutLowest_26 : decode cX3_withoutLowest 26 = .ok (.lload 5, 2) := by decide +kernel
theorem dX3_withoutLowest_28 : decode cX3_withoutLowest 28 = .ok (.lload 7, 2) := by decide +kernel
theorem dX3_withoutLowest_30 : decode cX3_withoutLowest 30 = .ok (.lcmp, 1) := by decide +kernel
theorem dX3_withoutLowest_31 : decode cX3_withoutLowest 31 = .ok (.ifCond .gt 19, 3) := by decide +kernel
theorem dX3_withoutLowest_34 : decode cX3_withoutLowest 34 = .ok (.lload 5, 2) := by decide +kernel
theorem dX3_withoutLowest_36 : decode cX3_withoutLowest 36 = .ok (.lload 7, 2) := by decide +kernel
theorem dX3_withoutLowest_38 : decode cX3_withoutLowest 38 = .ok (.lcmp, 1) := by decide +kernel
