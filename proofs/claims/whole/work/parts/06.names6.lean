set_option maxRecDepth 20000 in
theorem ggX7_changes_X7_counts : GoodIn wsX7_changes wsX7_counts := goodIn_r _ [8, 9, 77, 78, 79, 80, 81, 82, 83, 84, 85, 86, 87, 88, 89, 90, 91, 92, 93, 94, 95] (by decide +kernel) (by decide +kernel)
set_option maxRecDepth 20000 in
theorem gX7_changes_X7_counts : GoodIn wsX7_changes (wsV RX7 60 RX7 yX7_counts wsX7_counts) := goodIn_app (goodIn_of _ (by decide +kernel)) ggX7_changes_X7_counts
set_option maxRecDepth 20000 in
theorem ggX7_changes_X7_laysOrders : GoodIn wsX7_changes wsX7_laysOrders := goodIn_r _ [13, 14, 15, 16, 17, 18, 19, 20, 3, 21, 22, 23, 24, 25, 26, 27, 28, 29, 30, 31, 32, 33, 34, 35, 36, 37, 38, 39, 40, 41, 42, 43, 44, 45, 46, 47, 48, 49, 50, 51, 52, 53, 54, 55, 56, 57, 58, 59, 60, 61, 62, 63, 64, 65, 66, 67, 77, 78, 79, 80, 81, 82, 83, 84, 85, 86, 87, 88, 89, 90, 91, 92, 93, 94, 95] (by decide +kernel) (by decide +kernel)
set_option maxRecDepth 20000 in
theorem gX7_changes_X7_laysOrders : GoodIn wsX7_changes (wsV RX7 146 RX7 yX7_laysOrders wsX7_laysOrders) := goodIn_app (goodIn_of _ (by decide +kernel)) ggX7_changes_X7_laysOrders
set_option maxRecDepth 20000 in
theorem ggX7_changes_X7_changesIs : GoodIn wsX7_changes wsX7_changesIs := goodIn_r _ [71, 15, 72, 73, 74, 3, 75, 17, 14, 16, 76, 26, 27, 28, 64, 65, 66, 67, 77, 78, 79, 80, 81, 82, 83, 84, 85, 86, 87, 88, 89, 90, 91, 92, 93, 94, 95] (by decide +kernel) (by decide +kernel)
set_option maxRecDepth 20000 in
theorem gX7_changes_X7_changesIs : GoodIn wsX7_changes (wsV RX7 155 RX7 yX7_changesIs wsX7_changesIs) := goodIn_app (goodIn_of _ (by decide +kernel)) ggX7_changes_X7_changesIs
theorem dX7_changes_0 : decode cX7_changes 0 = .ok (.iload_n 1, 1) := by decide +kernel
theorem dX7_changes_1 : decode cX7_changes 1 = .ok (.iconst 0, 1) := by decide +kernel
theorem dX7_changes_2 : decode cX7_changes 2 = .ok (.iconst 1, 1) := by decide +kernel
theorem dX7_changes_3 : decode cX7_changes 3 = .ok (.invokestatic 52, 3) := by decide +kernel
theorem dX7_changes_6 : decode cX7_changes 6 = .ok (.ifCond .ne 11, 3) := by decide +kernel
theorem dX7_changes_9 : decode cX7_changes 9 = .ok (.aload_n 0, 1) := by decide +kernel
theorem dX7_changes_10 : decode cX7_changes 10 = .ok (.sipush (-1001), 3) := by decide +kernel
theorem dX7_changes_13 : decode cX7_changes 13 = .ok (.invokevirtual 60, 3) := by decide +kernel
theorem dX7_changes_16 : decode cX7_changes 16 = .ok (.ireturn, 1) := by decide +kernel
theorem dX7_changes_17 : decode cX7_changes 17 = .ok (.aload_n 0, 1) := by decide +kernel
theorem dX7_changes_18 : decode cX7_changes 18 = .ok (.invokevirtual 146, 3) := by decide +kernel
theorem dX7_changes_21 : decode cX7_changes 21 = .ok (.aload_n 0, 1) := by decide +kernel
theorem dX7_changes_22 : decode cX7_changes 22 = .ok (.iload_n 1, 1) := by decide +kernel
theorem dX7_changes_23 : decode cX7_changes 23 = .ok (.invokevirtual 155, 3) := by decide +kernel
theorem dX7_changes_26 : decode cX7_changes 26 = .ok (.ireturn, 1) := by decide +kernel
set_option maxRecDepth 20000 in
theorem ggX7_ways_X7_laysOrders : GoodIn wsX7_ways wsX7_laysOrders := goodIn_r _ [7, 8, 1, 9, 2, 10, 11, 12, 6, 13, 14, 15, 16, 17, 18, 19, 20, 21, 22, 23, 24, 25, 26, 27, 28, 29, 30, 31, 32, 33, 34, 35, 36, 37, 38, 39, 40, 41, 42, 43, 44, 45, 46, 47, 48, 49, 50, 51, 52, 53, 54, 55, 56, 57, 58, 59, 60, 61, 62, 63, 64, 65, 66, 67, 68, 69, 70, 71, 72, 73, 74, 75, 76, 77, 78] (by decide +kernel) (by decide +kernel)
set_option maxRecDepth 20000 in
theorem gX7_ways_X7_laysOrders : GoodIn wsX7_ways (wsV RX7 146 RX7 yX7_laysOrders wsX7_laysOrders) := goodIn_app (goodIn_of _ (by decide +kernel)) ggX7_ways_X7_laysOrders
theorem dX7_ways_0 : decode cX7_ways 0 = .ok (.aload_n 0, 1) := by decide +kernel
theorem dX7_ways_1 : decode cX7_ways 1 = .ok (.invokevirtual 146, 3) := by decide +kernel
theorem dX7_ways_4 : decode cX7_ways 4 = .ok (.aload_n 0, 1) := by decide +kernel
theorem dX7_ways_5 : decode cX7_ways 5 = .ok (.getfield 37, 3) := by decide +kernel
theorem dX7_ways_8 : decode cX7_ways 8 = .ok (.aload_n 0, 1) := by decide +kernel
theorem dX7_ways_9 : decode cX7_ways 9 = .ok (.getfield 7, 3) := by decide +kernel
theorem dX7_ways_12 : decode cX7_ways 12 = .ok (.bipush 20, 2) := by decide +kernel
theorem dX7_ways_14 : decode cX7_ways 14 = .ok (.iaload, 1) := by decide +kernel
theorem dX7_ways_15 : decode cX7_ways 15 = .ok (.iaload, 1) := by decide +kernel
theorem dX7_ways_16 : decode cX7_ways 16 = .ok (.ireturn, 1) := by decide +kernel
set_option maxRecDepth 20000 in
theorem ggX7_longBy_X7_has : GoodIn wsX7_longBy wsX7_has := goodIn_r _ [5] (by decide +kernel) (by decide +kernel)
set_option maxRecDepth 20000 in
theorem gX7_longBy_X7_has : GoodIn wsX7_longBy (va_wsS RX7 70 yX7_has wsX7_has) := goodIn_app (goodIn_of _ (by decide +kernel)) ggX7_longBy_X7_has
theorem dX7_longBy_0 : decode cX7_longBy 0 = .ok (.bipush 10, 2) := by decide +kernel
theorem dX7_longBy_2 : decode cX7_longBy 2 = .ok (.aload_n 0, 1) := by decide +kernel
theorem dX7_longBy_3 : decode cX7_longBy 3 = .ok (.getfield 7, 3) := by decide +kernel
theorem dX7_longBy_6 : decode cX7_longBy 6 = .ok (.iconst 1, 1) := by decide +kernel
theorem dX7_longBy_7 : decode cX7_longBy 7 = .ok (.iaload, 1) := by decide +kernel
theorem dX7_longBy_8 : decode cX7_longBy 8 = .ok (.imul, 1) := by decide +kernel
theorem dX7_longBy_9 : decode cX7_longBy 9 = .ok (.istore_n 2, 1) := by decide +kernel
theorem dX7_longBy_10 : decode cX7_longBy 10 = .ok (.iconst 0, 1) := by decide +kernel
theorem dX7_longBy_11 : decode cX7_longBy 11 = .ok (.istore_n 3, 1) := by decide +kernel
theorem dX7_longBy_12 : decode cX7_longBy 12 = .ok (.iload_n 3, 1) := by decide +kernel
theorem dX7_longBy_13 : decode cX7_longBy 13 = .ok (.aload_n 0, 1) := by decide +kernel
theorem dX7_longBy_14 : decode cX7_longBy 14 = .ok (.getfield 7, 3) := by decide +kernel
theorem dX7_longBy_17 : decode cX7_longBy 17 = .ok (.iconst 0, 1) := by decide +kernel
theorem dX7_longBy_18 : decode cX7_longBy 18 = .ok (.iaload, 1) := by decide +kernel
theorem dX7_longBy_19 : decode cX7_longBy 19 = .ok (.if_icmp .ge 55, 3) := by decide +kernel
theorem dX7_longBy_22 : decode cX7_longBy 22 = .ok (.iload_n 2, 1) := by decide +kernel
theorem dX7_longBy_23 : decode cX7_longBy 23 = .ok (.bipush 10, 2) := by decide +kernel
theorem dX7_longBy_25 : decode cX7_longBy 25 = .ok (.aload_n 0, 1) := by decide +kernel
theorem dX7_longBy_26 : decode cX7_longBy 26 = .ok (.getfield 7, 3) := by decide +kernel
theorem dX7_longBy_29 : decode cX7_longBy 29 = .ok (.iconst 1, 1) := by decide +kernel
theorem dX7_longBy_30 : decode cX7_longBy 30 = .ok (.iload_n 3, 1) := by decide +kernel
theorem dX7_longBy_31 : decode cX7_longBy 31 = .ok (.iadd, 1) := by decide +kernel
theorem dX7_longBy_32 : decode cX7_longBy 32 = .ok (.iconst 1, 1) := by decide +kernel
theorem dX7_longBy_33 : decode cX7_longBy 33 = .ok (.iadd, 1) := by decide +kernel
theorem dX7_longBy_34 : decode cX7_longBy 34 = .ok (.iaload, 1) := by decide +kernel
theorem dX7_longBy_35 : decode cX7_longBy 35 = .ok (.imul, 1) := by decide +kernel
theorem dX7_longBy_36 : decode cX7_longBy 36 = .ok (.iload_n 1, 1) := by decide +kernel
theorem dX7_longBy_37 : decode cX7_longBy 37 = .ok (.iload_n 3, 1) := by decide +kernel
theorem dX7_longBy_38 : decode cX7_longBy 38 = .ok (.invokestatic 70, 3) := by decide +kernel
theorem dX7_longBy_41 : decode cX7_longBy 41 = .ok (.ifCond .eq 23, 3) := by decide +kernel
theorem dX7_longBy_44 : decode cX7_longBy 44 = .ok (.aload_n 0, 1) := by decide +kernel
theorem dX7_longBy_45 : decode cX7_longBy 45 = .ok (.getfield 7, 3) := by decide +kernel
theorem dX7_longBy_48 : decode cX7_longBy 48 = .ok (.bipush 23, 2) := by decide +kernel
theorem dX7_longBy_50 : decode cX7_longBy 50 = .ok (.aload_n 0, 1) := by decide +kernel
theorem dX7_longBy_51 : decode cX7_longBy 51 = .ok (.getfield 7, 3) := by decide +kernel
theorem dX7_longBy_54 : decode cX7_longBy 54 = .ok (.bipush 14, 2) := by decide +kernel
theorem dX7_longBy_56 : decode cX7_longBy 56 = .ok (.iload_n 3, 1) := by decide +kernel
theorem dX7_longBy_57 : decode cX7_longBy 57 = .ok (.iadd, 1) := by decide +kernel
theorem dX7_longBy_58 : decode cX7_longBy 58 = .ok (.iaload, 1) := by decide +kernel
theorem dX7_longBy_59 : decode cX7_longBy 59 = .ok (.iadd, 1) := by decide +kernel
theorem dX7_longBy_60 : decode cX7_longBy 60 = .ok (.iaload, 1) := by decide +kernel
theorem dX7_longBy_61 : decode cX7_longBy 61 = .ok (.goto 4, 3) := by decide +kernel
theorem dX7_longBy_64 : decode cX7_longBy 64 = .ok (.iconst 0, 1) := by decide +kernel
theorem dX7_longBy_65 : decode cX7_longBy 65 = .ok (.isub, 1) := by decide +kernel
theorem dX7_longBy_66 : decode cX7_longBy 66 = .ok (.iadd, 1) := by decide +kernel
theorem dX7_longBy_67 : decode cX7_longBy 67 = .ok (.istore_n 2, 1) := by decide +kernel
theorem dX7_longBy_68 : decode cX7_longBy 68 = .ok (.iinc 3 1, 3) := by decide +kernel
theorem dX7_longBy_71 : decode cX7_longBy 71 = .ok (.goto (-59), 3) := by decide +kernel
theorem dX7_longBy_74 : decode cX7_longBy 74 = .ok (.iload_n 2, 1) := by decide +kernel
theorem dX7_longBy_75 : decode cX7_longBy 75 = .ok (.ireturn, 1) := by decide +kernel
set_option maxRecDepth 20000 in
theorem ggX7_countIs_X7_ones : GoodIn wsX7_countIs wsX7_ones := goodIn_r _ [5] (by decide +kernel) (by decide +kernel)
set_option maxRecDepth 20000 in
theorem gX7_countIs_X7_ones : GoodIn wsX7_countIs (va_wsS RX7 130 yX7_ones wsX7_ones) := goodIn_app (goodIn_of _ (by decide +kernel)) ggX7_countIs_X7_ones
set_option maxRecDepth 20000 in
theorem ggX7_countIs_X7_allMade : GoodIn wsX7_countIs wsX7_allMade := goodIn_r _ [9, 1, 17, 18, 19, 20, 21, 22, 23, 24, 25, 26, 27, 28, 29, 30, 31, 32, 33, 34, 35] (by decide +kernel) (by decide +kernel)
set_option maxRecDepth 20000 in
theorem gX7_countIs_X7_allMade : GoodIn wsX7_countIs (wsV RX7 139 RX7 yX7_allMade wsX7_allMade) := goodIn_app (goodIn_of _ (by decide +kernel)) ggX7_countIs_X7_allMade
set_option maxRecDepth 20000 in
theorem ggX7_countIs_X7_longBy : GoodIn wsX7_countIs wsX7_longBy := goodIn_r _ [13, 1, 14, 15, 4, 16, 17, 18, 19, 20, 21, 22, 23, 24, 25, 26, 27, 28, 29, 30, 31, 32, 33, 34, 35] (by decide +kernel) (by decide +kernel)
set_option maxRecDepth 20000 in
theorem gX7_countIs_X7_longBy : GoodIn wsX7_countIs (wsV RX7 158 RX7 yX7_longBy wsX7_longBy) := goodIn_app (goodIn_of _ (by decide +kernel)) ggX7_countIs_X7_longBy
theorem dX7_countIs_0 : decode cX7_countIs 0 = .ok (.iload_n 1, 1) := by decide +kernel
theorem dX7_countIs_1 : decode cX7_countIs 1 = .ok (.tableswitch 115 0 10 #[59, 66, 77, 115, 115, 115, 115, 115, 85, 94, 106], 59) := by decide +kernel
theorem dX7_countIs_60 : decode cX7_countIs 60 = .ok (.aload_n 0, 1) := by decide +kernel
theorem dX7_countIs_61 : decode cX7_countIs 61 = .ok (.getfield 7, 3) := by decide +kernel
theorem dX7_countIs_64 : decode cX7_countIs 64 = .ok (.iconst 0, 1) := by decide +kernel
theorem dX7_countIs_65 : decode cX7_countIs 65 = .ok (.iaload, 1) := by decide +kernel
theorem dX7_countIs_66 : decode cX7_countIs 66 = .ok (.ireturn, 1) := by decide +kernel
theorem dX7_countIs_67 : decode cX7_countIs 67 = .ok (.aload_n 0, 1) := by decide +kernel
theorem dX7_countIs_68 : decode cX7_countIs 68 = .ok (.getfield 7, 3) := by decide +kernel
theorem dX7_countIs_71 : decode cX7_countIs 71 = .ok (.bipush 20, 2) := by decide +kernel
theorem dX7_countIs_73 : decode cX7_countIs 73 = .ok (.iaload, 1) := by decide +kernel
theorem dX7_countIs_74 : decode cX7_countIs 74 = .ok (.invokestatic 130, 3) := by decide +kernel
theorem dX7_countIs_77 : decode cX7_countIs 77 = .ok (.ireturn, 1) := by decide +kernel
theorem dX7_countIs_78 : decode cX7_countIs 78 = .ok (.aload_n 0, 1) := by decide +kernel
theorem dX7_countIs_79 : decode cX7_countIs 79 = .ok (.getfield 7, 3) := by decide +kernel
theorem dX7_countIs_82 : decode cX7_countIs 82 = .ok (.bipush 20, 2) := by decide +kernel
theorem dX7_countIs_84 : decode cX7_countIs 84 = .ok (.iaload, 1) := by decide +kernel
theorem dX7_countIs_85 : decode cX7_countIs 85 = .ok (.ireturn, 1) := by decide +kernel
theorem dX7_countIs_86 : decode cX7_countIs 86 = .ok (.aload_n 0, 1) := by decide +kernel
theorem dX7_countIs_87 : decode cX7_countIs 87 = .ok (.aload_n 0, 1) := by decide +kernel
theorem dX7_countIs_88 : decode cX7_countIs 88 = .ok (.invokevirtual 139, 3) := by decide +kernel
theorem dX7_countIs_91 : decode cX7_countIs 91 = .ok (.invokevirtual 158, 3) := by decide +kernel
theorem dX7_countIs_94 : decode cX7_countIs 94 = .ok (.ireturn, 1) := by decide +kernel
theorem dX7_countIs_95 : decode cX7_countIs 95 = .ok (.aload_n 0, 1) := by decide +kernel
theorem dX7_countIs_96 : decode cX7_countIs 96 = .ok (.aload_n 0, 1) := by decide +kernel
theorem dX7_countIs_97 : decode cX7_countIs 97 = .ok (.getfield 7, 3) := by decide +kernel
theorem dX7_countIs_100 : decode cX7_countIs 100 = .ok (.bipush 20, 2) := by decide +kernel
theorem dX7_countIs_102 : decode cX7_countIs 102 = .ok (.iaload, 1) := by decide +kernel
theorem dX7_countIs_103 : decode cX7_countIs 103 = .ok (.invokevirtual 158, 3) := by decide +kernel
theorem dX7_countIs_106 : decode cX7_countIs 106 = .ok (.ireturn, 1) := by decide +kernel
theorem dX7_countIs_107 : decode cX7_countIs 107 = .ok (.aload_n 0, 1) := by decide +kernel
theorem dX7_countIs_108 : decode cX7_countIs 108 = .ok (.iconst 0, 1) := by decide +kernel
theorem dX7_countIs_109 : decode cX7_countIs 109 = .ok (.invokevirtual 158, 3) := by decide +kernel
theorem dX7_countIs_112 : decode cX7_countIs 112 = .ok (.bipush 10, 2) := by decide +kernel
theorem dX7_countIs_114 : decode cX7_countIs 114 = .ok (.idiv, 1) := by decide +kernel
theorem dX7_countIs_115 : decode cX7_countIs 115 = .ok (.ireturn, 1) := by decide +kernel
theorem dX7_countIs_116 : decode cX7_countIs 116 = .ok (.aload_n 0, 1) := by decide +kernel
theorem dX7_countIs_117 : decode cX7_countIs 117 = .ok (.getfield 7, 3) := by decide +kernel
theorem dX7_countIs_120 : decode cX7_countIs 120 = .ok (.bipush 21, 2) := by decide +kernel
theorem dX7_countIs_122 : decode cX7_countIs 122 = .ok (.iload_n 1, 1) := by decide +kernel
theorem dX7_countIs_123 : decode cX7_countIs 123 = .ok (.iadd, 1) := by decide +kernel
theorem dX7_countIs_124 : decode cX7_countIs 124 = .ok (.iconst 3, 1) := by decide +kernel
theorem dX7_countIs_125 : decode cX7_countIs 125 = .ok (.isub, 1) := by decide +kernel
theorem dX7_countIs_126 : decode cX7_countIs 126 = .ok (.iaload, 1) := by decide +kernel
theorem dX7_countIs_127 : decode cX7_countIs 127 = .ok (.ireturn, 1) := by decide +kernel
set_option maxRecDepth 20000 in
theorem ggX7_count_X7_within : GoodIn wsX7_count wsX7_within := goodIn_r _ [4] (by decide +kernel) (by decide +kernel)
set_option maxRecDepth 20000 in
theorem gX7_count_X7_within : GoodIn wsX7_count (va_wsS RX7 52 yX7_within wsX7_within) := goodIn_app (goodIn_of _ (by decide +kernel)) ggX7_count_X7_within
set_option maxRecDepth 20000 in
theorem ggX7_count_X7_countIs : GoodIn wsX7_count wsX7_countIs := goodIn_r _ [8, 9, 10, 11, 3, 12, 13, 14, 15, 16, 17, 18, 19, 20, 21, 22, 23, 29, 30, 31, 32, 33, 34, 35, 36, 37, 38, 39, 40, 41, 42, 43, 44, 45, 46, 47] (by decide +kernel) (by decide +kernel)
set_option maxRecDepth 20000 in
theorem gX7_count_X7_countIs : GoodIn wsX7_count (wsV RX7 161 RX7 yX7_countIs wsX7_countIs) := goodIn_app (goodIn_of _ (by decide +kernel)) ggX7_count_X7_countIs
set_option maxRecDepth 20000 in
theorem ggX7_count_X7_counts : GoodIn wsX7_count wsX7_counts := goodIn_r _ [27, 28, 29, 30, 31, 32, 33, 34, 35, 36, 37, 38, 39, 40, 41, 42, 43, 44, 45, 46, 47] (by decide +kernel) (by decide +kernel)
set_option maxRecDepth 20000 in
theorem gX7_count_X7_counts : GoodIn wsX7_count (wsV RX7 60 RX7 yX7_counts wsX7_counts) := goodIn_app (goodIn_of _ (by decide +kernel)) ggX7_count_X7_counts
theorem dX7_count_0 : decode cX7_count 0 = .ok (.iload_n 1, 1) := by decide +kernel
theorem dX7_count_1 : decode cX7_count 1 = .ok (.iconst 0, 1) := by decide +kernel
theorem dX7_count_2 : decode cX7_count 2 = .ok (.bipush 10, 2) := by decide +kernel
theorem dX7_count_4 : decode cX7_count 4 = .ok (.invokestatic 52, 3) := by decide +kernel
theorem dX7_count_7 : decode cX7_count 7 = .ok (.ifCond .eq 11, 3) := by decide +kernel
theorem dX7_count_10 : decode cX7_count 10 = .ok (.aload_n 0, 1) := by decide +kernel
theorem dX7_count_11 : decode cX7_count 11 = .ok (.iload_n 1, 1) := by decide +kernel
theorem dX7_count_12 : decode cX7_count 12 = .ok (.invokevirtual 161, 3) := by decide +kernel
theorem dX7_count_15 : decode cX7_count 15 = .ok (.goto 10, 3) := by decide +kernel
theorem dX7_count_18 : decode cX7_count 18 = .ok (.aload_n 0, 1) := by decide +kernel
theorem dX7_count_19 : decode cX7_count 19 = .ok (.sipush (-1001), 3) := by decide +kernel
theorem dX7_count_22 : decode cX7_count 22 = .ok (.invokevirtual 60, 3) := by decide +kernel
theorem dX7_count_25 : decode cX7_count 25 = .ok (.ireturn, 1) := by decide +kernel
set_option maxRecDepth 20000 in
theorem ggX7_type_X7_within : GoodIn wsX7_type wsX7_within := goodIn_r _ [6] (by decide +kernel) (by decide +kernel)
set_option maxRecDepth 20000 in
theorem gX7_type_X7_within : GoodIn wsX7_type (va_wsS RX7 52 yX7_within wsX7_within) := goodIn_app (goodIn_of _ (by decide +kernel)) ggX7_type_X7_within
set_option maxRecDepth 20000 in
theorem ggX7_type_X7_counts : GoodIn wsX7_type wsX7_counts := goodIn_r _ [10, 11, 12, 13, 14, 15, 16, 17, 18, 19, 20, 21, 22, 23, 24, 25, 26, 27, 28, 29, 30] (by decide +kernel) (by decide +kernel)
set_option maxRecDepth 20000 in
theorem gX7_type_X7_counts : GoodIn wsX7_type (wsV RX7 60 RX7 yX7_counts wsX7_counts) := goodIn_app (goodIn_of _ (by decide +kernel)) ggX7_type_X7_counts
theorem dX7_type_0 : decode cX7_type 0 = .ok (.iload_n 1, 1) := by decide +kernel
theorem dX7_type_1 : decode cX7_type 1 = .ok (.iconst 0, 1) := by decide +kernel
theorem dX7_type_2 : decode cX7_type 2 = .ok (.bipush 127, 2) := by decide +kernel
theorem dX7_type_4 : decode cX7_type 4 = .ok (.invokestatic 52, 3) := by decide +kernel
theorem dX7_type_7 : decode cX7_type 7 = .ok (.ifCond .ne 11, 3) := by decide +kernel
theorem dX7_type_10 : decode cX7_type 10 = .ok (.aload_n 0, 1) := by decide +kernel
theorem dX7_type_11 : decode cX7_type 11 = .ok (.sipush (-1001), 3) := by decide +kernel
theorem dX7_type_14 : decode cX7_type 14 = .ok (.invokevirtual 60, 3) := by decide +kernel
theorem dX7_type_17 : decode cX7_type 17 = .ok (.ireturn, 1) := by decide +kernel
theorem dX7_type_18 : decode cX7_type 18 = .ok (.aload_n 0, 1) := by decide +kernel
theorem dX7_type_19 : decode cX7_type 19 = .ok (.getfield 164, 3) := by decide +kernel
theorem dX7_type_22 : decode cX7_type 22 = .ok (.bipush 120, 2) := by decide +kernel
theorem dX7_type_24 : decode cX7_type 24 = .ok (.if_icmp .ne 11, 3) := by decide +kernel
theorem dX7_type_27 : decode cX7_type 27 = .ok (.aload_n 0, 1) := by decide +kernel
theorem dX7_type_28 : decode cX7_type 28 = .ok (.sipush (-1003), 3) := by decide +kernel
theorem dX7_type_31 : decode cX7_type 31 = .ok (.invokevirtual 60, 3) := by decide +kernel
theorem dX7_type_34 : decode cX7_type 34 = .ok (.ireturn, 1) := by decide +kernel
theorem dX7_type_35 : decode cX7_type 35 = .ok (.aload_n 0, 1) := by decide +kernel
theorem dX7_type_36 : decode cX7_type 36 = .ok (.getfield 22, 3) := by decide +kernel
theorem dX7_type_39 : decode cX7_type 39 = .ok (.aload_n 0, 1) := by decide +kernel
theorem dX7_type_40 : decode cX7_type 40 = .ok (.getfield 164, 3) := by decide +kernel
theorem dX7_type_43 : decode cX7_type 43 = .ok (.iload_n 1, 1) := by decide +kernel
theorem dX7_type_44 : decode cX7_type 44 = .ok (.iastore, 1) := by decide +kernel
theorem dX7_type_45 : decode cX7_type 45 = .ok (.aload_n 0, 1) := by decide +kernel
theorem dX7_type_46 : decode cX7_type 46 = .ok (.dup, 1) := by decide +kernel
theorem dX7_type_47 : decode cX7_type 47 = .ok (.getfield 164, 3) := by decide +kernel
theorem dX7_type_50 : decode cX7_type 50 = .ok (.iconst 1, 1) := by decide +kernel
theorem dX7_type_51 : decode cX7_type 51 = .ok (.iadd, 1) := by decide +kernel
theorem dX7_type_52 : decode cX7_type 52 = .ok (.putfield 164, 3) := by decide +kernel
theorem dX7_type_55 : decode cX7_type 55 = .ok (.aload_n 0, 1) := by decide +kernel
theorem dX7_type_56 : decode cX7_type 56 = .ok (.getfield 164, 3) := by decide +kernel
theorem dX7_type_59 : decode cX7_type 59 = .ok (.ireturn, 1) := by decide +kernel
theorem dX7_clear_0 : decode cX7_clear 0 = .ok (.aload_n 0, 1) := by decide +kernel
theorem dX7_clear_1 : decode cX7_clear 1 = .ok (.getfield 164, 3) := by decide +kernel
theorem dX7_clear_4 : decode cX7_clear 4 = .ok (.istore_n 1, 1) := by decide +kernel
theorem dX7_clear_5 : decode cX7_clear 5 = .ok (.aload_n 0, 1) := by decide +kernel
theorem dX7_clear_6 : decode cX7_clear 6 = .ok (.iconst 0, 1) := by decide +kernel
theorem dX7_clear_7 : decode cX7_clear 7 = .ok (.putfield 164, 3) := by decide +kernel
theorem dX7_clear_10 : decode cX7_clear 10 = .ok (.iload_n 1, 1) := by decide +kernel
theorem dX7_clear_11 : decode cX7_clear 11 = .ok (.ireturn, 1) := by decide +kernel
theorem dX7_here_0 : decode cX7_here 0 = .ok (.aload_n 0, 1) := by decide +kernel
theorem dX7_here_1 : decode cX7_here 1 = .ok (.getfield 167, 3) := by decide +kernel
theorem dX7_here_4 : decode cX7_here 4 = .ok (.aload_n 0, 1) := by decide +kernel
theorem dX7_here_5 : decode cX7_here 5 = .ok (.getfield 164, 3) := by decide +kernel
theorem dX7_here_8 : decode cX7_here 8 = .ok (.if_icmp .ge 15, 3) := by decide +kernel
theorem dX7_here_11 : decode cX7_here 11 = .ok (.aload_n 0, 1) := by decide +kernel
theorem dX7_here_12 : decode cX7_here 12 = .ok (.getfield 22, 3) := by decide +kernel
theorem dX7_here_15 : decode cX7_here 15 = .ok (.aload_n 0, 1) := by decide +kernel
theorem dX7_here_16 : decode cX7_here 16 = .ok (.getfield 167, 3) := by decide +kernel
theorem dX7_here_19 : decode cX7_here 19 = .ok (.iaload, 1) := by decide +kernel
theorem dX7_here_20 : decode cX7_here 20 = .ok (.goto 4, 3) := by decide +kernel
theorem dX7_here_23 : decode cX7_here 23 = .ok (.iconst (-1), 1) := by decide +kernel
theorem dX7_here_24 : decode cX7_here 24 = .ok (.ireturn, 1) := by decide +kernel
set_option maxRecDepth 20000 in
theorem ggX7_blanks_X7_here : GoodIn wsX7_blanks wsX7_here := goodIn_r _ [6, 1, 7, 8, 9, 10, 11, 12, 13, 14, 15, 16, 17, 18, 19, 20, 21, 22, 23, 24, 25, 26, 27] (by decide +kernel) (by decide +kernel)
set_option maxRecDepth 20000 in
theorem gX7_blanks_X7_here : GoodIn wsX7_blanks (wsV RX7 170 RX7 yX7_here wsX7_here) := goodIn_app (goodIn_of _ (by decide +kernel)) ggX7_blanks_X7_here
theorem dX7_blanks_0 : decode cX7_blanks 0 = .ok (.aload_n 0, 1) := by decide +kernel
theorem dX7_blanks_1 : decode cX7_blanks 1 = .ok (.invokevirtual 170, 3) := by decide +kernel
theorem dX7_blanks_4 : decode cX7_blanks 4 = .ok (.bipush 32, 2) := by decide +kernel
theorem dX7_blanks_6 : decode cX7_blanks 6 = .ok (.if_icmp .ne 16, 3) := by decide +kernel
theorem dX7_blanks_9 : decode cX7_blanks 9 = .ok (.aload_n 0, 1) := by decide +kernel
theorem dX7_blanks_10 : decode cX7_blanks 10 = .ok (.dup, 1) := by decide +kernel
theorem dX7_blanks_11 : decode cX7_blanks 11 = .ok (.getfield 167, 3) := by decide +kernel
theorem dX7_blanks_14 : decode cX7_blanks 14 = .ok (.iconst 1, 1) := by decide +kernel
theorem dX7_blanks_15 : decode cX7_blanks 15 = .ok (.iadd, 1) := by decide +kernel
theorem dX7_blanks_16 : decode cX7_blanks 16 = .ok (.putfield 167, 3) := by decide +kernel
theorem dX7_blanks_19 : decode cX7_blanks 19 = .ok (.goto (-19), 3) := by decide +kernel
theorem dX7_blanks_22 : decode cX7_blanks 22 = .ok (.return_, 1) := by decide +kernel
set_option maxRecDepth 20000 in
theorem ggX7_passesNumber_X7_blanks : GoodIn wsX7_passesNumber wsX7_blanks := goodIn_r _ [7, 1, 8, 9, 10, 6, 11, 12, 13, 17, 18, 19, 20, 21, 22, 23, 24, 25, 26, 27, 28, 29, 30, 31, 32, 33, 34, 35] (by decide +kernel) (by decide +kernel)
set_option maxRecDepth 20000 in
theorem gX7_passesNumber_X7_blanks : GoodIn wsX7_passesNumber (wsV RX7 173 RX7 yX7_blanks wsX7_blanks) := goodIn_app (goodIn_of _ (by decide +kernel)) ggX7_passesNumber_X7_blanks
set_option maxRecDepth 20000 in
theorem ggX7_passesNumber_X7_here : GoodIn wsX7_passesNumber wsX7_here := goodIn_r _ [11, 1, 12, 13, 17, 18, 19, 20, 21, 22, 23, 24, 25, 26, 27, 28, 29, 30, 31, 32, 33, 34, 35] (by decide +kernel) (by decide +kernel)
set_option maxRecDepth 20000 in
theorem gX7_passesNumber_X7_here : GoodIn wsX7_passesNumber (wsV RX7 170 RX7 yX7_here wsX7_here) := goodIn_app (goodIn_of _ (by decide +kernel)) ggX7_passesNumber_X7_here
set_option maxRecDepth 20000 in
theorem ggX7_passesNumber_X7_within : GoodIn wsX7_passesNumber wsX7_within := goodIn_r _ [16] (by decide +kernel) (by decide +kernel)
set_option maxRecDepth 20000 in
theorem gX7_passesNumber_X7_within : GoodIn wsX7_passesNumber (va_wsS RX7 52 yX7_within wsX7_within) := goodIn_app (goodIn_of _ (by decide +kernel)) ggX7_passesNumber_X7_within
theorem dX7_passesNumber_0 : decode cX7_passesNumber 0 = .ok (.aload_n 0, 1) := by decide +kernel
theorem dX7_passesNumber_1 : decode cX7_passesNumber 1 = .ok (.invokevirtual 173, 3) := by decide +kernel
theorem dX7_passesNumber_4 : decode cX7_passesNumber 4 = .ok (.iconst 0, 1) := by decide +kernel
theorem dX7_passesNumber_5 : decode cX7_passesNumber 5 = .ok (.istore_n 2, 1) := by decide +kernel
theorem dX7_passesNumber_6 : decode cX7_passesNumber 6 = .ok (.iconst 0, 1) := by decide +kernel
theorem dX7_passesNumber_7 : decode cX7_passesNumber 7 = .ok (.istore_n 3, 1) := by decide +kernel
theorem dX7_passesNumber_8 : decode cX7_passesNumber 8 = .ok (.aload_n 0, 1) := by decide +kernel
theorem dX7_passesNumber_9 : decode cX7_passesNumber 9 = .ok (.invokevirtual 170, 3) := by decide +kernel
theorem dX7_passesNumber_12 : decode cX7_passesNumber 12 = .ok (.bipush 48, 2) := by decide +kernel
theorem dX7_passesNumber_14 : decode cX7_passesNumber 14 = .ok (.bipush 57, 2) := by decide +kernel
theorem dX7_passesNumber_16 : decode cX7_passesNumber 16 = .ok (.invokestatic 52, 3) := by decide +kernel
theorem dX7_passesNumber_19 : decode cX7_passesNumber 19 = .ok (.ifCond .eq 37, 3) := by decide +kernel
theorem dX7_passesNumber_22 : decode cX7_passesNumber 22 = .ok (.iload_n 3, 1) := by decide +kernel
theorem dX7_passesNumber_23 : decode cX7_passesNumber 23 = .ok (.iconst 2, 1) := by decide +kernel
theorem dX7_passesNumber_24 : decode cX7_passesNumber 24 = .ok (.if_icmp .ge 32, 3) := by decide +kernel
theorem dX7_passesNumber_27 : decode cX7_passesNumber 27 = .ok (.bipush 10, 2) := by decide +kernel
theorem dX7_passesNumber_29 : decode cX7_passesNumber 29 = .ok (.iload_n 2, 1) := by decide +kernel
theorem dX7_passesNumber_30 : decode cX7_passesNumber 30 = .ok (.imul, 1) := by decide +kernel
theorem dX7_passesNumber_31 : decode cX7_passesNumber 31 = .ok (.aload_n 0, 1) := by decide +kernel
theorem dX7_passesNumber_32 : decode cX7_passesNumber 32 = .ok (.invokevirtual 170, 3) := by decide +kernel
theorem dX7_passesNumber_35 : decode cX7_passesNumber 35 = .ok (.iadd, 1) := by decide +kernel
theorem dX7_passesNumber_36 : decode cX7_passesNumber 36 = .ok (.bipush 48, 2) := by decide +kernel
theorem dX7_passesNumber_38 : decode cX7_passesNumber 38 = .ok (.isub, 1) := by decide +kernel
theorem dX7_passesNumber_39 : decode cX7_passesNumber 39 = .ok (.istore_n 2, 1) := by decide +kernel
theorem dX7_passesNumber_40 : decode cX7_passesNumber 40 = .ok (.aload_n 0, 1) := by decide +kernel
theorem dX7_passesNumber_41 : decode cX7_passesNumber 41 = .ok (.dup, 1) := by decide +kernel
theorem dX7_passesNumber_42 : decode cX7_passesNumber 42 = .ok (.getfield 167, 3) := by decide +kernel
theorem dX7_passesNumber_45 : decode cX7_passesNumber 45 = .ok (.iconst 1, 1) := by decide +kernel
theorem dX7_passesNumber_46 : decode cX7_passesNumber 46 = .ok (.iadd, 1) := by decide +kernel
theorem dX7_passesNumber_47 : decode cX7_passesNumber 47 = .ok (.putfield 167, 3) := by decide +kernel
theorem dX7_passesNumber_50 : decode cX7_passesNumber 50 = .ok (.iinc 3 1, 3) := by decide +kernel
theorem dX7_passesNumber_53 : decode cX7_passesNumber 53 = .ok (.goto (-45), 3) := by decide +kernel
theorem dX7_passesNumber_56 : decode cX7_passesNumber 56 = .ok (.aload_n 0, 1) := by decide +kernel
theorem dX7_passesNumber_57 : decode cX7_passesNumber 57 = .ok (.getfield 49, 3) := by decide +kernel
theorem dX7_passesNumber_60 : decode cX7_passesNumber 60 = .ok (.iload_n 1, 1) := by decide +kernel
theorem dX7_passesNumber_61 : decode cX7_passesNumber 61 = .ok (.iload_n 2, 1) := by decide +kernel
theorem dX7_passesNumber_62 : decode cX7_passesNumber 62 = .ok (.iastore, 1) := by decide +kernel
theorem dX7_passesNumber_63 : decode cX7_passesNumber 63 = .ok (.iload_n 3, 1) := by decide +kernel
theorem dX7_passesNumber_64 : decode cX7_passesNumber 64 = .ok (.ifCond .le 21, 3) := by decide +kernel
theorem dX7_passesNumber_67 : decode cX7_passesNumber 67 = .ok (.aload_n 0, 1) := by decide +kernel
theorem dX7_passesNumber_68 : decode cX7_passesNumber 68 = .ok (.invokevirtual 170, 3) := by decide +kernel
theorem dX7_passesNumber_71 : decode cX7_passesNumber 71 = .ok (.bipush 48, 2) := by decide +kernel
theorem dX7_passesNumber_73 : decode cX7_passesNumber 73 = .ok (.bipush 57, 2) := by decide +kernel
theorem dX7_passesNumber_75 : decode cX7_passesNumber 75 = .ok (.invokestatic 52, 3) := by decide +kernel
theorem dX7_passesNumber_78 : decode cX7_passesNumber 78 = .ok (.ifCond .ne 7, 3) := by decide +kernel
theorem dX7_passesNumber_81 : decode cX7_passesNumber 81 = .ok (.iconst 1, 1) := by decide +kernel
theorem dX7_passesNumber_82 : decode cX7_passesNumber 82 = .ok (.goto 4, 3) := by decide +kernel
theorem dX7_passesNumber_85 : decode cX7_passesNumber 85 = .ok (.iconst 0, 1) := by decide +kernel
theorem dX7_passesNumber_86 : decode cX7_passesNumber 86 = .ok (.ireturn, 1) := by decide +kernel
theorem dX7_numbersOf_0 : decode cX7_numbersOf 0 = .ok (.iload_n 0, 1) := by decide +kernel
theorem dX7_numbersOf_1 : decode cX7_numbersOf 1 = .ok (.tableswitch 107 97 117 #[99, 105, 107, 107, 107, 107, 107, 107, 107, 107, 103, 107, 101, 107, 107, 103, 107, 107, 101, 107, 101], 99) := by decide +kernel
theorem dX7_numbersOf_100 : decode cX7_numbersOf 100 = .ok (.iconst 0, 1) := by decide +kernel
theorem dX7_numbersOf_101 : decode cX7_numbersOf 101 = .ok (.ireturn, 1) := by decide +kernel
theorem dX7_numbersOf_102 : decode cX7_numbersOf 102 = .ok (.iconst 1, 1) := by decide +kernel
theorem dX7_numbersOf_103 : decode cX7_numbersOf 103 = .ok (.ireturn, 1) := by decide +kernel
theorem dX7_numbersOf_104 : decode cX7_numbersOf 104 = .ok (.iconst 2, 1) := by decide +kernel
theorem dX7_numbersOf_105 : decode cX7_numbersOf 105 = .ok (.ireturn, 1) := by decide +kernel
theorem dX7_numbersOf_106 : decode cX7_numbersOf 106 = .ok (.iconst 3, 1) := by decide +kernel
theorem dX7_numbersOf_107 : decode cX7_numbersOf 107 = .ok (.ireturn, 1) := by decide +kernel
theorem dX7_numbersOf_108 : decode cX7_numbersOf 108 = .ok (.iconst (-1), 1) := by decide +kernel
theorem dX7_numbersOf_109 : decode cX7_numbersOf 109 = .ok (.ireturn, 1) := by decide +kernel
set_option maxRecDepth 20000 in
theorem ggX7_passesOne_X7_here : GoodIn wsX7_passesOne wsX7_here := goodIn_r _ [8, 3, 9, 10, 26, 27, 28, 29, 30, 31, 32, 33, 34, 35, 36, 37, 38, 39, 40, 41, 42, 43, 44] (by decide +kernel) (by decide +kernel)
set_option maxRecDepth 20000 in
theorem gX7_passesOne_X7_here : GoodIn wsX7_passesOne (wsV RX7 170 RX7 yX7_here wsX7_here) := goodIn_app (goodIn_of _ (by decide +kernel)) ggX7_passesOne_X7_here
set_option maxRecDepth 20000 in
theorem ggX7_passesOne_X7_numbersOf : GoodIn wsX7_passesOne wsX7_numbersOf := goodIn_r _ [13] (by decide +kernel) (by decide +kernel)
set_option maxRecDepth 20000 in
theorem gX7_passesOne_X7_numbersOf : GoodIn wsX7_passesOne (va_wsS RX7 176 yX7_numbersOf wsX7_numbersOf) := goodIn_app (goodIn_of _ (by decide +kernel)) ggX7_passesOne_X7_numbersOf
set_option maxRecDepth 20000 in
theorem ggX7_passesOne_X7_passesNumber : GoodIn wsX7_passesOne wsX7_passesNumber := goodIn_r _ [17, 3, 18, 19, 20, 21, 7, 22, 4, 5, 6, 8, 9, 10, 23, 24, 25, 26, 27, 28, 29, 30, 31, 32, 33, 34, 35, 36, 37, 38, 39, 40, 41, 42, 43, 44] (by decide +kernel) (by decide +kernel)
set_option maxRecDepth 20000 in
theorem gX7_passesOne_X7_passesNumber : GoodIn wsX7_passesOne (wsV RX7 182 RX7 yX7_passesNumber wsX7_passesNumber) := goodIn_app (goodIn_of _ (by decide +kernel)) ggX7_passesOne_X7_passesNumber
set_option maxRecDepth 20000 in
theorem ggX7_passesOne_X7_blanks : GoodIn wsX7_passesOne wsX7_blanks := goodIn_r _ [22, 3, 4, 5, 6, 7, 8, 9, 10, 26, 27, 28, 29, 30, 31, 32, 33, 34, 35, 36, 37, 38, 39, 40, 41, 42, 43, 44] (by decide +kernel) (by decide +kernel)
set_option maxRecDepth 20000 in
theorem gX7_passesOne_X7_blanks : GoodIn wsX7_passesOne (wsV RX7 173 RX7 yX7_blanks wsX7_blanks) := goodIn_app (goodIn_of _ (by decide +kernel)) ggX7_passesOne_X7_blanks
theorem dX7_passesOne_0 : decode cX7_passesOne 0 = .ok (.aload_n 0, 1) := by decide +kernel
theorem dX7_passesOne_1 : decode cX7_passesOne 1 = .ok (.invokevirtual 170, 3) := by decide +kernel
theorem dX7_passesOne_4 : decode cX7_passesOne 4 = .ok (.invokestatic 176, 3) := by decide +kernel
theorem dX7_passesOne_7 : decode cX7_passesOne 7 = .ok (.istore_n 1, 1) := by decide +kernel
theorem dX7_passesOne_8 : decode cX7_passesOne 8 = .ok (.iload_n 1, 1) := by decide +kernel
theorem dX7_passesOne_9 : decode cX7_passesOne 9 = .ok (.ifCond .ge 5, 3) := by decide +kernel
theorem dX7_passesOne_12 : decode cX7_passesOne 12 = .ok (.iconst 0, 1) := by decide +kernel
theorem dX7_passesOne_13 : decode cX7_passesOne 13 = .ok (.ireturn, 1) := by decide +kernel
theorem dX7_passesOne_14 : decode cX7_passesOne 14 = .ok (.aload_n 0, 1) := by decide +kernel
theorem dX7_passesOne_15 : decode cX7_passesOne 15 = .ok (.getfield 46, 3) := by decide +kernel
theorem dX7_passesOne_18 : decode cX7_passesOne 18 = .ok (.aload_n 0, 1) := by decide +kernel
theorem dX7_passesOne_19 : decode cX7_passesOne 19 = .ok (.getfield 179, 3) := by decide +kernel
theorem dX7_passesOne_22 : decode cX7_passesOne 22 = .ok (.aload_n 0, 1) := by decide +kernel
theorem dX7_passesOne_23 : decode cX7_passesOne 23 = .ok (.invokevirtual 170, 3) := by decide +kernel
theorem dX7_passesOne_26 : decode cX7_passesOne 26 = .ok (.iastore, 1) := by decide +kernel
theorem dX7_passesOne_27 : decode cX7_passesOne 27 = .ok (.aload_n 0, 1) := by decide +kernel
theorem dX7_passesOne_28 : decode cX7_passesOne 28 = .ok (.dup, 1) := by decide +kernel
theorem dX7_passesOne_29 : decode cX7_passesOne 29 = .ok (.getfield 167, 3) := by decide +kernel
theorem dX7_passesOne_32 : decode cX7_passesOne 32 = .ok (.iconst 1, 1) := by decide +kernel
theorem dX7_passesOne_33 : decode cX7_passesOne 33 = .ok (.iadd, 1) := by decide +kernel
theorem dX7_passesOne_34 : decode cX7_passesOne 34 = .ok (.putfield 167, 3) := by decide +kernel
theorem dX7_passesOne_37 : decode cX7_passesOne 37 = .ok (.iconst 0, 1) := by decide +kernel
theorem dX7_passesOne_38 : decode cX7_passesOne 38 = .ok (.istore_n 2, 1) := by decide +kernel
theorem dX7_passesOne_39 : decode cX7_passesOne 39 = .ok (.iload_n 2, 1) := by decide +kernel
theorem dX7_passesOne_40 : decode cX7_passesOne 40 = .ok (.iload_n 1, 1) := by decide +kernel
theorem dX7_passesOne_41 : decode cX7_passesOne 41 = .ok (.if_icmp .ge 26, 3) := by decide +kernel
theorem dX7_passesOne_44 : decode cX7_passesOne 44 = .ok (.aload_n 0, 1) := by decide +kernel
theorem dX7_passesOne_45 : decode cX7_passesOne 45 = .ok (.iconst 3, 1) := by decide +kernel
theorem dX7_passesOne_46 : decode cX7_passesOne 46 = .ok (.aload_n 0, 1) := by decide +kernel
theorem dX7_passesOne_47 : decode cX7_passesOne 47 = .ok (.getfield 179, 3) := by decide +kernel
theorem dX7_passesOne_50 : decode cX7_passesOne 50 = .ok (.imul, 1) := by decide +kernel
theorem dX7_passesOne_51 : decode cX7_passesOne 51 = .ok (.iload_n 2, 1) := by decide +kernel
theorem dX7_passesOne_52 : decode cX7_passesOne 52 = .ok (.iadd, 1) := by decide +kernel
theorem dX7_passesOne_53 : decode cX7_passesOne 53 = .ok (.invokevirtual 182, 3) := by decide +kernel
theorem dX7_passesOne_56 : decode cX7_passesOne 56 = .ok (.ifCond .ne 5, 3) := by decide +kernel
theorem dX7_passesOne_59 : decode cX7_passesOne 59 = .ok (.iconst 0, 1) := by decide +kernel
theorem dX7_passesOne_60 : decode cX7_passesOne 60 = .ok (.ireturn, 1) := by decide +kernel
theorem dX7_passesOne_61 : decode cX7_passesOne 61 = .ok (.iinc 2 1, 3) := by decide +kernel
theorem dX7_passesOne_64 : decode cX7_passesOne 64 = .ok (.goto (-25), 3) := by decide +kernel
theorem dX7_passesOne_67 : decode cX7_passesOne 67 = .ok (.aload_n 0, 1) := by decide +kernel
theorem dX7_passesOne_68 : decode cX7_passesOne 68 = .ok (.invokevirtual 173, 3) := by decide +kernel
theorem dX7_passesOne_71 : decode cX7_passesOne 71 = .ok (.aload_n 0, 1) := by decide +kernel
theorem dX7_passesOne_72 : decode cX7_passesOne 72 = .ok (.invokevirtual 170, 3) := by decide +kernel
theorem dX7_passesOne_75 : decode cX7_passesOne 75 = .ok (.bipush 59, 2) := by decide +kernel
theorem dX7_passesOne_77 : decode cX7_passesOne 77 = .ok (.if_icmp .eq 5, 3) := by decide +kernel
theorem dX7_passesOne_80 : decode cX7_passesOne 80 = .ok (.iconst 0, 1) := by decide +kernel
theorem dX7_passesOne_81 : decode cX7_passesOne 81 = .ok (.ireturn, 1) := by decide +kernel
theorem dX7_passesOne_82 : decode cX7_passesOne 82 = .ok (.aload_n 0, 1) := by decide +kernel
theorem dX7_passesOne_83 : decode cX7_passesOne 83 = .ok (.dup, 1) := by decide +kernel
theorem dX7_passesOne_84 : decode cX7_passesOne 84 = .ok (.getfield 167, 3) := by decide +kernel
theorem dX7_passesOne_87 : decode cX7_passesOne 87 = .ok (.iconst 1, 1) := by decide +kernel
theorem dX7_passesOne_88 : decode cX7_passesOne 88 = .ok (.iadd, 1) := by decide +kernel
theorem dX7_passesOne_89 : decode cX7_passesOne 89 = .ok (.putfield 167, 3) := by decide +kernel
theorem dX7_passesOne_92 : decode cX7_passesOne 92 = .ok (.aload_n 0, 1) := by decide +kernel
theorem dX7_passesOne_93 : decode cX7_passesOne 93 = .ok (.dup, 1) := by decide +kernel
theorem dX7_passesOne_94 : decode cX7_passesOne 94 = .ok (.getfield 179, 3) := by decide +kernel
theorem dX7_passesOne_97 : decode cX7_passesOne 97 = .ok (.iconst 1, 1) := by decide +kernel
theorem dX7_passesOne_98 : decode cX7_passesOne 98 = .ok (.iadd, 1) := by decide +kernel
theorem dX7_passesOne_99 : decode cX7_passesOne 99 = .ok (.putfield 179, 3) := by decide +kernel
theorem dX7_passesOne_102 : decode cX7_passesOne 102 = .ok (.aload_n 0, 1) := by decide +kernel
theorem dX7_passesOne_103 : decode cX7_passesOne 103 = .ok (.invokevirtual 173, 3) := by decide +kernel
theorem dX7_passesOne_106 : decode cX7_passesOne 106 = .ok (.iconst 1, 1) := by decide +kernel
theorem dX7_passesOne_107 : decode cX7_passesOne 107 = .ok (.ireturn, 1) := by decide +kernel
set_option maxRecDepth 20000 in
theorem ggX7_isRead_X7_blanks : GoodIn wsX7_isRead wsX7_blanks := goodIn_r _ [8, 1, 9, 10, 11, 7, 12, 3, 13, 30, 31, 32, 33, 34, 35, 36, 37, 38, 39, 40, 41, 42, 43, 44, 45, 46, 47, 48] (by decide +kernel) (by decide +kernel)
set_option maxRecDepth 20000 in
theorem gX7_isRead_X7_blanks : GoodIn wsX7_isRead (wsV RX7 173 RX7 yX7_blanks wsX7_blanks) := goodIn_app (goodIn_of _ (by decide +kernel)) ggX7_isRead_X7_blanks
set_option maxRecDepth 20000 in
theorem ggX7_isRead_X7_passesOne : GoodIn wsX7_isRead wsX7_passesOne := goodIn_r _ [17, 18, 2, 1, 9, 10, 11, 7, 12, 3, 13, 19, 20, 21, 22, 23, 24, 25, 26, 4, 5, 6, 8, 27, 28, 29, 30, 31, 32, 33, 34, 35, 36, 37, 38, 39, 40, 41, 42, 43, 44, 45, 46, 47, 48] (by decide +kernel) (by decide +kernel)
set_option maxRecDepth 20000 in
theorem gX7_isRead_X7_passesOne : GoodIn wsX7_isRead (wsV RX7 185 RX7 yX7_passesOne wsX7_passesOne) := goodIn_app (goodIn_of _ (by decide +kernel)) ggX7_isRead_X7_passesOne
theorem dX7_isRead_0 : decode cX7_isRead 0 = .ok (.aload_n 0, 1) := by decide +kernel
theorem dX7_isRead_1 : decode cX7_isRead 1 = .ok (.iconst 0, 1) := by decide +kernel
theorem dX7_isRead_2 : decode cX7_isRead 2 = .ok (.putfield 167, 3) := by decide +kernel
theorem dX7_isRead_5 : decode cX7_isRead 5 = .ok (.aload_n 0, 1) := by decide +kernel
theorem dX7_isRead_6 : decode cX7_isRead 6 = .ok (.iconst 0, 1) := by decide +kernel
theorem dX7_isRead_7 : decode cX7_isRead 7 = .ok (.putfield 179, 3) := by decide +kernel
theorem dX7_isRead_10 : decode cX7_isRead 10 = .ok (.aload_n 0, 1) := by decide +kernel
theorem dX7_isRead_11 : decode cX7_isRead 11 = .ok (.invokevirtual 173, 3) := by decide +kernel
theorem dX7_isRead_14 : decode cX7_isRead 14 = .ok (.aload_n 0, 1) := by decide +kernel
theorem dX7_isRead_15 : decode cX7_isRead 15 = .ok (.invokevirtual 185, 3) := by decide +kernel
theorem dX7_isRead_18 : decode cX7_isRead 18 = .ok (.istore_n 1, 1) := by decide +kernel
theorem dX7_isRead_19 : decode cX7_isRead 19 = .ok (.iload_n 1, 1) := by decide +kernel
theorem dX7_isRead_20 : decode cX7_isRead 20 = .ok (.ifCond .eq 22, 3) := by decide +kernel
theorem dX7_isRead_23 : decode cX7_isRead 23 = .ok (.aload_n 0, 1) := by decide +kernel
theorem dX7_isRead_24 : decode cX7_isRead 24 = .ok (.getfield 167, 3) := by decide +kernel
theorem dX7_isRead_27 : decode cX7_isRead 27 = .ok (.aload_n 0, 1) := by decide +kernel
theorem dX7_isRead_28 : decode cX7_isRead 28 = .ok (.getfield 164, 3) := by decide +kernel
theorem dX7_isRead_31 : decode cX7_isRead 31 = .ok (.if_icmp .ge 11, 3) := by decide +kernel
theorem dX7_isRead_34 : decode cX7_isRead 34 = .ok (.aload_n 0, 1) := by decide +kernel
theorem dX7_isRead_35 : decode cX7_isRead 35 = .ok (.invokevirtual 185, 3) := by decide +kernel
theorem dX7_isRead_38 : decode cX7_isRead 38 = .ok (.istore_n 1, 1) := by decide +kernel
theorem dX7_isRead_39 : decode cX7_isRead 39 = .ok (.goto (-20), 3) := by decide +kernel
theorem dX7_isRead_42 : decode cX7_isRead 42 = .ok (.iload_n 1, 1) := by decide +kernel
theorem dX7_isRead_43 : decode cX7_isRead 43 = .ok (.ireturn, 1) := by decide +kernel
set_option maxRecDepth 20000 in
theorem ggX7_isDone_X7_within : GoodIn wsX7_isDone wsX7_within := goodIn_r _ [7] (by decide +kernel) (by decide +kernel)
set_option maxRecDepth 20000 in
theorem gX7_isDone_X7_within : GoodIn wsX7_isDone (va_wsS RX7 52 yX7_within wsX7_within) := goodIn_app (goodIn_of _ (by decide +kernel)) ggX7_isDone_X7_within
set_option maxRecDepth 20000 in
theorem ggX7_isDone_X7_strips : GoodIn wsX7_isDone wsX7_strips := goodIn_r _ [11, 3, 82, 83, 84, 85, 86, 87, 88, 89, 90, 91, 92, 93, 94, 95, 96, 97, 98, 99, 100] (by decide +kernel) (by decide +kernel)
set_option maxRecDepth 20000 in
theorem gX7_isDone_X7_strips : GoodIn wsX7_isDone (wsV RX7 101 RX7 yX7_strips wsX7_strips) := goodIn_app (goodIn_of _ (by decide +kernel)) ggX7_isDone_X7_strips
set_option maxRecDepth 20000 in
theorem ggX7_isDone_X7_mayBend : GoodIn wsX7_isDone wsX7_mayBend := goodIn_r _ [15, 4, 5, 6, 7] (by decide +kernel) (by decide +kernel)
set_option maxRecDepth 20000 in
theorem gX7_isDone_X7_mayBend : GoodIn wsX7_isDone (wsV RX7 104 RX7 yX7_mayBend wsX7_mayBend) := goodIn_app (goodIn_of _ (by decide +kernel)) ggX7_isDone_X7_mayBend
set_option maxRecDepth 20000 in
theorem ggX7_isDone_X7_adds : GoodIn wsX7_isDone wsX7_adds := goodIn_r _ [19, 3, 82, 83, 84, 85, 86, 87, 88, 89, 90, 91, 92, 93, 94, 95, 96, 97, 98, 99, 100] (by decide +kernel) (by decide +kernel)
set_option maxRecDepth 20000 in
theorem gX7_isDone_X7_adds : GoodIn wsX7_isDone (wsV RX7 107 RX7 yX7_adds wsX7_adds) := goodIn_app (goodIn_of _ (by decide +kernel)) ggX7_isDone_X7_adds
set_option maxRecDepth 20000 in
theorem ggX7_isDone_X7_isBend : GoodIn wsX7_isDone wsX7_isBend := goodIn_r _ [23, 3, 4, 5, 6, 7, 82, 83, 84, 85, 86, 87, 88, 89, 90, 91, 92, 93, 94, 95, 96, 97, 98, 99, 100] (by decide +kernel) (by decide +kernel)
set_option maxRecDepth 20000 in
theorem gX7_isDone_X7_isBend : GoodIn wsX7_isDone (wsV RX7 123 RX7 yX7_isBend wsX7_isBend) := goodIn_app (goodIn_of _ (by decide +kernel)) ggX7_isDone_X7_isBend
set_option maxRecDepth 20000 in
theorem ggX7_isDone_X7_isFree : GoodIn wsX7_isDone wsX7_isFree := goodIn_r _ [27, 28, 29, 6, 30, 31, 32, 33, 34, 3, 35, 36, 37, 38, 39, 40, 41, 42, 43, 44, 45, 46, 47, 48, 49, 50, 51, 52, 53, 54, 55, 56, 57, 58, 59, 60, 61, 62, 63, 64, 65, 82, 83, 84, 85, 86, 87, 88, 89, 90, 91, 92, 93, 94, 95, 96, 97, 98, 99, 100] (by decide +kernel) (by decide +kernel)
set_option maxRecDepth 20000 in
theorem gX7_isDone_X7_isFree : GoodIn wsX7_isDone (wsV RX7 127 RX7 yX7_isFree wsX7_isFree) := goodIn_app (goodIn_of _ (by decide +kernel)) ggX7_isDone_X7_isFree
set_option maxRecDepth 20000 in
theorem ggX7_isDone_X7_has : GoodIn wsX7_isDone wsX7_has := goodIn_r _ [30] (by decide +kernel) (by decide +kernel)
set_option maxRecDepth 20000 in
theorem gX7_isDone_X7_has : GoodIn wsX7_isDone (va_wsS RX7 70 yX7_has wsX7_has) := goodIn_app (goodIn_of _ (by decide +kernel)) ggX7_isDone_X7_has
set_option maxRecDepth 20000 in
theorem ggX7_isDone_X7_mayPress : GoodIn wsX7_isDone wsX7_mayPress := goodIn_r _ [69, 4, 5, 6, 7] (by decide +kernel) (by decide +kernel)
set_option maxRecDepth 20000 in
theorem gX7_isDone_X7_mayPress : GoodIn wsX7_isDone (wsV RX7 111 RX7 yX7_mayPress wsX7_mayPress) := goodIn_app (goodIn_of _ (by decide +kernel)) ggX7_isDone_X7_mayPress
set_option maxRecDepth 20000 in
theorem ggX7_isDone_X7_presses : GoodIn wsX7_isDone wsX7_presses := goodIn_r _ [73, 3, 82, 83, 84, 85, 86, 87, 88, 89, 90, 91, 92, 93, 94, 95, 96, 97, 98, 99, 100] (by decide +kernel) (by decide +kernel)
set_option maxRecDepth 20000 in
theorem gX7_isDone_X7_presses : GoodIn wsX7_isDone (wsV RX7 114 RX7 yX7_presses wsX7_presses) := goodIn_app (goodIn_of _ (by decide +kernel)) ggX7_isDone_X7_presses
set_option maxRecDepth 20000 in
theorem ggX7_isDone_X7_mayTake : GoodIn wsX7_isDone wsX7_mayTake := goodIn_r _ [77, 4, 5, 6, 7] (by decide +kernel) (by decide +kernel)
set_option maxRecDepth 20000 in
theorem gX7_isDone_X7_mayTake : GoodIn wsX7_isDone (wsV RX7 117 RX7 yX7_mayTake wsX7_mayTake) := goodIn_app (goodIn_of _ (by decide +kernel)) ggX7_isDone_X7_mayTake
set_option maxRecDepth 20000 in
theorem ggX7_isDone_X7_takesNow : GoodIn wsX7_isDone wsX7_takesNow := goodIn_r _ [81, 3, 82, 83, 84, 85, 86, 87, 88, 89, 90, 91, 92, 93, 94, 95, 96, 97, 98, 99, 100] (by decide +kernel) (by decide +kernel)
set_option maxRecDepth 20000 in
theorem gX7_isDone_X7_takesNow : GoodIn wsX7_isDone (wsV RX7 120 RX7 yX7_takesNow wsX7_takesNow) := goodIn_app (goodIn_of _ (by decide +kernel)) ggX7_isDone_X7_takesNow
theorem dX7_isDone_0 : decode cX7_isDone 0 = .ok (.aload_n 0, 1) := by decide +kernel
theorem dX7_isDone_1 : decode cX7_isDone 1 = .ok (.getfield 49, 3) := by decide +kernel
theorem dX7_isDone_4 : decode cX7_isDone 4 = .ok (.iconst 3, 1) := by decide +kernel
theorem dX7_isDone_5 : decode cX7_isDone 5 = .ok (.iload_n 1, 1) := by decide +kernel
theorem dX7_isDone_6 : decode cX7_isDone 6 = .ok (.imul, 1) := by decide +kernel
theorem dX7_isDone_7 : decode cX7_isDone 7 = .ok (.iaload, 1) := by decide +kernel
theorem dX7_isDone_8 : decode cX7_isDone 8 = .ok (.istore_n 2, 1) := by decide +kernel
theorem dX7_isDone_9 : decode cX7_isDone 9 = .ok (.aload_n 0, 1) := by decide +kernel
theorem dX7_isDone_10 : decode cX7_isDone 10 = .ok (.getfield 49, 3) := by decide +kernel
theorem dX7_isDone_13 : decode cX7_isDone 13 = .ok (.iconst 3, 1) := by decide +kernel
theorem dX7_isDone_14 : decode cX7_isDone 14 = .ok (.iload_n 1, 1) := by decide +kernel
theorem dX7_isDone_15 : decode cX7_isDone 15 = .ok (.imul, 1) := by decide +kernel
theorem dX7_isDone_16 : decode cX7_isDone 16 = .ok (.iconst 1, 1) := by decide +kernel
theorem dX7_isDone_17 : decode cX7_isDone 17 = .ok (.iadd, 1) := by decide +kernel
theorem dX7_isDone_18 : decode cX7_isDone 18 = .ok (.iaload, 1) := by decide +kernel
theorem dX7_isDone_19 : decode cX7_isDone 19 = .ok (.istore_n 3, 1) := by decide +kernel
theorem dX7_isDone_20 : decode cX7_isDone 20 = .ok (.aload_n 0, 1) := by decide +kernel
theorem dX7_isDone_21 : decode cX7_isDone 21 = .ok (.getfield 49, 3) := by decide +kernel
theorem dX7_isDone_24 : decode cX7_isDone 24 = .ok (.iconst 3, 1) := by decide +kernel
theorem dX7_isDone_25 : decode cX7_isDone 25 = .ok (.iload_n 1, 1) := by decide +kernel
theorem dX7_isDone_26 : decode cX7_isDone 26 = .ok (.imul, 1) := by decide +kernel
theorem dX7_isDone_27 : decode cX7_isDone 27 = .ok (.iconst 2, 1) := by decide +kernel
theorem dX7_isDone_28 : decode cX7_isDone 28 = .ok (.iadd, 1) := by decide +kernel
theorem dX7_isDone_29 : decode cX7_isDone 29 = .ok (.iaload, 1) := by decide +kernel
theorem dX7_isDone_30 : decode cX7_isDone 30 = .ok (.istore 4, 2) := by decide +kernel
theorem dX7_isDone_32 : decode cX7_isDone 32 = .ok (.iload_n 3, 1) := by decide +kernel
theorem dX7_isDone_33 : decode cX7_isDone 33 = .ok (.ifCond .ne 7, 3) := by decide +kernel
theorem dX7_isDone_36 : decode cX7_isDone 36 = .ok (.iconst 1, 1) := by decide +kernel
theorem dX7_isDone_37 : decode cX7_isDone 37 = .ok (.goto 13, 3) := by decide +kernel
theorem dX7_isDone_40 : decode cX7_isDone 40 = .ok (.iload_n 3, 1) := by decide +kernel
theorem dX7_isDone_41 : decode cX7_isDone 41 = .ok (.iconst 1, 1) := by decide +kernel
theorem dX7_isDone_42 : decode cX7_isDone 42 = .ok (.if_icmp .ne 7, 3) := by decide +kernel
theorem dX7_isDone_45 : decode cX7_isDone 45 = .ok (.iconst (-1), 1) := by decide +kernel
theorem dX7_isDone_46 : decode cX7_isDone 46 = .ok (.goto 4, 3) := by decide +kernel
theorem dX7_isDone_49 : decode cX7_isDone 49 = .ok (.iconst 0, 1) := by decide +kernel
theorem dX7_isDone_50 : decode cX7_isDone 50 = .ok (.istore 5, 2) := by decide +kernel
theorem dX7_isDone_52 : decode cX7_isDone 52 = .ok (.aload_n 0, 1) := by decide +kernel
theorem dX7_isDone_53 : decode cX7_isDone 53 = .ok (.getfield 46, 3) := by decide +kernel
theorem dX7_isDone_56 : decode cX7_isDone 56 = .ok (.iload_n 1, 1) := by decide +kernel
theorem dX7_isDone_57 : decode cX7_isDone 57 = .ok (.iaload, 1) := by decide +kernel
theorem dX7_isDone_58 : decode cX7_isDone 58 = .ok (.tableswitch 322 98 117 #[117, 322, 322, 322, 322, 322, 322, 322, 322, 299, 322, 165, 322, 322, 276, 322, 322, 94, 322, 220], 94) := by decide +kernel
theorem dX7_isDone_152 : decode cX7_isDone 152 = .ok (.iload_n 2, 1) := by decide +kernel
theorem dX7_isDone_153 : decode cX7_isDone 153 = .ok (.iconst 1, 1) := by decide +kernel
theorem dX7_isDone_154 : decode cX7_isDone 154 = .ok (.bipush 20, 2) := by decide +kernel
theorem dX7_isDone_156 : decode cX7_isDone 156 = .ok (.invokestatic 52, 3) := by decide +kernel
theorem dX7_isDone_159 : decode cX7_isDone 159 = .ok (.istore 6, 2) := by decide +kernel
theorem dX7_isDone_161 : decode cX7_isDone 161 = .ok (.iload 6, 2) := by decide +kernel
theorem dX7_isDone_163 : decode cX7_isDone 163 = .ok (.ifCond .eq 9, 3) := by decide +kernel
theorem dX7_isDone_166 : decode cX7_isDone 166 = .ok (.aload_n 0, 1) := by decide +kernel
theorem dX7_isDone_167 : decode cX7_isDone 167 = .ok (.iload_n 2, 1) := by decide +kernel
theorem dX7_isDone_168 : decode cX7_isDone 168 = .ok (.invokevirtual 101, 3) := by decide +kernel
theorem dX7_isDone_171 : decode cX7_isDone 171 = .ok (.pop, 1) := by decide +kernel
theorem dX7_isDone_172 : decode cX7_isDone 172 = .ok (.iload 6, 2) := by decide +kernel
theorem dX7_isDone_174 : decode cX7_isDone 174 = .ok (.ireturn, 1) := by decide +kernel
theorem dX7_isDone_175 : decode cX7_isDone 175 = .ok (.aload_n 0, 1) := by decide +kernel
theorem dX7_isDone_176 : decode cX7_isDone 176 = .ok (.iload_n 2, 1) := by decide +kernel
theorem dX7_isDone_177 : decode cX7_isDone 177 = .ok (.iload 5, 2) := by decide +kernel
theorem dX7_isDone_179 : decode cX7_isDone 179 = .ok (.iload 4, 2) := by decide +kernel
theorem dX7_isDone_181 : decode cX7_isDone 181 = .ok (.invokevirtual 104, 3) := by decide +kernel
theorem dX7_isDone_184 : decode cX7_isDone 184 = .ok (.ifCond .eq 18, 3) := by decide +kernel
theorem dX7_isDone_187 : decode cX7_isDone 187 = .ok (.aload_n 0, 1) := by decide +kernel
theorem dX7_isDone_188 : decode cX7_isDone 188 = .ok (.getfield 7, 3) := by decide +kernel
theorem dX7_isDone_191 : decode cX7_isDone 191 = .ok (.iconst 0, 1) := by decide +kernel
theorem dX7_isDone_192 : decode cX7_isDone 192 = .ok (.iaload, 1) := by decide +kernel
theorem dX7_isDone_193 : decode cX7_isDone 193 = .ok (.bipush 6, 2) := by decide +kernel
theorem dX7_isDone_195 : decode cX7_isDone 195 = .ok (.if_icmp .ge 7, 3) := by decide +kernel
theorem dX7_isDone_198 : decode cX7_isDone 198 = .ok (.iconst 1, 1) := by decide +kernel
theorem dX7_isDone_199 : decode cX7_isDone 199 = .ok (.goto 4, 3) := by decide +kernel
theorem dX7_isDone_202 : decode cX7_isDone 202 = .ok (.iconst 0, 1) := by decide +kernel
theorem dX7_isDone_203 : decode cX7_isDone 203 = .ok (.istore 6, 2) := by decide +kernel
theorem dX7_isDone_205 : decode cX7_isDone 205 = .ok (.iload 6, 2) := by decide +kernel
theorem dX7_isDone_207 : decode cX7_isDone 207 = .ok (.ifCond .eq 13, 3) := by decide +kernel
theorem dX7_isDone_210 : decode cX7_isDone 210 = .ok (.aload_n 0, 1) := by decide +kernel
theorem dX7_isDone_211 : decode cX7_isDone 211 = .ok (.iload_n 2, 1) := by decide +kernel
theorem dX7_isDone_212 : decode cX7_isDone 212 = .ok (.iload 5, 2) := by decide +kernel
theorem dX7_isDone_214 : decode cX7_isDone 214 = .ok (.iload 4, 2) := by decide +kernel
theorem dX7_isDone_216 : decode cX7_isDone 216 = .ok (.invokevirtual 107, 3) := by decide +kernel
theorem dX7_isDone_219 : decode cX7_isDone 219 = .ok (.pop, 1) := by decide +kernel
theorem dX7_isDone_220 : decode cX7_isDone 220 = .ok (.iload 6, 2) := by decide +kernel
theorem dX7_isDone_222 : decode cX7_isDone 222 = .ok (.ireturn, 1) := by decide +kernel
theorem dX7_isDone_223 : decode cX7_isDone 223 = .ok (.aload_n 0, 1) := by decide +kernel
theorem dX7_isDone_224 : decode cX7_isDone 224 = .ok (.iload_n 2, 1) := by decide +kernel
theorem dX7_isDone_225 : decode cX7_isDone 225 = .ok (.invokevirtual 123, 3) := by decide +kernel
theorem dX7_isDone_228 : decode cX7_isDone 228 = .ok (.ifCond .eq 22, 3) := by decide +kernel
theorem dX7_isDone_231 : decode cX7_isDone 231 = .ok (.aload_n 0, 1) := by decide +kernel
theorem dX7_isDone_232 : decode cX7_isDone 232 = .ok (.iload_n 2, 1) := by decide +kernel
theorem dX7_isDone_233 : decode cX7_isDone 233 = .ok (.aload_n 0, 1) := by decide +kernel
theorem dX7_isDone_234 : decode cX7_isDone 234 = .ok (.getfield 7, 3) := by decide +kernel
theorem dX7_isDone_237 : decode cX7_isDone 237 = .ok (.bipush 20, 2) := by decide +kernel
theorem dX7_isDone_239 : decode cX7_isDone 239 = .ok (.iaload, 1) := by decide +kernel
theorem dX7_isDone_240 : decode cX7_isDone 240 = .ok (.invokevirtual 127, 3) := by decide +kernel
theorem dX7_isDone_243 : decode cX7_isDone 243 = .ok (.ifCond .eq 7, 3) := by decide +kernel
theorem dX7_isDone_246 : decode cX7_isDone 246 = .ok (.iconst 1, 1) := by decide +kernel
theorem dX7_isDone_247 : decode cX7_isDone 247 = .ok (.goto 4, 3) := by decide +kernel
theorem dX7_isDone_250 : decode cX7_isDone 250 = .ok (.iconst 0, 1) := by decide +kernel
theorem dX7_isDone_251 : decode cX7_isDone 251 = .ok (.istore 6, 2) := by decide +kernel
theorem dX7_isDone_253 : decode cX7_isDone 253 = .ok (.aload_n 0, 1) := by decide +kernel
theorem dX7_isDone_254 : decode cX7_isDone 254 = .ok (.getfield 7, 3) := by decide +kernel
theorem dX7_isDone_257 : decode cX7_isDone 257 = .ok (.bipush 20, 2) := by decide +kernel
theorem dX7_isDone_259 : decode cX7_isDone 259 = .ok (.dup2, 1) := by decide +kernel
theorem dX7_isDone_260 : decode cX7_isDone 260 = .ok (.iaload, 1) := by decide +kernel
theorem dX7_isDone_261 : decode cX7_isDone 261 = .ok (.iload 6, 2) := by decide +kernel
theorem dX7_isDone_263 : decode cX7_isDone 263 = .ok (.ifCond .eq 9, 3) := by decide +kernel
theorem dX7_isDone_266 : decode cX7_isDone 266 = .ok (.iconst 1, 1) := by decide +kernel
theorem dX7_isDone_267 : decode cX7_isDone 267 = .ok (.iload_n 2, 1) := by decide +kernel
theorem dX7_isDone_268 : decode cX7_isDone 268 = .ok (.ishl, 1) := by decide +kernel
theorem dX7_isDone_269 : decode cX7_isDone 269 = .ok (.goto 4, 3) := by decide +kernel
theorem dX7_isDone_272 : decode cX7_isDone 272 = .ok (.iconst 0, 1) := by decide +kernel
theorem dX7_isDone_273 : decode cX7_isDone 273 = .ok (.ior, 1) := by decide +kernel
theorem dX7_isDone_274 : decode cX7_isDone 274 = .ok (.iastore, 1) := by decide +kernel
theorem dX7_isDone_275 : decode cX7_isDone 275 = .ok (.iload 6, 2) := by decide +kernel
theorem dX7_isDone_277 : decode cX7_isDone 277 = .ok (.ireturn, 1) := by decide +kernel
theorem dX7_isDone_278 : decode cX7_isDone 278 = .ok (.aload_n 0, 1) := by decide +kernel
theorem dX7_isDone_279 : decode cX7_isDone 279 = .ok (.iload_n 2, 1) := by decide +kernel
theorem dX7_isDone_280 : decode cX7_isDone 280 = .ok (.invokevirtual 123, 3) := by decide +kernel
theorem dX7_isDone_283 : decode cX7_isDone 283 = .ok (.ifCond .eq 21, 3) := by decide +kernel
theorem dX7_isDone_286 : decode cX7_isDone 286 = .ok (.aload_n 0, 1) := by decide +kernel
theorem dX7_isDone_287 : decode cX7_isDone 287 = .ok (.getfield 7, 3) := by decide +kernel
theorem dX7_isDone_290 : decode cX7_isDone 290 = .ok (.bipush 20, 2) := by decide +kernel
theorem dX7_isDone_292 : decode cX7_isDone 292 = .ok (.iaload, 1) := by decide +kernel
theorem dX7_isDone_293 : decode cX7_isDone 293 = .ok (.iload_n 2, 1) := by decide +kernel
theorem dX7_isDone_294 : decode cX7_isDone 294 = .ok (.invokestatic 70, 3) := by decide +kernel
theorem dX7_isDone_297 : decode cX7_isDone 297 = .ok (.ifCond .eq 7, 3) := by decide +kernel
theorem dX7_isDone_300 : decode cX7_isDone 300 = .ok (.iconst 1, 1) := by decide +kernel
theorem dX7_isDone_301 : decode cX7_isDone 301 = .ok (.goto 4, 3) := by decide +kernel
theorem dX7_isDone_304 : decode cX7_isDone 304 = .ok (.iconst 0, 1) := by decide +kernel
theorem dX7_isDone_305 : decode cX7_isDone 305 = .ok (.istore 6, 2) := by decide +kernel
theorem dX7_isDone_307 : decode cX7_isDone 307 = .ok (.aload_n 0, 1) := by decide +kernel
theorem dX7_isDone_308 : decode cX7_isDone 308 = .ok (.getfield 7, 3) := by decide +kernel
theorem dX7_isDone_311 : decode cX7_isDone 311 = .ok (.bipush 20, 2) := by decide +kernel
theorem dX7_isDone_313 : decode cX7_isDone 313 = .ok (.dup2, 1) := by decide +kernel
theorem dX7_isDone_314 : decode cX7_isDone 314 = .ok (.iaload, 1) := by decide +kernel
theorem dX7_isDone_315 : decode cX7_isDone 315 = .ok (.iload 6, 2) := by decide +kernel
theorem dX7_isDone_317 : decode cX7_isDone 317 = .ok (.ifCond .eq 11, 3) := by decide +kernel
theorem dX7_isDone_320 : decode cX7_isDone 320 = .ok (.iconst 1, 1) := by decide +kernel
theorem dX7_isDone_321 : decode cX7_isDone 321 = .ok (.iload_n 2, 1) := by decide +kernel
theorem dX7_isDone_322 : decode cX7_isDone 322 = .ok (.ishl, 1) := by decide +kernel
theorem dX7_isDone_323 : decode cX7_isDone 323 = .ok (.iconst (-1), 1) := by decide +kernel
theorem dX7_isDone_324 : decode cX7_isDone 324 = .ok (.ixor, 1) := by decide +kernel
theorem dX7_isDone_325 : decode cX7_isDone 325 = .ok (.goto 4, 3) := by decide +kernel
theorem dX7_isDone_328 : decode cX7_isDone 328 = .ok (.iconst (-1), 1) := by decide +kernel
theorem dX7_isDone_329 : decode cX7_isDone 329 = .ok (.iand, 1) := by decide +kernel
theorem dX7_isDone_330 : decode cX7_isDone 330 = .ok (.iastore, 1) := by decide +kernel
theorem dX7_isDone_331 : decode cX7_isDone 331 = .ok (.iload 6, 2) := by decide +kernel
theorem dX7_isDone_333 : decode cX7_isDone 333 = .ok (.ireturn, 1) := by decide +kernel
theorem dX7_isDone_334 : decode cX7_isDone 334 = .ok (.aload_n 0, 1) := by decide +kernel
theorem dX7_isDone_335 : decode cX7_isDone 335 = .ok (.iload_n 2, 1) := by decide +kernel
theorem dX7_isDone_336 : decode cX7_isDone 336 = .ok (.iload_n 3, 1) := by decide +kernel
theorem dX7_isDone_337 : decode cX7_isDone 337 = .ok (.invokevirtual 111, 3) := by decide +kernel
theorem dX7_isDone_340 : decode cX7_isDone 340 = .ok (.istore 6, 2) := by decide +kernel
theorem dX7_isDone_342 : decode cX7_isDone 342 = .ok (.iload 6, 2) := by decide +kernel
theorem dX7_isDone_344 : decode cX7_isDone 344 = .ok (.ifCond .eq 10, 3) := by decide +kernel
theorem dX7_isDone_347 : decode cX7_isDone 347 = .ok (.aload_n 0, 1) := by decide +kernel
theorem dX7_isDone_348 : decode cX7_isDone 348 = .ok (.iload_n 2, 1) := by decide +kernel
theorem dX7_isDone_349 : decode cX7_isDone 349 = .ok (.iload_n 3, 1) := by decide +kernel
theorem dX7_isDone_350 : decode cX7_isDone 350 = .ok (.invokevirtual 114, 3) := by decide +kernel
theorem dX7_isDone_353 : decode cX7_isDone 353 = .ok (.pop, 1) := by decide +kernel
theorem dX7_isDone_354 : decode cX7_isDone 354 = .ok (.iload 6, 2) := by decide +kernel
theorem dX7_isDone_356 : decode cX7_isDone 356 = .ok (.ireturn, 1) := by decide +kernel
theorem dX7_isDone_357 : decode cX7_isDone 357 = .ok (.aload_n 0, 1) := by decide +kernel
theorem dX7_isDone_358 : decode cX7_isDone 358 = .ok (.iload_n 2, 1) := by decide +kernel
theorem dX7_isDone_359 : decode cX7_isDone 359 = .ok (.iload_n 3, 1) := by decide +kernel
theorem dX7_isDone_360 : decode cX7_isDone 360 = .ok (.invokevirtual 117, 3) := by decide +kernel
theorem dX7_isDone_363 : decode cX7_isDone 363 = .ok (.istore 6, 2) := by decide +kernel
theorem dX7_isDone_365 : decode cX7_isDone 365 = .ok (.iload 6, 2) := by decide +kernel
theorem dX7_isDone_367 : decode cX7_isDone 367 = .ok (.ifCond .eq 10, 3) := by decide +kernel
theorem dX7_isDone_370 : decode cX7_isDone 370 = .ok (.aload_n 0, 1) := by decide +kernel
theorem dX7_isDone_371 : decode cX7_isDone 371 = .ok (.iload_n 2, 1) := by decide +kernel
theorem dX7_isDone_372 : decode cX7_isDone 372 = .ok (.iload_n 3, 1) := by decide +kernel
theorem dX7_isDone_373 : decode cX7_isDone 373 = .ok (.invokevirtual 120, 3) := by decide +kernel
theorem dX7_isDone_376 : decode cX7_isDone 376 = .ok (.pop, 1) := by decide +kernel
theorem dX7_isDone_377 : decode cX7_isDone 377 = .ok (.iload 6, 2) := by decide +kernel
theorem dX7_isDone_379 : decode cX7_isDone 379 = .ok (.ireturn, 1) := by decide +kernel
theorem dX7_isDone_380 : decode cX7_isDone 380 = .ok (.aload_n 0, 1) := by decide +kernel
theorem dX7_isDone_381 : decode cX7_isDone 381 = .ok (.getfield 7, 3) := by decide +kernel
theorem dX7_isDone_384 : decode cX7_isDone 384 = .ok (.bipush 20, 2) := by decide +kernel
theorem dX7_isDone_386 : decode cX7_isDone 386 = .ok (.iconst 0, 1) := by decide +kernel
theorem dX7_isDone_387 : decode cX7_isDone 387 = .ok (.iastore, 1) := by decide +kernel
theorem dX7_isDone_388 : decode cX7_isDone 388 = .ok (.iconst 1, 1) := by decide +kernel
theorem dX7_isDone_389 : decode cX7_isDone 389 = .ok (.ireturn, 1) := by decide +kernel
theorem dX7_changesAside_0 : decode cX7_changesAside 0 = .ok (.iconst 0, 1) := by decide +kernel
theorem dX7_changesAside_1 : decode cX7_changesAside 1 = .ok (.istore_n 1, 1) := by decide +kernel
theorem dX7_changesAside_2 : decode cX7_changesAside 2 = .ok (.iload_n 1, 1) := by decide +kernel
theorem dX7_changesAside_3 : decode cX7_changesAside 3 = .ok (.bipush 26, 2) := by decide +kernel
theorem dX7_changesAside_5 : decode cX7_changesAside 5 = .ok (.if_icmp .ge 35, 3) := by decide +kernel
theorem dX7_changesAside_8 : decode cX7_changesAside 8 = .ok (.aload_n 0, 1) := by decide +kernel
theorem dX7_changesAside_9 : decode cX7_changesAside 9 = .ok (.getfield 7, 3) := by decide +kernel
theorem dX7_changesAside_12 : decode cX7_changesAside 12 = .ok (.iload_n 1, 1) := by decide +kernel
theorem dX7_changesAside_13 : decode cX7_changesAside 13 = .ok (.iaload, 1) := by decide +kernel
theorem dX7_changesAside_14 : decode cX7_changesAside 14 = .ok (.istore_n 2, 1) := by decide +kernel
theorem dX7_changesAside_15 : decode cX7_changesAside 15 = .ok (.aload_n 0, 1) := by decide +kernel
theorem dX7_changesAside_16 : decode cX7_changesAside 16 = .ok (.getfield 7, 3) := by decide +kernel
theorem dX7_changesAside_19 : decode cX7_changesAside 19 = .ok (.iload_n 1, 1) := by decide +kernel
theorem dX7_changesAside_20 : decode cX7_changesAside 20 = .ok (.aload_n 0, 1) := by decide +kernel
theorem dX7_changesAside_21 : decode cX7_changesAside 21 = .ok (.getfield 13, 3) := by decide +kernel
theorem dX7_changesAside_24 : decode cX7_changesAside 24 = .ok (.iload_n 1, 1) := by decide +kernel
theorem dX7_changesAside_25 : decode cX7_changesAside 25 = .ok (.iaload, 1) := by decide +kernel
theorem dX7_changesAside_26 : decode cX7_changesAside 26 = .ok (.iastore, 1) := by decide +kernel
theorem dX7_changesAside_27 : decode cX7_changesAside 27 = .ok (.aload_n 0, 1) := by decide +kernel
theorem dX7_changesAside_28 : decode cX7_changesAside 28 = .ok (.getfield 13, 3) := by decide +kernel
theorem dX7_changesAside_31 : decode cX7_changesAside 31 = .ok (.iload_n 1, 1) := by decide +kernel
theorem dX7_changesAside_32 : decode cX7_changesAside 32 = .ok (.iload_n 2, 1) := by decide +kernel
theorem dX7_changesAside_33 : decode cX7_changesAside 33 = .ok (.iastore, 1) := by decide +kernel
theorem dX7_changesAside_34 : decode cX7_changesAside 34 = .ok (.iinc 1 1, 3) := by decide +kernel
theorem dX7_changesAside_37 : decode cX7_changesAside 37 = .ok (.goto (-35), 3) := by decide +kernel
theorem dX7_changesAside_40 : decode cX7_changesAside 40 = .ok (.return_, 1) := by decide +kernel
set_option maxRecDepth 20000 in
theorem ggX7_does_X7_isRead : GoodIn wsX7_does wsX7_isRead := goodIn_r _ [9, 1, 4, 10, 11, 12, 13, 8, 14, 15, 16, 17, 18, 19, 20, 21, 22, 23, 24, 25, 26, 27, 28, 29, 30, 31, 32, 33, 34, 35, 124, 125, 126, 127, 128, 129, 130, 131, 132, 133, 134, 135, 136, 137, 138, 139, 140, 141, 142] (by decide +kernel) (by decide +kernel)
set_option maxRecDepth 20000 in
theorem gX7_does_X7_isRead : GoodIn wsX7_does (wsV RX7 189 RX7 yX7_isRead wsX7_isRead) := goodIn_app (goodIn_of _ (by decide +kernel)) ggX7_does_X7_isRead
set_option maxRecDepth 20000 in
theorem ggX7_does_X7_isDone : GoodIn wsX7_does wsX7_isDone := goodIn_r _ [39, 32, 24, 3, 33, 34, 8, 35, 40, 41, 42, 43, 44, 45, 46, 47, 48, 49, 50, 51, 52, 53, 54, 55, 56, 57, 58, 59, 60, 61, 62, 63, 64, 65, 66, 67, 68, 69, 70, 71, 72, 73, 74, 75, 76, 77, 78, 79, 80, 81, 82, 83, 84, 85, 86, 87, 88, 89, 90, 91, 92, 93, 94, 95, 96, 97, 98, 99, 100, 101, 102, 103, 104, 105, 106, 107, 108, 109, 110, 111, 112, 113, 124, 125, 126, 127, 128, 129, 130, 131, 132, 133, 134, 135, 136, 137, 138, 139, 140, 141, 142] (by decide +kernel) (by decide +kernel)
set_option maxRecDepth 20000 in
theorem gX7_does_X7_isDone : GoodIn wsX7_does (wsV RX7 192 RX7 yX7_isDone wsX7_isDone) := goodIn_app (goodIn_of _ (by decide +kernel)) ggX7_does_X7_isDone
set_option maxRecDepth 20000 in
theorem ggX7_does_X7_changesAside : GoodIn wsX7_does wsX7_changesAside := goodIn_r _ [117, 3, 2, 124, 125, 126, 127, 128, 129, 130, 131, 132, 133, 134, 135, 136, 137, 138, 139, 140, 141, 142] (by decide +kernel) (by decide +kernel)
set_option maxRecDepth 20000 in
theorem gX7_does_X7_changesAside : GoodIn wsX7_does (wsV RX7 195 RX7 yX7_changesAside wsX7_changesAside) := goodIn_app (goodIn_of _ (by decide +kernel)) ggX7_does_X7_changesAside
set_option maxRecDepth 20000 in
theorem ggX7_does_X7_leaves : GoodIn wsX7_does wsX7_leaves := goodIn_r _ [121, 122, 123, 3, 124, 125, 126, 127, 128, 129, 130, 131, 132, 133, 134, 135, 136, 137, 138, 139, 140, 141, 142] (by decide +kernel) (by decide +kernel)
set_option maxRecDepth 20000 in
theorem gX7_does_X7_leaves : GoodIn wsX7_does (wsV RX7 98 RX7 yX7_leaves wsX7_leaves) := goodIn_app (goodIn_of _ (by decide +kernel)) ggX7_does_X7_leaves
theorem dX7_does_0 : decode cX7_does 0 = .ok (.aload_n 0, 1) := by decide +kernel
theorem dX7_does_1 : decode cX7_does 1 = .ok (.invokevirtual 189, 3) := by decide +kernel
theorem dX7_does_4 : decode cX7_does 4 = .ok (.ifCond .ne 11, 3) := by decide +kernel
theorem dX7_does_7 : decode cX7_does 7 = .ok (.bipush (-10), 2) := by decide +kernel
theorem dX7_does_9 : decode cX7_does 9 = .ok (.aload_n 0, 1) := by decide +kernel
theorem dX7_does_10 : decode cX7_does 10 = .ok (.getfield 167, 3) := by decide +kernel
theorem dX7_does_13 : decode cX7_does 13 = .ok (.isub, 1) := by decide +kernel
theorem dX7_does_14 : decode cX7_does 14 = .ok (.ireturn, 1) := by decide +kernel
theorem dX7_does_15 : decode cX7_does 15 = .ok (.iconst 0, 1) := by decide +kernel
theorem dX7_does_16 : decode cX7_does 16 = .ok (.istore_n 1, 1) := by decide +kernel
theorem dX7_does_17 : decode cX7_does 17 = .ok (.iload_n 1, 1) := by decide +kernel
theorem dX7_does_18 : decode cX7_does 18 = .ok (.bipush 26, 2) := by decide +kernel
theorem dX7_does_20 : decode cX7_does 20 = .ok (.if_icmp .ge 21, 3) := by decide +kernel
theorem dX7_does_23 : decode cX7_does 23 = .ok (.aload_n 0, 1) := by decide +kernel
theorem dX7_does_24 : decode cX7_does 24 = .ok (.getfield 13, 3) := by decide +kernel
theorem dX7_does_27 : decode cX7_does 27 = .ok (.iload_n 1, 1) := by decide +kernel
theorem dX7_does_28 : decode cX7_does 28 = .ok (.aload_n 0, 1) := by decide +kernel
theorem dX7_does_29 : decode cX7_does 29 = .ok (.getfield 7, 3) := by decide +kernel
theorem dX7_does_32 : decode cX7_does 32 = .ok (.iload_n 1, 1) := by decide +kernel
theorem dX7_does_33 : decode cX7_does 33 = .ok (.iaload, 1) := by decide +kernel
theorem dX7_does_34 : decode cX7_does 34 = .ok (.iastore, 1) := by decide +kernel
theorem dX7_does_35 : decode cX7_does 35 = .ok (.iinc 1 1, 3) := by decide +kernel
theorem dX7_does_38 : decode cX7_does 38 = .ok (.goto (-21), 3) := by decide +kernel
theorem dX7_does_41 : decode cX7_does 41 = .ok (.iconst 0, 1) := by decide +kernel
theorem dX7_does_42 : decode cX7_does 42 = .ok (.istore_n 1, 1) := by decide +kernel
theorem dX7_does_43 : decode cX7_does 43 = .ok (.iload_n 1, 1) := by decide +kernel
theorem dX7_does_44 : decode cX7_does 44 = .ok (.aload_n 0, 1) := by decide +kernel
theorem dX7_does_45 : decode cX7_does 45 = .ok (.getfield 179, 3) := by decide +kernel
theorem dX7_does_48 : decode cX7_does 48 = .ok (.if_icmp .ge 17, 3) := by decide +kernel
theorem dX7_does_51 : decode cX7_does 51 = .ok (.aload_n 0, 1) := by decide +kernel
theorem dX7_does_52 : decode cX7_does 52 = .ok (.iload_n 1, 1) := by decide +kernel
theorem dX7_does_53 : decode cX7_does 53 = .ok (.invokevirtual 192, 3) := by decide +kernel
theorem dX7_does_56 : decode cX7_does 56 = .ok (.ifCond .eq 9, 3) := by decide +kernel
theorem dX7_does_59 : decode cX7_does 59 = .ok (.iinc 1 1, 3) := by decide +kernel
theorem dX7_does_62 : decode cX7_does 62 = .ok (.goto (-19), 3) := by decide +kernel
theorem dX7_does_65 : decode cX7_does 65 = .ok (.aload_n 0, 1) := by decide +kernel
theorem dX7_does_66 : decode cX7_does 66 = .ok (.invokevirtual 195, 3) := by decide +kernel
theorem dX7_does_69 : decode cX7_does 69 = .ok (.iload_n 1, 1) := by decide +kernel
theorem dX7_does_70 : decode cX7_does 70 = .ok (.aload_n 0, 1) := by decide +kernel
theorem dX7_does_71 : decode cX7_does 71 = .ok (.getfield 179, 3) := by decide +kernel
theorem dX7_does_74 : decode cX7_does 74 = .ok (.if_icmp .ge 9, 3) := by decide +kernel
theorem dX7_does_77 : decode cX7_does 77 = .ok (.sipush (-2000), 3) := by decide +kernel
theorem dX7_does_80 : decode cX7_does 80 = .ok (.iload_n 1, 1) := by decide +kernel
theorem dX7_does_81 : decode cX7_does 81 = .ok (.isub, 1) := by decide +kernel
theorem dX7_does_82 : decode cX7_does 82 = .ok (.ireturn, 1) := by decide +kernel
theorem dX7_does_83 : decode cX7_does 83 = .ok (.aload_n 0, 1) := by decide +kernel
theorem dX7_does_84 : decode cX7_does 84 = .ok (.invokevirtual 98, 3) := by decide +kernel
theorem dX7_does_87 : decode cX7_does 87 = .ok (.aload_n 0, 1) := by decide +kernel
theorem dX7_does_88 : decode cX7_does 88 = .ok (.invokevirtual 195, 3) := by decide +kernel
theorem dX7_does_91 : decode cX7_does 91 = .ok (.aload_n 0, 1) := by decide +kernel
theorem dX7_does_92 : decode cX7_does 92 = .ok (.getfield 179, 3) := by decide +kernel
theorem dX7_does_95 : decode cX7_does 95 = .ok (.ireturn, 1) := by decide +kernel
theorem dX7_toldIs_0 : decode cX7_toldIs 0 = .ok (.iload_n 1, 1) := by decide +kernel
theorem dX7_toldIs_1 : decode cX7_toldIs 1 = .ok (.iconst 3, 1) := by decide +kernel
theorem dX7_toldIs_2 : decode cX7_toldIs 2 = .ok (.if_icmp .ge 12, 3) := by decide +kernel
theorem dX7_toldIs_5 : decode cX7_toldIs 5 = .ok (.aload_n 0, 1) := by decide +kernel
theorem dX7_toldIs_6 : decode cX7_toldIs 6 = .ok (.getfield 19, 3) := by decide +kernel
theorem dX7_toldIs_9 : decode cX7_toldIs 9 = .ok (.iload_n 1, 1) := by decide +kernel
theorem dX7_toldIs_10 : decode cX7_toldIs 10 = .ok (.iaload, 1) := by decide +kernel
theorem dX7_toldIs_11 : decode cX7_toldIs 11 = .ok (.goto 19, 3) := by decide +kernel
theorem dX7_toldIs_14 : decode cX7_toldIs 14 = .ok (.iload_n 1, 1) := by decide +kernel
theorem dX7_toldIs_15 : decode cX7_toldIs 15 = .ok (.iconst 3, 1) := by decide +kernel
theorem dX7_toldIs_16 : decode cX7_toldIs 16 = .ok (.if_icmp .ne 10, 3) := by decide +kernel
theorem dX7_toldIs_19 : decode cX7_toldIs 19 = .ok (.aload_n 0, 1) := by decide +kernel
theorem dX7_toldIs_20 : decode cX7_toldIs 20 = .ok (.getfield 164, 3) := by decide +kernel
theorem dX7_toldIs_23 : decode cX7_toldIs 23 = .ok (.goto 7, 3) := by decide +kernel
theorem dX7_toldIs_26 : decode cX7_toldIs 26 = .ok (.aload_n 0, 1) := by decide +kernel
theorem dX7_toldIs_27 : decode cX7_toldIs 27 = .ok (.getfield 56, 3) := by decide +kernel
theorem dX7_toldIs_30 : decode cX7_toldIs 30 = .ok (.ireturn, 1) := by decide +kernel
set_option maxRecDepth 20000 in
theorem ggX7_told_X7_within : GoodIn wsX7_told wsX7_within := goodIn_r _ [4] (by decide +kernel) (by decide +kernel)
set_option maxRecDepth 20000 in
theorem gX7_told_X7_within : GoodIn wsX7_told (va_wsS RX7 52 yX7_within wsX7_within) := goodIn_app (goodIn_of _ (by decide +kernel)) ggX7_told_X7_within
set_option maxRecDepth 20000 in
theorem ggX7_told_X7_toldIs : GoodIn wsX7_told wsX7_toldIs := goodIn_r _ [8, 9, 10, 11, 16, 17, 18, 19, 20, 21, 22, 23, 24, 25, 26, 27, 28, 29, 30, 31, 32, 33, 34] (by decide +kernel) (by decide +kernel)
set_option maxRecDepth 20000 in
theorem gX7_told_X7_toldIs : GoodIn wsX7_told (wsV RX7 198 RX7 yX7_toldIs wsX7_toldIs) := goodIn_app (goodIn_of _ (by decide +kernel)) ggX7_told_X7_toldIs
set_option maxRecDepth 20000 in
theorem ggX7_told_X7_counts : GoodIn wsX7_told wsX7_counts := goodIn_r _ [15, 9, 16, 17, 18, 19, 20, 21, 22, 23, 24, 25, 26, 27, 28, 29, 30, 31, 32, 33, 34] (by decide +kernel) (by decide +kernel)
set_option maxRecDepth 20000 in
theorem gX7_told_X7_counts : GoodIn wsX7_told (wsV RX7 60 RX7 yX7_counts wsX7_counts) := goodIn_app (goodIn_of _ (by decide +kernel)) ggX7_told_X7_counts
theorem dX7_told_0 : decode cX7_told 0 = .ok (.iload_n 1, 1) := by decide +kernel
theorem dX7_told_1 : decode cX7_told 1 = .ok (.iconst 0, 1) := by decide +kernel
theorem dX7_told_2 : decode cX7_told 2 = .ok (.iconst 4, 1) := by decide +kernel
theorem dX7_told_3 : decode cX7_told 3 = .ok (.invokestatic 52, 3) := by decide +kernel
theorem dX7_told_6 : decode cX7_told 6 = .ok (.ifCond .eq 11, 3) := by decide +kernel
theorem dX7_told_9 : decode cX7_told 9 = .ok (.aload_n 0, 1) := by decide +kernel
theorem dX7_told_10 : decode cX7_told 10 = .ok (.iload_n 1, 1) := by decide +kernel
theorem dX7_told_11 : decode cX7_told 11 = .ok (.invokevirtual 198, 3) := by decide +kernel
theorem dX7_told_14 : decode cX7_told 14 = .ok (.goto 10, 3) := by decide +kernel
theorem dX7_told_17 : decode cX7_told 17 = .ok (.aload_n 0, 1) := by decide +kernel
theorem dX7_told_18 : decode cX7_told 18 = .ok (.sipush (-1001), 3) := by decide +kernel
theorem dX7_told_21 : decode cX7_told 21 = .ok (.invokevirtual 60, 3) := by decide +kernel
theorem dX7_told_24 : decode cX7_told 24 = .ok (.ireturn, 1) := by decide +kernel
theorem dX7_mix_0 : decode cX7_mix 0 = .ok (.aload_n 0, 1) := by decide +kernel
