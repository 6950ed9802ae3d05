theorem dX7_strips_4 : decode cX7_strips 4 = .ok (.iconst 0, 1) := by decide +kernel
theorem dX7_strips_5 : decode cX7_strips 5 = .ok (.iaload, 1) := by decide +kernel
theorem dX7_strips_6 : decode cX7_strips 6 = .ok (.iconst 1, 1) := by decide +kernel
theorem dX7_strips_7 : decode cX7_strips 7 = .ok (.iadd, 1) := by decide +kernel
theorem dX7_strips_8 : decode cX7_strips 8 = .ok (.istore_n 2, 1) := by decide +kernel
theorem dX7_strips_9 : decode cX7_strips 9 = .ok (.aload_n 0, 1) := by decide +kernel
theorem dX7_strips_10 : decode cX7_strips 10 = .ok (.getfield 7, 3) := by decide +kernel
theorem dX7_strips_13 : decode cX7_strips 13 = .ok (.iconst 0, 1) := by decide +kernel
theorem dX7_strips_14 : decode cX7_strips 14 = .ok (.iconst 0, 1) := by decide +kernel
theorem dX7_strips_15 : decode cX7_strips 15 = .ok (.iastore, 1) := by decide +kernel
theorem dX7_strips_16 : decode cX7_strips 16 = .ok (.aload_n 0, 1) := by decide +kernel
theorem dX7_strips_17 : decode cX7_strips 17 = .ok (.getfield 7, 3) := by decide +kernel
theorem dX7_strips_20 : decode cX7_strips 20 = .ok (.bipush 20, 2) := by decide +kernel
theorem dX7_strips_22 : decode cX7_strips 22 = .ok (.iconst 0, 1) := by decide +kernel
theorem dX7_strips_23 : decode cX7_strips 23 = .ok (.iastore, 1) := by decide +kernel
theorem dX7_strips_24 : decode cX7_strips 24 = .ok (.aload_n 0, 1) := by decide +kernel
theorem dX7_strips_25 : decode cX7_strips 25 = .ok (.getfield 7, 3) := by decide +kernel
theorem dX7_strips_28 : decode cX7_strips 28 = .ok (.iconst 1, 1) := by decide +kernel
theorem dX7_strips_29 : decode cX7_strips 29 = .ok (.iload_n 1, 1) := by decide +kernel
theorem dX7_strips_30 : decode cX7_strips 30 = .ok (.iastore, 1) := by decide +kernel
theorem dX7_strips_31 : decode cX7_strips 31 = .ok (.iload_n 2, 1) := by decide +kernel
theorem dX7_strips_32 : decode cX7_strips 32 = .ok (.ireturn, 1) := by decide +kernel
theorem dX7_adds_0 : decode cX7_adds 0 = .ok (.aload_n 0, 1) := by decide +kernel
theorem dX7_adds_1 : decode cX7_adds 1 = .ok (.getfield 7, 3) := by decide +kernel
theorem dX7_adds_4 : decode cX7_adds 4 = .ok (.iconst 0, 1) := by decide +kernel
theorem dX7_adds_5 : decode cX7_adds 5 = .ok (.iaload, 1) := by decide +kernel
theorem dX7_adds_6 : decode cX7_adds 6 = .ok (.istore 4, 2) := by decide +kernel
theorem dX7_adds_8 : decode cX7_adds 8 = .ok (.aload_n 0, 1) := by decide +kernel
theorem dX7_adds_9 : decode cX7_adds 9 = .ok (.getfield 7, 3) := by decide +kernel
theorem dX7_adds_12 : decode cX7_adds 12 = .ok (.iconst 1, 1) := by decide +kernel
theorem dX7_adds_13 : decode cX7_adds 13 = .ok (.iload 4, 2) := by decide +kernel
theorem dX7_adds_15 : decode cX7_adds 15 = .ok (.iadd, 1) := by decide +kernel
theorem dX7_adds_16 : decode cX7_adds 16 = .ok (.iconst 1, 1) := by decide +kernel
theorem dX7_adds_17 : decode cX7_adds 17 = .ok (.iadd, 1) := by decide +kernel
theorem dX7_adds_18 : decode cX7_adds 18 = .ok (.iload_n 1, 1) := by decide +kernel
theorem dX7_adds_19 : decode cX7_adds 19 = .ok (.iastore, 1) := by decide +kernel
theorem dX7_adds_20 : decode cX7_adds 20 = .ok (.aload_n 0, 1) := by decide +kernel
theorem dX7_adds_21 : decode cX7_adds 21 = .ok (.getfield 7, 3) := by decide +kernel
theorem dX7_adds_24 : decode cX7_adds 24 = .ok (.bipush 8, 2) := by decide +kernel
theorem dX7_adds_26 : decode cX7_adds 26 = .ok (.iload 4, 2) := by decide +kernel
theorem dX7_adds_28 : decode cX7_adds 28 = .ok (.iadd, 1) := by decide +kernel
theorem dX7_adds_29 : decode cX7_adds 29 = .ok (.iload_n 2, 1) := by decide +kernel
theorem dX7_adds_30 : decode cX7_adds 30 = .ok (.iastore, 1) := by decide +kernel
theorem dX7_adds_31 : decode cX7_adds 31 = .ok (.aload_n 0, 1) := by decide +kernel
theorem dX7_adds_32 : decode cX7_adds 32 = .ok (.getfield 7, 3) := by decide +kernel
theorem dX7_adds_35 : decode cX7_adds 35 = .ok (.bipush 14, 2) := by decide +kernel
theorem dX7_adds_37 : decode cX7_adds 37 = .ok (.iload 4, 2) := by decide +kernel
theorem dX7_adds_39 : decode cX7_adds 39 = .ok (.iadd, 1) := by decide +kernel
theorem dX7_adds_40 : decode cX7_adds 40 = .ok (.iload_n 3, 1) := by decide +kernel
theorem dX7_adds_41 : decode cX7_adds 41 = .ok (.iastore, 1) := by decide +kernel
theorem dX7_adds_42 : decode cX7_adds 42 = .ok (.aload_n 0, 1) := by decide +kernel
theorem dX7_adds_43 : decode cX7_adds 43 = .ok (.getfield 7, 3) := by decide +kernel
theorem dX7_adds_46 : decode cX7_adds 46 = .ok (.iconst 0, 1) := by decide +kernel
theorem dX7_adds_47 : decode cX7_adds 47 = .ok (.dup2, 1) := by decide +kernel
theorem dX7_adds_48 : decode cX7_adds 48 = .ok (.iaload, 1) := by decide +kernel
theorem dX7_adds_49 : decode cX7_adds 49 = .ok (.iconst 1, 1) := by decide +kernel
theorem dX7_adds_50 : decode cX7_adds 50 = .ok (.iadd, 1) := by decide +kernel
theorem dX7_adds_51 : decode cX7_adds 51 = .ok (.iastore, 1) := by decide +kernel
theorem dX7_adds_52 : decode cX7_adds 52 = .ok (.iload 4, 2) := by decide +kernel
theorem dX7_adds_54 : decode cX7_adds 54 = .ok (.ireturn, 1) := by decide +kernel
theorem dX7_presses_0 : decode cX7_presses 0 = .ok (.bipush 100, 2) := by decide +kernel
theorem dX7_presses_2 : decode cX7_presses 2 = .ok (.aload_n 0, 1) := by decide +kernel
theorem dX7_presses_3 : decode cX7_presses 3 = .ok (.getfield 7, 3) := by decide +kernel
theorem dX7_presses_6 : decode cX7_presses 6 = .ok (.bipush 21, 2) := by decide +kernel
theorem dX7_presses_8 : decode cX7_presses 8 = .ok (.iaload, 1) := by decide +kernel
theorem dX7_presses_9 : decode cX7_presses 9 = .ok (.imul, 1) := by decide +kernel
theorem dX7_presses_10 : decode cX7_presses 10 = .ok (.aload_n 0, 1) := by decide +kernel
theorem dX7_presses_11 : decode cX7_presses 11 = .ok (.getfield 7, 3) := by decide +kernel
theorem dX7_presses_14 : decode cX7_presses 14 = .ok (.bipush 22, 2) := by decide +kernel
theorem dX7_presses_16 : decode cX7_presses 16 = .ok (.iaload, 1) := by decide +kernel
theorem dX7_presses_17 : decode cX7_presses 17 = .ok (.iadd, 1) := by decide +kernel
theorem dX7_presses_18 : decode cX7_presses 18 = .ok (.istore_n 3, 1) := by decide +kernel
theorem dX7_presses_19 : decode cX7_presses 19 = .ok (.aload_n 0, 1) := by decide +kernel
theorem dX7_presses_20 : decode cX7_presses 20 = .ok (.getfield 7, 3) := by decide +kernel
theorem dX7_presses_23 : decode cX7_presses 23 = .ok (.bipush 21, 2) := by decide +kernel
theorem dX7_presses_25 : decode cX7_presses 25 = .ok (.iload_n 1, 1) := by decide +kernel
theorem dX7_presses_26 : decode cX7_presses 26 = .ok (.iastore, 1) := by decide +kernel
theorem dX7_presses_27 : decode cX7_presses 27 = .ok (.aload_n 0, 1) := by decide +kernel
theorem dX7_presses_28 : decode cX7_presses 28 = .ok (.getfield 7, 3) := by decide +kernel
theorem dX7_presses_31 : decode cX7_presses 31 = .ok (.bipush 22, 2) := by decide +kernel
theorem dX7_presses_33 : decode cX7_presses 33 = .ok (.iload_n 2, 1) := by decide +kernel
theorem dX7_presses_34 : decode cX7_presses 34 = .ok (.iastore, 1) := by decide +kernel
theorem dX7_presses_35 : decode cX7_presses 35 = .ok (.iload_n 3, 1) := by decide +kernel
theorem dX7_presses_36 : decode cX7_presses 36 = .ok (.ireturn, 1) := by decide +kernel
theorem dX7_takesNow_0 : decode cX7_takesNow 0 = .ok (.aload_n 0, 1) := by decide +kernel
theorem dX7_takesNow_1 : decode cX7_takesNow 1 = .ok (.getfield 7, 3) := by decide +kernel
theorem dX7_takesNow_4 : decode cX7_takesNow 4 = .ok (.bipush 23, 2) := by decide +kernel
theorem dX7_takesNow_6 : decode cX7_takesNow 6 = .ok (.iload_n 1, 1) := by decide +kernel
theorem dX7_takesNow_7 : decode cX7_takesNow 7 = .ok (.iadd, 1) := by decide +kernel
theorem dX7_takesNow_8 : decode cX7_takesNow 8 = .ok (.iaload, 1) := by decide +kernel
theorem dX7_takesNow_9 : decode cX7_takesNow 9 = .ok (.istore_n 3, 1) := by decide +kernel
theorem dX7_takesNow_10 : decode cX7_takesNow 10 = .ok (.aload_n 0, 1) := by decide +kernel
theorem dX7_takesNow_11 : decode cX7_takesNow 11 = .ok (.getfield 7, 3) := by decide +kernel
theorem dX7_takesNow_14 : decode cX7_takesNow 14 = .ok (.bipush 23, 2) := by decide +kernel
theorem dX7_takesNow_16 : decode cX7_takesNow 16 = .ok (.iload_n 1, 1) := by decide +kernel
theorem dX7_takesNow_17 : decode cX7_takesNow 17 = .ok (.iadd, 1) := by decide +kernel
theorem dX7_takesNow_18 : decode cX7_takesNow 18 = .ok (.iload_n 2, 1) := by decide +kernel
theorem dX7_takesNow_19 : decode cX7_takesNow 19 = .ok (.iastore, 1) := by decide +kernel
theorem dX7_takesNow_20 : decode cX7_takesNow 20 = .ok (.iload_n 3, 1) := by decide +kernel
theorem dX7_takesNow_21 : decode cX7_takesNow 21 = .ok (.ireturn, 1) := by decide +kernel
set_option maxRecDepth 20000 in
theorem ggX7_strip_X7_within : GoodIn wsX7_strip wsX7_within := goodIn_r _ [4] (by decide +kernel) (by decide +kernel)
set_option maxRecDepth 20000 in
theorem gX7_strip_X7_within : GoodIn wsX7_strip (va_wsS RX7 52 yX7_within wsX7_within) := goodIn_app (goodIn_of _ (by decide +kernel)) ggX7_strip_X7_within
set_option maxRecDepth 20000 in
theorem ggX7_strip_X7_counts : GoodIn wsX7_strip wsX7_counts := goodIn_r _ [8, 9, 21, 22, 23, 24, 25, 26, 27, 28, 29, 30, 31, 32, 33, 34, 35, 36, 37, 38, 39] (by decide +kernel) (by decide +kernel)
set_option maxRecDepth 20000 in
theorem gX7_strip_X7_counts : GoodIn wsX7_strip (wsV RX7 60 RX7 yX7_counts wsX7_counts) := goodIn_app (goodIn_of _ (by decide +kernel)) ggX7_strip_X7_counts
set_option maxRecDepth 20000 in
theorem ggX7_strip_X7_leaves : GoodIn wsX7_strip wsX7_leaves := goodIn_r _ [13, 14, 15, 16, 21, 22, 23, 24, 25, 26, 27, 28, 29, 30, 31, 32, 33, 34, 35, 36, 37, 38, 39] (by decide +kernel) (by decide +kernel)
set_option maxRecDepth 20000 in
theorem gX7_strip_X7_leaves : GoodIn wsX7_strip (wsV RX7 98 RX7 yX7_leaves wsX7_leaves) := goodIn_app (goodIn_of _ (by decide +kernel)) ggX7_strip_X7_leaves
set_option maxRecDepth 20000 in
theorem ggX7_strip_X7_strips : GoodIn wsX7_strip wsX7_strips := goodIn_r _ [20, 16, 21, 22, 23, 24, 25, 26, 27, 28, 29, 30, 31, 32, 33, 34, 35, 36, 37, 38, 39] (by decide +kernel) (by decide +kernel)
set_option maxRecDepth 20000 in
theorem gX7_strip_X7_strips : GoodIn wsX7_strip (wsV RX7 101 RX7 yX7_strips wsX7_strips) := goodIn_app (goodIn_of _ (by decide +kernel)) ggX7_strip_X7_strips
theorem dX7_strip_0 : decode cX7_strip 0 = .ok (.iload_n 1, 1) := by decide +kernel
theorem dX7_strip_1 : decode cX7_strip 1 = .ok (.iconst 1, 1) := by decide +kernel
theorem dX7_strip_2 : decode cX7_strip 2 = .ok (.bipush 20, 2) := by decide +kernel
theorem dX7_strip_4 : decode cX7_strip 4 = .ok (.invokestatic 52, 3) := by decide +kernel
theorem dX7_strip_7 : decode cX7_strip 7 = .ok (.ifCond .ne 11, 3) := by decide +kernel
theorem dX7_strip_10 : decode cX7_strip 10 = .ok (.aload_n 0, 1) := by decide +kernel
theorem dX7_strip_11 : decode cX7_strip 11 = .ok (.sipush (-1001), 3) := by decide +kernel
theorem dX7_strip_14 : decode cX7_strip 14 = .ok (.invokevirtual 60, 3) := by decide +kernel
theorem dX7_strip_17 : decode cX7_strip 17 = .ok (.ireturn, 1) := by decide +kernel
theorem dX7_strip_18 : decode cX7_strip 18 = .ok (.aload_n 0, 1) := by decide +kernel
theorem dX7_strip_19 : decode cX7_strip 19 = .ok (.invokevirtual 98, 3) := by decide +kernel
theorem dX7_strip_22 : decode cX7_strip 22 = .ok (.aload_n 0, 1) := by decide +kernel
theorem dX7_strip_23 : decode cX7_strip 23 = .ok (.iload_n 1, 1) := by decide +kernel
theorem dX7_strip_24 : decode cX7_strip 24 = .ok (.invokevirtual 101, 3) := by decide +kernel
theorem dX7_strip_27 : decode cX7_strip 27 = .ok (.ireturn, 1) := by decide +kernel
set_option maxRecDepth 20000 in
theorem ggX7_bend_X7_mayBend : GoodIn wsX7_bend wsX7_mayBend := goodIn_r _ [6, 7, 8, 5, 9] (by decide +kernel) (by decide +kernel)
set_option maxRecDepth 20000 in
theorem gX7_bend_X7_mayBend : GoodIn wsX7_bend (wsV RX7 104 RX7 yX7_mayBend wsX7_mayBend) := goodIn_app (goodIn_of _ (by decide +kernel)) ggX7_bend_X7_mayBend
set_option maxRecDepth 20000 in
theorem ggX7_bend_X7_counts : GoodIn wsX7_bend wsX7_counts := goodIn_r _ [13, 14, 25, 26, 27, 28, 29, 30, 31, 32, 33, 34, 35, 36, 37, 38, 39, 40, 41, 42, 43] (by decide +kernel) (by decide +kernel)
set_option maxRecDepth 20000 in
theorem gX7_bend_X7_counts : GoodIn wsX7_bend (wsV RX7 60 RX7 yX7_counts wsX7_counts) := goodIn_app (goodIn_of _ (by decide +kernel)) ggX7_bend_X7_counts
set_option maxRecDepth 20000 in
theorem ggX7_bend_X7_leaves : GoodIn wsX7_bend wsX7_leaves := goodIn_r _ [18, 19, 20, 1, 25, 26, 27, 28, 29, 30, 31, 32, 33, 34, 35, 36, 37, 38, 39, 40, 41, 42, 43] (by decide +kernel) (by decide +kernel)
set_option maxRecDepth 20000 in
theorem gX7_bend_X7_leaves : GoodIn wsX7_bend (wsV RX7 98 RX7 yX7_leaves wsX7_leaves) := goodIn_app (goodIn_of _ (by decide +kernel)) ggX7_bend_X7_leaves
set_option maxRecDepth 20000 in
theorem ggX7_bend_X7_adds : GoodIn wsX7_bend wsX7_adds := goodIn_r _ [24, 1, 25, 26, 27, 28, 29, 30, 31, 32, 33, 34, 35, 36, 37, 38, 39, 40, 41, 42, 43] (by decide +kernel) (by decide +kernel)
set_option maxRecDepth 20000 in
theorem gX7_bend_X7_adds : GoodIn wsX7_bend (wsV RX7 107 RX7 yX7_adds wsX7_adds) := goodIn_app (goodIn_of _ (by decide +kernel)) ggX7_bend_X7_adds
theorem dX7_bend_0 : decode cX7_bend 0 = .ok (.aload_n 0, 1) := by decide +kernel
theorem dX7_bend_1 : decode cX7_bend 1 = .ok (.iload_n 1, 1) := by decide +kernel
theorem dX7_bend_2 : decode cX7_bend 2 = .ok (.iload_n 2, 1) := by decide +kernel
theorem dX7_bend_3 : decode cX7_bend 3 = .ok (.iload_n 3, 1) := by decide +kernel
theorem dX7_bend_4 : decode cX7_bend 4 = .ok (.invokevirtual 104, 3) := by decide +kernel
theorem dX7_bend_7 : decode cX7_bend 7 = .ok (.ifCond .ne 11, 3) := by decide +kernel
theorem dX7_bend_10 : decode cX7_bend 10 = .ok (.aload_n 0, 1) := by decide +kernel
theorem dX7_bend_11 : decode cX7_bend 11 = .ok (.sipush (-1001), 3) := by decide +kernel
theorem dX7_bend_14 : decode cX7_bend 14 = .ok (.invokevirtual 60, 3) := by decide +kernel
theorem dX7_bend_17 : decode cX7_bend 17 = .ok (.ireturn, 1) := by decide +kernel
theorem dX7_bend_18 : decode cX7_bend 18 = .ok (.aload_n 0, 1) := by decide +kernel
theorem dX7_bend_19 : decode cX7_bend 19 = .ok (.getfield 7, 3) := by decide +kernel
theorem dX7_bend_22 : decode cX7_bend 22 = .ok (.iconst 0, 1) := by decide +kernel
theorem dX7_bend_23 : decode cX7_bend 23 = .ok (.iaload, 1) := by decide +kernel
theorem dX7_bend_24 : decode cX7_bend 24 = .ok (.bipush 6, 2) := by decide +kernel
theorem dX7_bend_26 : decode cX7_bend 26 = .ok (.if_icmp .ne 11, 3) := by decide +kernel
theorem dX7_bend_29 : decode cX7_bend 29 = .ok (.aload_n 0, 1) := by decide +kernel
theorem dX7_bend_30 : decode cX7_bend 30 = .ok (.sipush (-1003), 3) := by decide +kernel
theorem dX7_bend_33 : decode cX7_bend 33 = .ok (.invokevirtual 60, 3) := by decide +kernel
theorem dX7_bend_36 : decode cX7_bend 36 = .ok (.ireturn, 1) := by decide +kernel
theorem dX7_bend_37 : decode cX7_bend 37 = .ok (.aload_n 0, 1) := by decide +kernel
theorem dX7_bend_38 : decode cX7_bend 38 = .ok (.invokevirtual 98, 3) := by decide +kernel
theorem dX7_bend_41 : decode cX7_bend 41 = .ok (.aload_n 0, 1) := by decide +kernel
theorem dX7_bend_42 : decode cX7_bend 42 = .ok (.iload_n 1, 1) := by decide +kernel
theorem dX7_bend_43 : decode cX7_bend 43 = .ok (.iload_n 2, 1) := by decide +kernel
theorem dX7_bend_44 : decode cX7_bend 44 = .ok (.iload_n 3, 1) := by decide +kernel
theorem dX7_bend_45 : decode cX7_bend 45 = .ok (.invokevirtual 107, 3) := by decide +kernel
theorem dX7_bend_48 : decode cX7_bend 48 = .ok (.ireturn, 1) := by decide +kernel
set_option maxRecDepth 20000 in
theorem ggX7_press_X7_mayPress : GoodIn wsX7_press wsX7_mayPress := goodIn_r _ [5, 6, 7, 4, 8] (by decide +kernel) (by decide +kernel)
set_option maxRecDepth 20000 in
theorem gX7_press_X7_mayPress : GoodIn wsX7_press (wsV RX7 111 RX7 yX7_mayPress wsX7_mayPress) := goodIn_app (goodIn_of _ (by decide +kernel)) ggX7_press_X7_mayPress
set_option maxRecDepth 20000 in
theorem ggX7_press_X7_counts : GoodIn wsX7_press wsX7_counts := goodIn_r _ [12, 13, 25, 26, 27, 28, 29, 30, 31, 32, 33, 34, 35, 36, 37, 38, 39, 40, 41, 42, 43] (by decide +kernel) (by decide +kernel)
set_option maxRecDepth 20000 in
theorem gX7_press_X7_counts : GoodIn wsX7_press (wsV RX7 60 RX7 yX7_counts wsX7_counts) := goodIn_app (goodIn_of _ (by decide +kernel)) ggX7_press_X7_counts
set_option maxRecDepth 20000 in
theorem ggX7_press_X7_leaves : GoodIn wsX7_press wsX7_leaves := goodIn_r _ [17, 18, 19, 20, 25, 26, 27, 28, 29, 30, 31, 32, 33, 34, 35, 36, 37, 38, 39, 40, 41, 42, 43] (by decide +kernel) (by decide +kernel)
set_option maxRecDepth 20000 in
theorem gX7_press_X7_leaves : GoodIn wsX7_press (wsV RX7 98 RX7 yX7_leaves wsX7_leaves) := goodIn_app (goodIn_of _ (by decide +kernel)) ggX7_press_X7_leaves
set_option maxRecDepth 20000 in
theorem ggX7_press_X7_presses : GoodIn wsX7_press wsX7_presses := goodIn_r _ [24, 20, 25, 26, 27, 28, 29, 30, 31, 32, 33, 34, 35, 36, 37, 38, 39, 40, 41, 42, 43] (by decide +kernel) (by decide +kernel)
set_option maxRecDepth 20000 in
theorem gX7_press_X7_presses : GoodIn wsX7_press (wsV RX7 114 RX7 yX7_presses wsX7_presses) := goodIn_app (goodIn_of _ (by decide +kernel)) ggX7_press_X7_presses
theorem dX7_press_0 : decode cX7_press 0 = .ok (.aload_n 0, 1) := by decide +kernel
theorem dX7_press_1 : decode cX7_press 1 = .ok (.iload_n 1, 1) := by decide +kernel
theorem dX7_press_2 : decode cX7_press 2 = .ok (.iload_n 2, 1) := by decide +kernel
theorem dX7_press_3 : decode cX7_press 3 = .ok (.invokevirtual 111, 3) := by decide +kernel
theorem dX7_press_6 : decode cX7_press 6 = .ok (.ifCond .ne 11, 3) := by decide +kernel
theorem dX7_press_9 : decode cX7_press 9 = .ok (.aload_n 0, 1) := by decide +kernel
theorem dX7_press_10 : decode cX7_press 10 = .ok (.sipush (-1001), 3) := by decide +kernel
theorem dX7_press_13 : decode cX7_press 13 = .ok (.invokevirtual 60, 3) := by decide +kernel
theorem dX7_press_16 : decode cX7_press 16 = .ok (.ireturn, 1) := by decide +kernel
theorem dX7_press_17 : decode cX7_press 17 = .ok (.aload_n 0, 1) := by decide +kernel
theorem dX7_press_18 : decode cX7_press 18 = .ok (.invokevirtual 98, 3) := by decide +kernel
theorem dX7_press_21 : decode cX7_press 21 = .ok (.aload_n 0, 1) := by decide +kernel
theorem dX7_press_22 : decode cX7_press 22 = .ok (.iload_n 1, 1) := by decide +kernel
theorem dX7_press_23 : decode cX7_press 23 = .ok (.iload_n 2, 1) := by decide +kernel
theorem dX7_press_24 : decode cX7_press 24 = .ok (.invokevirtual 114, 3) := by decide +kernel
theorem dX7_press_27 : decode cX7_press 27 = .ok (.ireturn, 1) := by decide +kernel
set_option maxRecDepth 20000 in
theorem ggX7_takes_X7_mayTake : GoodIn wsX7_takes wsX7_mayTake := goodIn_r _ [5, 6, 7, 4, 8] (by decide +kernel) (by decide +kernel)
set_option maxRecDepth 20000 in
theorem gX7_takes_X7_mayTake : GoodIn wsX7_takes (wsV RX7 117 RX7 yX7_mayTake wsX7_mayTake) := goodIn_app (goodIn_of _ (by decide +kernel)) ggX7_takes_X7_mayTake
set_option maxRecDepth 20000 in
theorem ggX7_takes_X7_counts : GoodIn wsX7_takes wsX7_counts := goodIn_r _ [12, 13, 25, 26, 27, 28, 29, 30, 31, 32, 33, 34, 35, 36, 37, 38, 39, 40, 41, 42, 43] (by decide +kernel) (by decide +kernel)
set_option maxRecDepth 20000 in
theorem gX7_takes_X7_counts : GoodIn wsX7_takes (wsV RX7 60 RX7 yX7_counts wsX7_counts) := goodIn_app (goodIn_of _ (by decide +kernel)) ggX7_takes_X7_counts
set_option maxRecDepth 20000 in
theorem ggX7_takes_X7_leaves : GoodIn wsX7_takes wsX7_leaves := goodIn_r _ [17, 18, 19, 20, 25, 26, 27, 28, 29, 30, 31, 32, 33, 34, 35, 36, 37, 38, 39, 40, 41, 42, 43] (by decide +kernel) (by decide +kernel)
set_option maxRecDepth 20000 in
theorem gX7_takes_X7_leaves : GoodIn wsX7_takes (wsV RX7 98 RX7 yX7_leaves wsX7_leaves) := goodIn_app (goodIn_of _ (by decide +kernel)) ggX7_takes_X7_leaves
set_option maxRecDepth 20000 in
theorem ggX7_takes_X7_takesNow : GoodIn wsX7_takes wsX7_takesNow := goodIn_r _ [24, 20, 25, 26, 27, 28, 29, 30, 31, 32, 33, 34, 35, 36, 37, 38, 39, 40, 41, 42, 43] (by decide +kernel) (by decide +kernel)
set_option maxRecDepth 20000 in
theorem gX7_takes_X7_takesNow : GoodIn wsX7_takes (wsV RX7 120 RX7 yX7_takesNow wsX7_takesNow) := goodIn_app (goodIn_of _ (by decide +kernel)) ggX7_takes_X7_takesNow
theorem dX7_takes_0 : decode cX7_takes 0 = .ok (.aload_n 0, 1) := by decide +kernel
theorem dX7_takes_1 : decode cX7_takes 1 = .ok (.iload_n 1, 1) := by decide +kernel
theorem dX7_takes_2 : decode cX7_takes 2 = .ok (.iload_n 2, 1) := by decide +kernel
theorem dX7_takes_3 : decode cX7_takes 3 = .ok (.invokevirtual 117, 3) := by decide +kernel
theorem dX7_takes_6 : decode cX7_takes 6 = .ok (.ifCond .ne 11, 3) := by decide +kernel
theorem dX7_takes_9 : decode cX7_takes 9 = .ok (.aload_n 0, 1) := by decide +kernel
theorem dX7_takes_10 : decode cX7_takes 10 = .ok (.sipush (-1001), 3) := by decide +kernel
theorem dX7_takes_13 : decode cX7_takes 13 = .ok (.invokevirtual 60, 3) := by decide +kernel
theorem dX7_takes_16 : decode cX7_takes 16 = .ok (.ireturn, 1) := by decide +kernel
theorem dX7_takes_17 : decode cX7_takes 17 = .ok (.aload_n 0, 1) := by decide +kernel
theorem dX7_takes_18 : decode cX7_takes 18 = .ok (.invokevirtual 98, 3) := by decide +kernel
theorem dX7_takes_21 : decode cX7_takes 21 = .ok (.aload_n 0, 1) := by decide +kernel
theorem dX7_takes_22 : decode cX7_takes 22 = .ok (.iload_n 1, 1) := by decide +kernel
theorem dX7_takes_23 : decode cX7_takes 23 = .ok (.iload_n 2, 1) := by decide +kernel
theorem dX7_takes_24 : decode cX7_takes 24 = .ok (.invokevirtual 120, 3) := by decide +kernel
theorem dX7_takes_27 : decode cX7_takes 27 = .ok (.ireturn, 1) := by decide +kernel
set_option maxRecDepth 20000 in
theorem ggX7_makes_X7_isBend : GoodIn wsX7_makes wsX7_isBend := goodIn_r _ [6, 1, 7, 8, 5, 9, 66, 67, 68, 69, 70, 71, 72, 73, 74, 75, 76, 77, 78, 79, 80, 81, 82, 83, 84] (by decide +kernel) (by decide +kernel)
set_option maxRecDepth 20000 in
theorem gX7_makes_X7_isBend : GoodIn wsX7_makes (wsV RX7 123 RX7 yX7_isBend wsX7_isBend) := goodIn_app (goodIn_of _ (by decide +kernel)) ggX7_makes_X7_isBend
set_option maxRecDepth 20000 in
theorem ggX7_makes_X7_counts : GoodIn wsX7_makes wsX7_counts := goodIn_r _ [13, 14, 66, 67, 68, 69, 70, 71, 72, 73, 74, 75, 76, 77, 78, 79, 80, 81, 82, 83, 84] (by decide +kernel) (by decide +kernel)
set_option maxRecDepth 20000 in
theorem gX7_makes_X7_counts : GoodIn wsX7_makes (wsV RX7 60 RX7 yX7_counts wsX7_counts) := goodIn_app (goodIn_of _ (by decide +kernel)) ggX7_makes_X7_counts
set_option maxRecDepth 20000 in
theorem ggX7_makes_X7_isFree : GoodIn wsX7_makes wsX7_isFree := goodIn_r _ [18, 19, 20, 5, 21, 22, 23, 24, 25, 1, 26, 27, 28, 29, 30, 31, 32, 33, 34, 35, 36, 37, 38, 39, 40, 41, 42, 43, 44, 45, 46, 47, 48, 49, 50, 51, 52, 53, 54, 55, 56, 66, 67, 68, 69, 70, 71, 72, 73, 74, 75, 76, 77, 78, 79, 80, 81, 82, 83, 84] (by decide +kernel) (by decide +kernel)
set_option maxRecDepth 20000 in
theorem gX7_makes_X7_isFree : GoodIn wsX7_makes (wsV RX7 127 RX7 yX7_isFree wsX7_isFree) := goodIn_app (goodIn_of _ (by decide +kernel)) ggX7_makes_X7_isFree
set_option maxRecDepth 20000 in
theorem ggX7_makes_X7_leaves : GoodIn wsX7_makes wsX7_leaves := goodIn_r _ [60, 61, 62, 1, 66, 67, 68, 69, 70, 71, 72, 73, 74, 75, 76, 77, 78, 79, 80, 81, 82, 83, 84] (by decide +kernel) (by decide +kernel)
set_option maxRecDepth 20000 in
theorem gX7_makes_X7_leaves : GoodIn wsX7_makes (wsV RX7 98 RX7 yX7_leaves wsX7_leaves) := goodIn_app (goodIn_of _ (by decide +kernel)) ggX7_makes_X7_leaves
set_option maxRecDepth 20000 in
theorem ggX7_makes_X7_ones : GoodIn wsX7_makes wsX7_ones := goodIn_r _ [65] (by decide +kernel) (by decide +kernel)
set_option maxRecDepth 20000 in
theorem gX7_makes_X7_ones : GoodIn wsX7_makes (va_wsS RX7 130 yX7_ones wsX7_ones) := goodIn_app (goodIn_of _ (by decide +kernel)) ggX7_makes_X7_ones
theorem dX7_makes_0 : decode cX7_makes 0 = .ok (.aload_n 0, 1) := by decide +kernel
theorem dX7_makes_1 : decode cX7_makes 1 = .ok (.iload_n 1, 1) := by decide +kernel
theorem dX7_makes_2 : decode cX7_makes 2 = .ok (.invokevirtual 123, 3) := by decide +kernel
theorem dX7_makes_5 : decode cX7_makes 5 = .ok (.ifCond .ne 11, 3) := by decide +kernel
theorem dX7_makes_8 : decode cX7_makes 8 = .ok (.aload_n 0, 1) := by decide +kernel
theorem dX7_makes_9 : decode cX7_makes 9 = .ok (.sipush (-1001), 3) := by decide +kernel
theorem dX7_makes_12 : decode cX7_makes 12 = .ok (.invokevirtual 60, 3) := by decide +kernel
theorem dX7_makes_15 : decode cX7_makes 15 = .ok (.ireturn, 1) := by decide +kernel
theorem dX7_makes_16 : decode cX7_makes 16 = .ok (.aload_n 0, 1) := by decide +kernel
theorem dX7_makes_17 : decode cX7_makes 17 = .ok (.iload_n 1, 1) := by decide +kernel
theorem dX7_makes_18 : decode cX7_makes 18 = .ok (.aload_n 0, 1) := by decide +kernel
theorem dX7_makes_19 : decode cX7_makes 19 = .ok (.getfield 7, 3) := by decide +kernel
theorem dX7_makes_22 : decode cX7_makes 22 = .ok (.bipush 20, 2) := by decide +kernel
theorem dX7_makes_24 : decode cX7_makes 24 = .ok (.iaload, 1) := by decide +kernel
theorem dX7_makes_25 : decode cX7_makes 25 = .ok (.invokevirtual 127, 3) := by decide +kernel
theorem dX7_makes_28 : decode cX7_makes 28 = .ok (.ifCond .ne 11, 3) := by decide +kernel
theorem dX7_makes_31 : decode cX7_makes 31 = .ok (.aload_n 0, 1) := by decide +kernel
theorem dX7_makes_32 : decode cX7_makes 32 = .ok (.sipush (-1002), 3) := by decide +kernel
theorem dX7_makes_35 : decode cX7_makes 35 = .ok (.invokevirtual 60, 3) := by decide +kernel
theorem dX7_makes_38 : decode cX7_makes 38 = .ok (.ireturn, 1) := by decide +kernel
theorem dX7_makes_39 : decode cX7_makes 39 = .ok (.aload_n 0, 1) := by decide +kernel
theorem dX7_makes_40 : decode cX7_makes 40 = .ok (.invokevirtual 98, 3) := by decide +kernel
theorem dX7_makes_43 : decode cX7_makes 43 = .ok (.aload_n 0, 1) := by decide +kernel
theorem dX7_makes_44 : decode cX7_makes 44 = .ok (.getfield 7, 3) := by decide +kernel
theorem dX7_makes_47 : decode cX7_makes 47 = .ok (.bipush 20, 2) := by decide +kernel
theorem dX7_makes_49 : decode cX7_makes 49 = .ok (.dup2, 1) := by decide +kernel
theorem dX7_makes_50 : decode cX7_makes 50 = .ok (.iaload, 1) := by decide +kernel
theorem dX7_makes_51 : decode cX7_makes 51 = .ok (.iconst 1, 1) := by decide +kernel
theorem dX7_makes_52 : decode cX7_makes 52 = .ok (.iload_n 1, 1) := by decide +kernel
theorem dX7_makes_53 : decode cX7_makes 53 = .ok (.ishl, 1) := by decide +kernel
theorem dX7_makes_54 : decode cX7_makes 54 = .ok (.ior, 1) := by decide +kernel
theorem dX7_makes_55 : decode cX7_makes 55 = .ok (.iastore, 1) := by decide +kernel
theorem dX7_makes_56 : decode cX7_makes 56 = .ok (.aload_n 0, 1) := by decide +kernel
theorem dX7_makes_57 : decode cX7_makes 57 = .ok (.getfield 7, 3) := by decide +kernel
theorem dX7_makes_60 : decode cX7_makes 60 = .ok (.bipush 20, 2) := by decide +kernel
theorem dX7_makes_62 : decode cX7_makes 62 = .ok (.iaload, 1) := by decide +kernel
theorem dX7_makes_63 : decode cX7_makes 63 = .ok (.invokestatic 130, 3) := by decide +kernel
theorem dX7_makes_66 : decode cX7_makes 66 = .ok (.ireturn, 1) := by decide +kernel
set_option maxRecDepth 20000 in
theorem ggX7_unmakes_X7_isBend : GoodIn wsX7_unmakes wsX7_isBend := goodIn_r _ [6, 1, 7, 8, 5, 9, 27, 28, 29, 30, 31, 32, 33, 34, 35, 36, 37, 38, 39, 40, 41, 42, 43, 44, 45] (by decide +kernel) (by decide +kernel)
set_option maxRecDepth 20000 in
theorem gX7_unmakes_X7_isBend : GoodIn wsX7_unmakes (wsV RX7 123 RX7 yX7_isBend wsX7_isBend) := goodIn_app (goodIn_of _ (by decide +kernel)) ggX7_unmakes_X7_isBend
set_option maxRecDepth 20000 in
theorem ggX7_unmakes_X7_counts : GoodIn wsX7_unmakes wsX7_counts := goodIn_r _ [13, 14, 27, 28, 29, 30, 31, 32, 33, 34, 35, 36, 37, 38, 39, 40, 41, 42, 43, 44, 45] (by decide +kernel) (by decide +kernel)
set_option maxRecDepth 20000 in
theorem gX7_unmakes_X7_counts : GoodIn wsX7_unmakes (wsV RX7 60 RX7 yX7_counts wsX7_counts) := goodIn_app (goodIn_of _ (by decide +kernel)) ggX7_unmakes_X7_counts
set_option maxRecDepth 20000 in
theorem ggX7_unmakes_X7_has : GoodIn wsX7_unmakes wsX7_has := goodIn_r _ [17] (by decide +kernel) (by decide +kernel)
set_option maxRecDepth 20000 in
theorem gX7_unmakes_X7_has : GoodIn wsX7_unmakes (va_wsS RX7 70 yX7_has wsX7_has) := goodIn_app (goodIn_of _ (by decide +kernel)) ggX7_unmakes_X7_has
set_option maxRecDepth 20000 in
theorem ggX7_unmakes_X7_leaves : GoodIn wsX7_unmakes wsX7_leaves := goodIn_r _ [21, 22, 23, 1, 27, 28, 29, 30, 31, 32, 33, 34, 35, 36, 37, 38, 39, 40, 41, 42, 43, 44, 45] (by decide +kernel) (by decide +kernel)
set_option maxRecDepth 20000 in
theorem gX7_unmakes_X7_leaves : GoodIn wsX7_unmakes (wsV RX7 98 RX7 yX7_leaves wsX7_leaves) := goodIn_app (goodIn_of _ (by decide +kernel)) ggX7_unmakes_X7_leaves
set_option maxRecDepth 20000 in
theorem ggX7_unmakes_X7_ones : GoodIn wsX7_unmakes wsX7_ones := goodIn_r _ [26] (by decide +kernel) (by decide +kernel)
set_option maxRecDepth 20000 in
theorem gX7_unmakes_X7_ones : GoodIn wsX7_unmakes (va_wsS RX7 130 yX7_ones wsX7_ones) := goodIn_app (goodIn_of _ (by decide +kernel)) ggX7_unmakes_X7_ones
theorem dX7_unmakes_0 : decode cX7_unmakes 0 = .ok (.aload_n 0, 1) := by decide +kernel
theorem dX7_unmakes_1 : decode cX7_unmakes 1 = .ok (.iload_n 1, 1) := by decide +kernel
theorem dX7_unmakes_2 : decode cX7_unmakes 2 = .ok (.invokevirtual 123, 3) := by decide +kernel
theorem dX7_unmakes_5 : decode cX7_unmakes 5 = .ok (.ifCond .ne 11, 3) := by decide +kernel
theorem dX7_unmakes_8 : decode cX7_unmakes 8 = .ok (.aload_n 0, 1) := by decide +kernel
theorem dX7_unmakes_9 : decode cX7_unmakes 9 = .ok (.sipush (-1001), 3) := by decide +kernel
theorem dX7_unmakes_12 : decode cX7_unmakes 12 = .ok (.invokevirtual 60, 3) := by decide +kernel
theorem dX7_unmakes_15 : decode cX7_unmakes 15 = .ok (.ireturn, 1) := by decide +kernel
theorem dX7_unmakes_16 : decode cX7_unmakes 16 = .ok (.aload_n 0, 1) := by decide +kernel
theorem dX7_unmakes_17 : decode cX7_unmakes 17 = .ok (.getfield 7, 3) := by decide +kernel
theorem dX7_unmakes_20 : decode cX7_unmakes 20 = .ok (.bipush 20, 2) := by decide +kernel
theorem dX7_unmakes_22 : decode cX7_unmakes 22 = .ok (.iaload, 1) := by decide +kernel
theorem dX7_unmakes_23 : decode cX7_unmakes 23 = .ok (.iload_n 1, 1) := by decide +kernel
theorem dX7_unmakes_24 : decode cX7_unmakes 24 = .ok (.invokestatic 70, 3) := by decide +kernel
theorem dX7_unmakes_27 : decode cX7_unmakes 27 = .ok (.ifCond .ne 11, 3) := by decide +kernel
theorem dX7_unmakes_30 : decode cX7_unmakes 30 = .ok (.aload_n 0, 1) := by decide +kernel
theorem dX7_unmakes_31 : decode cX7_unmakes 31 = .ok (.sipush (-1002), 3) := by decide +kernel
theorem dX7_unmakes_34 : decode cX7_unmakes 34 = .ok (.invokevirtual 60, 3) := by decide +kernel
theorem dX7_unmakes_37 : decode cX7_unmakes 37 = .ok (.ireturn, 1) := by decide +kernel
theorem dX7_unmakes_38 : decode cX7_unmakes 38 = .ok (.aload_n 0, 1) := by decide +kernel
theorem dX7_unmakes_39 : decode cX7_unmakes 39 = .ok (.invokevirtual 98, 3) := by decide +kernel
theorem dX7_unmakes_42 : decode cX7_unmakes 42 = .ok (.aload_n 0, 1) := by decide +kernel
theorem dX7_unmakes_43 : decode cX7_unmakes 43 = .ok (.getfield 7, 3) := by decide +kernel
theorem dX7_unmakes_46 : decode cX7_unmakes 46 = .ok (.bipush 20, 2) := by decide +kernel
theorem dX7_unmakes_48 : decode cX7_unmakes 48 = .ok (.dup2, 1) := by decide +kernel
theorem dX7_unmakes_49 : decode cX7_unmakes 49 = .ok (.iaload, 1) := by decide +kernel
theorem dX7_unmakes_50 : decode cX7_unmakes 50 = .ok (.iconst 1, 1) := by decide +kernel
theorem dX7_unmakes_51 : decode cX7_unmakes 51 = .ok (.iload_n 1, 1) := by decide +kernel
theorem dX7_unmakes_52 : decode cX7_unmakes 52 = .ok (.ishl, 1) := by decide +kernel
theorem dX7_unmakes_53 : decode cX7_unmakes 53 = .ok (.iconst (-1), 1) := by decide +kernel
theorem dX7_unmakes_54 : decode cX7_unmakes 54 = .ok (.ixor, 1) := by decide +kernel
theorem dX7_unmakes_55 : decode cX7_unmakes 55 = .ok (.iand, 1) := by decide +kernel
theorem dX7_unmakes_56 : decode cX7_unmakes 56 = .ok (.iastore, 1) := by decide +kernel
theorem dX7_unmakes_57 : decode cX7_unmakes 57 = .ok (.aload_n 0, 1) := by decide +kernel
theorem dX7_unmakes_58 : decode cX7_unmakes 58 = .ok (.getfield 7, 3) := by decide +kernel
theorem dX7_unmakes_61 : decode cX7_unmakes 61 = .ok (.bipush 20, 2) := by decide +kernel
theorem dX7_unmakes_63 : decode cX7_unmakes 63 = .ok (.iaload, 1) := by decide +kernel
theorem dX7_unmakes_64 : decode cX7_unmakes 64 = .ok (.invokestatic 130, 3) := by decide +kernel
theorem dX7_unmakes_67 : decode cX7_unmakes 67 = .ok (.ireturn, 1) := by decide +kernel
set_option maxRecDepth 20000 in
theorem ggX7_again_X7_leaves : GoodIn wsX7_again wsX7_leaves := goodIn_r _ [6, 7, 8, 1, 12, 13, 14, 15, 16, 17, 18, 19, 20, 21, 22, 23, 24, 25, 26, 27, 28, 29, 30] (by decide +kernel) (by decide +kernel)
set_option maxRecDepth 20000 in
theorem gX7_again_X7_leaves : GoodIn wsX7_again (wsV RX7 98 RX7 yX7_leaves wsX7_leaves) := goodIn_app (goodIn_of _ (by decide +kernel)) ggX7_again_X7_leaves
set_option maxRecDepth 20000 in
theorem ggX7_again_X7_ones : GoodIn wsX7_again wsX7_ones := goodIn_r _ [11] (by decide +kernel) (by decide +kernel)
set_option maxRecDepth 20000 in
theorem gX7_again_X7_ones : GoodIn wsX7_again (va_wsS RX7 130 yX7_ones wsX7_ones) := goodIn_app (goodIn_of _ (by decide +kernel)) ggX7_again_X7_ones
theorem dX7_again_0 : decode cX7_again 0 = .ok (.aload_n 0, 1) := by decide +kernel
theorem dX7_again_1 : decode cX7_again 1 = .ok (.invokevirtual 98, 3) := by decide +kernel
theorem dX7_again_4 : decode cX7_again 4 = .ok (.aload_n 0, 1) := by decide +kernel
theorem dX7_again_5 : decode cX7_again 5 = .ok (.getfield 7, 3) := by decide +kernel
theorem dX7_again_8 : decode cX7_again 8 = .ok (.bipush 20, 2) := by decide +kernel
theorem dX7_again_10 : decode cX7_again 10 = .ok (.iaload, 1) := by decide +kernel
theorem dX7_again_11 : decode cX7_again 11 = .ok (.invokestatic 130, 3) := by decide +kernel
theorem dX7_again_14 : decode cX7_again 14 = .ok (.istore_n 1, 1) := by decide +kernel
theorem dX7_again_15 : decode cX7_again 15 = .ok (.aload_n 0, 1) := by decide +kernel
theorem dX7_again_16 : decode cX7_again 16 = .ok (.getfield 7, 3) := by decide +kernel
theorem dX7_again_19 : decode cX7_again 19 = .ok (.bipush 20, 2) := by decide +kernel
theorem dX7_again_21 : decode cX7_again 21 = .ok (.iconst 0, 1) := by decide +kernel
theorem dX7_again_22 : decode cX7_again 22 = .ok (.iastore, 1) := by decide +kernel
theorem dX7_again_23 : decode cX7_again 23 = .ok (.iload_n 1, 1) := by decide +kernel
theorem dX7_again_24 : decode cX7_again 24 = .ok (.ireturn, 1) := by decide +kernel
theorem dX7_ofBend_0 : decode cX7_ofBend 0 = .ok (.iload_n 2, 1) := by decide +kernel
theorem dX7_ofBend_1 : decode cX7_ofBend 1 = .ok (.ifCond .ne 16, 3) := by decide +kernel
theorem dX7_ofBend_4 : decode cX7_ofBend 4 = .ok (.aload_n 0, 1) := by decide +kernel
theorem dX7_ofBend_5 : decode cX7_ofBend 5 = .ok (.getfield 7, 3) := by decide +kernel
theorem dX7_ofBend_8 : decode cX7_ofBend 8 = .ok (.iconst 1, 1) := by decide +kernel
theorem dX7_ofBend_9 : decode cX7_ofBend 9 = .ok (.iload_n 1, 1) := by decide +kernel
theorem dX7_ofBend_10 : decode cX7_ofBend 10 = .ok (.iadd, 1) := by decide +kernel
theorem dX7_ofBend_11 : decode cX7_ofBend 11 = .ok (.iconst 1, 1) := by decide +kernel
theorem dX7_ofBend_12 : decode cX7_ofBend 12 = .ok (.iadd, 1) := by decide +kernel
theorem dX7_ofBend_13 : decode cX7_ofBend 13 = .ok (.iaload, 1) := by decide +kernel
theorem dX7_ofBend_14 : decode cX7_ofBend 14 = .ok (.goto 48, 3) := by decide +kernel
theorem dX7_ofBend_17 : decode cX7_ofBend 17 = .ok (.iload_n 2, 1) := by decide +kernel
theorem dX7_ofBend_18 : decode cX7_ofBend 18 = .ok (.iconst 1, 1) := by decide +kernel
theorem dX7_ofBend_19 : decode cX7_ofBend 19 = .ok (.if_icmp .ne 15, 3) := by decide +kernel
theorem dX7_ofBend_22 : decode cX7_ofBend 22 = .ok (.aload_n 0, 1) := by decide +kernel
theorem dX7_ofBend_23 : decode cX7_ofBend 23 = .ok (.getfield 7, 3) := by decide +kernel
theorem dX7_ofBend_26 : decode cX7_ofBend 26 = .ok (.bipush 8, 2) := by decide +kernel
theorem dX7_ofBend_28 : decode cX7_ofBend 28 = .ok (.iload_n 1, 1) := by decide +kernel
theorem dX7_ofBend_29 : decode cX7_ofBend 29 = .ok (.iadd, 1) := by decide +kernel
theorem dX7_ofBend_30 : decode cX7_ofBend 30 = .ok (.iaload, 1) := by decide +kernel
theorem dX7_ofBend_31 : decode cX7_ofBend 31 = .ok (.goto 31, 3) := by decide +kernel
theorem dX7_ofBend_34 : decode cX7_ofBend 34 = .ok (.iload_n 2, 1) := by decide +kernel
theorem dX7_ofBend_35 : decode cX7_ofBend 35 = .ok (.iconst 2, 1) := by decide +kernel
theorem dX7_ofBend_36 : decode cX7_ofBend 36 = .ok (.if_icmp .ne 15, 3) := by decide +kernel
theorem dX7_ofBend_39 : decode cX7_ofBend 39 = .ok (.aload_n 0, 1) := by decide +kernel
theorem dX7_ofBend_40 : decode cX7_ofBend 40 = .ok (.getfield 7, 3) := by decide +kernel
theorem dX7_ofBend_43 : decode cX7_ofBend 43 = .ok (.bipush 14, 2) := by decide +kernel
theorem dX7_ofBend_45 : decode cX7_ofBend 45 = .ok (.iload_n 1, 1) := by decide +kernel
theorem dX7_ofBend_46 : decode cX7_ofBend 46 = .ok (.iadd, 1) := by decide +kernel
theorem dX7_ofBend_47 : decode cX7_ofBend 47 = .ok (.iaload, 1) := by decide +kernel
theorem dX7_ofBend_48 : decode cX7_ofBend 48 = .ok (.goto 14, 3) := by decide +kernel
theorem dX7_ofBend_51 : decode cX7_ofBend 51 = .ok (.aload_n 0, 1) := by decide +kernel
theorem dX7_ofBend_52 : decode cX7_ofBend 52 = .ok (.getfield 7, 3) := by decide +kernel
theorem dX7_ofBend_55 : decode cX7_ofBend 55 = .ok (.bipush 20, 2) := by decide +kernel
theorem dX7_ofBend_57 : decode cX7_ofBend 57 = .ok (.iaload, 1) := by decide +kernel
theorem dX7_ofBend_58 : decode cX7_ofBend 58 = .ok (.iload_n 1, 1) := by decide +kernel
theorem dX7_ofBend_59 : decode cX7_ofBend 59 = .ok (.ishr, 1) := by decide +kernel
theorem dX7_ofBend_60 : decode cX7_ofBend 60 = .ok (.iconst 1, 1) := by decide +kernel
theorem dX7_ofBend_61 : decode cX7_ofBend 61 = .ok (.iand, 1) := by decide +kernel
theorem dX7_ofBend_62 : decode cX7_ofBend 62 = .ok (.ireturn, 1) := by decide +kernel
set_option maxRecDepth 20000 in
theorem ggX7_of_X7_isBend : GoodIn wsX7_of wsX7_isBend := goodIn_r _ [5, 6, 7, 8, 4, 9, 19, 20, 21, 22, 23, 24, 25, 26, 27, 28, 29, 30, 31, 32, 33, 34, 35, 36, 37] (by decide +kernel) (by decide +kernel)
set_option maxRecDepth 20000 in
theorem gX7_of_X7_isBend : GoodIn wsX7_of (wsV RX7 123 RX7 yX7_isBend wsX7_isBend) := goodIn_app (goodIn_of _ (by decide +kernel)) ggX7_of_X7_isBend
set_option maxRecDepth 20000 in
theorem ggX7_of_X7_within : GoodIn wsX7_of wsX7_within := goodIn_r _ [9] (by decide +kernel) (by decide +kernel)
set_option maxRecDepth 20000 in
theorem gX7_of_X7_within : GoodIn wsX7_of (va_wsS RX7 52 yX7_within wsX7_within) := goodIn_app (goodIn_of _ (by decide +kernel)) ggX7_of_X7_within
set_option maxRecDepth 20000 in
theorem ggX7_of_X7_ofBend : GoodIn wsX7_of wsX7_ofBend := goodIn_r _ [13, 6, 19, 20, 21, 22, 23, 24, 25, 26, 27, 28, 29, 30, 31, 32, 33, 34, 35, 36, 37] (by decide +kernel) (by decide +kernel)
set_option maxRecDepth 20000 in
theorem gX7_of_X7_ofBend : GoodIn wsX7_of (wsV RX7 133 RX7 yX7_ofBend wsX7_ofBend) := goodIn_app (goodIn_of _ (by decide +kernel)) ggX7_of_X7_ofBend
set_option maxRecDepth 20000 in
theorem ggX7_of_X7_counts : GoodIn wsX7_of wsX7_counts := goodIn_r _ [17, 18, 19, 20, 21, 22, 23, 24, 25, 26, 27, 28, 29, 30, 31, 32, 33, 34, 35, 36, 37] (by decide +kernel) (by decide +kernel)
set_option maxRecDepth 20000 in
theorem gX7_of_X7_counts : GoodIn wsX7_of (wsV RX7 60 RX7 yX7_counts wsX7_counts) := goodIn_app (goodIn_of _ (by decide +kernel)) ggX7_of_X7_counts
theorem dX7_of_0 : decode cX7_of 0 = .ok (.aload_n 0, 1) := by decide +kernel
theorem dX7_of_1 : decode cX7_of 1 = .ok (.iload_n 1, 1) := by decide +kernel
theorem dX7_of_2 : decode cX7_of 2 = .ok (.invokevirtual 123, 3) := by decide +kernel
theorem dX7_of_5 : decode cX7_of 5 = .ok (.ifCond .eq 21, 3) := by decide +kernel
theorem dX7_of_8 : decode cX7_of 8 = .ok (.iload_n 2, 1) := by decide +kernel
theorem dX7_of_9 : decode cX7_of 9 = .ok (.iconst 0, 1) := by decide +kernel
theorem dX7_of_10 : decode cX7_of 10 = .ok (.iconst 3, 1) := by decide +kernel
theorem dX7_of_11 : decode cX7_of 11 = .ok (.invokestatic 52, 3) := by decide +kernel
theorem dX7_of_14 : decode cX7_of 14 = .ok (.ifCond .eq 12, 3) := by decide +kernel
theorem dX7_of_17 : decode cX7_of 17 = .ok (.aload_n 0, 1) := by decide +kernel
theorem dX7_of_18 : decode cX7_of 18 = .ok (.iload_n 1, 1) := by decide +kernel
theorem dX7_of_19 : decode cX7_of 19 = .ok (.iload_n 2, 1) := by decide +kernel
theorem dX7_of_20 : decode cX7_of 20 = .ok (.invokevirtual 133, 3) := by decide +kernel
theorem dX7_of_23 : decode cX7_of 23 = .ok (.goto 10, 3) := by decide +kernel
theorem dX7_of_26 : decode cX7_of 26 = .ok (.aload_n 0, 1) := by decide +kernel
theorem dX7_of_27 : decode cX7_of 27 = .ok (.sipush (-1001), 3) := by decide +kernel
theorem dX7_of_30 : decode cX7_of 30 = .ok (.invokevirtual 60, 3) := by decide +kernel
theorem dX7_of_33 : decode cX7_of 33 = .ok (.ireturn, 1) := by decide +kernel
set_option maxRecDepth 20000 in
theorem ggX7_joint_X7_within : GoodIn wsX7_joint wsX7_within := goodIn_r _ [7] (by decide +kernel) (by decide +kernel)
set_option maxRecDepth 20000 in
theorem gX7_joint_X7_within : GoodIn wsX7_joint (va_wsS RX7 52 yX7_within wsX7_within) := goodIn_app (goodIn_of _ (by decide +kernel)) ggX7_joint_X7_within
set_option maxRecDepth 20000 in
theorem ggX7_joint_X7_counts : GoodIn wsX7_joint wsX7_counts := goodIn_r _ [11, 12, 27, 28, 29, 30, 31, 32, 33, 34, 35, 36, 37, 38, 39, 40, 41, 42, 43, 44, 45] (by decide +kernel) (by decide +kernel)
set_option maxRecDepth 20000 in
theorem gX7_joint_X7_counts : GoodIn wsX7_joint (wsV RX7 60 RX7 yX7_counts wsX7_counts) := goodIn_app (goodIn_of _ (by decide +kernel)) ggX7_joint_X7_counts
set_option maxRecDepth 20000 in
theorem ggX7_joint_X7_lays : GoodIn wsX7_joint wsX7_lays := goodIn_r _ [16, 2, 3, 1, 17, 18, 19, 6, 20, 21, 22, 23, 24, 25, 26, 27, 28, 29, 30, 31, 32, 33, 34, 35, 36, 37, 38, 39, 40, 41, 42, 43, 44, 45] (by decide +kernel) (by decide +kernel)
set_option maxRecDepth 20000 in
theorem gX7_joint_X7_lays : GoodIn wsX7_joint (wsV RX7 81 RX7 yX7_lays wsX7_lays) := goodIn_app (goodIn_of _ (by decide +kernel)) ggX7_joint_X7_lays
theorem dX7_joint_0 : decode cX7_joint 0 = .ok (.iload_n 1, 1) := by decide +kernel
theorem dX7_joint_1 : decode cX7_joint 1 = .ok (.iconst 0, 1) := by decide +kernel
theorem dX7_joint_2 : decode cX7_joint 2 = .ok (.aload_n 0, 1) := by decide +kernel
theorem dX7_joint_3 : decode cX7_joint 3 = .ok (.getfield 7, 3) := by decide +kernel
theorem dX7_joint_6 : decode cX7_joint 6 = .ok (.iconst 0, 1) := by decide +kernel
theorem dX7_joint_7 : decode cX7_joint 7 = .ok (.iaload, 1) := by decide +kernel
theorem dX7_joint_8 : decode cX7_joint 8 = .ok (.iconst 1, 1) := by decide +kernel
theorem dX7_joint_9 : decode cX7_joint 9 = .ok (.iadd, 1) := by decide +kernel
theorem dX7_joint_10 : decode cX7_joint 10 = .ok (.invokestatic 52, 3) := by decide +kernel
theorem dX7_joint_13 : decode cX7_joint 13 = .ok (.ifCond .eq 12, 3) := by decide +kernel
theorem dX7_joint_16 : decode cX7_joint 16 = .ok (.iload_n 2, 1) := by decide +kernel
theorem dX7_joint_17 : decode cX7_joint 17 = .ok (.iconst 0, 1) := by decide +kernel
theorem dX7_joint_18 : decode cX7_joint 18 = .ok (.iconst 1, 1) := by decide +kernel
theorem dX7_joint_19 : decode cX7_joint 19 = .ok (.invokestatic 52, 3) := by decide +kernel
theorem dX7_joint_22 : decode cX7_joint 22 = .ok (.ifCond .ne 11, 3) := by decide +kernel
theorem dX7_joint_25 : decode cX7_joint 25 = .ok (.aload_n 0, 1) := by decide +kernel
theorem dX7_joint_26 : decode cX7_joint 26 = .ok (.sipush (-1001), 3) := by decide +kernel
theorem dX7_joint_29 : decode cX7_joint 29 = .ok (.invokevirtual 60, 3) := by decide +kernel
theorem dX7_joint_32 : decode cX7_joint 32 = .ok (.ireturn, 1) := by decide +kernel
theorem dX7_joint_33 : decode cX7_joint 33 = .ok (.aload_n 0, 1) := by decide +kernel
theorem dX7_joint_34 : decode cX7_joint 34 = .ok (.aload_n 0, 1) := by decide +kernel
theorem dX7_joint_35 : decode cX7_joint 35 = .ok (.getfield 7, 3) := by decide +kernel
theorem dX7_joint_38 : decode cX7_joint 38 = .ok (.bipush 20, 2) := by decide +kernel
theorem dX7_joint_40 : decode cX7_joint 40 = .ok (.iaload, 1) := by decide +kernel
theorem dX7_joint_41 : decode cX7_joint 41 = .ok (.invokevirtual 81, 3) := by decide +kernel
theorem dX7_joint_44 : decode cX7_joint 44 = .ok (.iload_n 2, 1) := by decide +kernel
theorem dX7_joint_45 : decode cX7_joint 45 = .ok (.ifCond .ne 12, 3) := by decide +kernel
theorem dX7_joint_48 : decode cX7_joint 48 = .ok (.aload_n 0, 1) := by decide +kernel
theorem dX7_joint_49 : decode cX7_joint 49 = .ok (.getfield 25, 3) := by decide +kernel
theorem dX7_joint_52 : decode cX7_joint 52 = .ok (.iload_n 1, 1) := by decide +kernel
theorem dX7_joint_53 : decode cX7_joint 53 = .ok (.iaload, 1) := by decide +kernel
theorem dX7_joint_54 : decode cX7_joint 54 = .ok (.goto 9, 3) := by decide +kernel
theorem dX7_joint_57 : decode cX7_joint 57 = .ok (.aload_n 0, 1) := by decide +kernel
theorem dX7_joint_58 : decode cX7_joint 58 = .ok (.getfield 28, 3) := by decide +kernel
theorem dX7_joint_61 : decode cX7_joint 61 = .ok (.iload_n 1, 1) := by decide +kernel
theorem dX7_joint_62 : decode cX7_joint 62 = .ok (.iaload, 1) := by decide +kernel
theorem dX7_joint_63 : decode cX7_joint 63 = .ok (.ireturn, 1) := by decide +kernel
set_option maxRecDepth 20000 in
theorem ggX7_boxIs_X7_lays : GoodIn wsX7_boxIs wsX7_lays := goodIn_r _ [8, 2, 3, 1, 9, 10, 11, 7, 12, 13, 14, 15, 16, 17, 18, 25, 26, 27, 28, 29, 30, 31, 32, 33, 34, 35, 36, 37, 38, 39, 40, 41, 42, 43] (by decide +kernel) (by decide +kernel)
set_option maxRecDepth 20000 in
theorem gX7_boxIs_X7_lays : GoodIn wsX7_boxIs (wsV RX7 81 RX7 yX7_lays wsX7_lays) := goodIn_app (goodIn_of _ (by decide +kernel)) ggX7_boxIs_X7_lays
set_option maxRecDepth 20000 in
theorem ggX7_boxIs_X7_lesser : GoodIn wsX7_boxIs wsX7_lesser := goodIn_r _ [21] (by decide +kernel) (by decide +kernel)
set_option maxRecDepth 20000 in
theorem gX7_boxIs_X7_lesser : GoodIn wsX7_boxIs (va_wsS RX7 74 yX7_lesser wsX7_lesser) := goodIn_app (goodIn_of _ (by decide +kernel)) ggX7_boxIs_X7_lesser
set_option maxRecDepth 20000 in
theorem ggX7_boxIs_X7_greater : GoodIn wsX7_boxIs wsX7_greater := goodIn_r _ [24] (by decide +kernel) (by decide +kernel)
set_option maxRecDepth 20000 in
theorem gX7_boxIs_X7_greater : GoodIn wsX7_boxIs (va_wsS RX7 78 yX7_greater wsX7_greater) := goodIn_app (goodIn_of _ (by decide +kernel)) ggX7_boxIs_X7_greater
theorem dX7_boxIs_0 : decode cX7_boxIs 0 = .ok (.aload_n 0, 1) := by decide +kernel
theorem dX7_boxIs_1 : decode cX7_boxIs 1 = .ok (.aload_n 0, 1) := by decide +kernel
theorem dX7_boxIs_2 : decode cX7_boxIs 2 = .ok (.getfield 7, 3) := by decide +kernel
theorem dX7_boxIs_5 : decode cX7_boxIs 5 = .ok (.bipush 20, 2) := by decide +kernel
theorem dX7_boxIs_7 : decode cX7_boxIs 7 = .ok (.iaload, 1) := by decide +kernel
theorem dX7_boxIs_8 : decode cX7_boxIs 8 = .ok (.invokevirtual 81, 3) := by decide +kernel
theorem dX7_boxIs_11 : decode cX7_boxIs 11 = .ok (.iconst 0, 1) := by decide +kernel
theorem dX7_boxIs_12 : decode cX7_boxIs 12 = .ok (.istore_n 2, 1) := by decide +kernel
theorem dX7_boxIs_13 : decode cX7_boxIs 13 = .ok (.iconst 1, 1) := by decide +kernel
theorem dX7_boxIs_14 : decode cX7_boxIs 14 = .ok (.istore_n 3, 1) := by decide +kernel
theorem dX7_boxIs_15 : decode cX7_boxIs 15 = .ok (.iload_n 3, 1) := by decide +kernel
theorem dX7_boxIs_16 : decode cX7_boxIs 16 = .ok (.aload_n 0, 1) := by decide +kernel
theorem dX7_boxIs_17 : decode cX7_boxIs 17 = .ok (.getfield 7, 3) := by decide +kernel
theorem dX7_boxIs_20 : decode cX7_boxIs 20 = .ok (.iconst 0, 1) := by decide +kernel
theorem dX7_boxIs_21 : decode cX7_boxIs 21 = .ok (.iaload, 1) := by decide +kernel
theorem dX7_boxIs_22 : decode cX7_boxIs 22 = .ok (.iconst 2, 1) := by decide +kernel
theorem dX7_boxIs_23 : decode cX7_boxIs 23 = .ok (.iadd, 1) := by decide +kernel
theorem dX7_boxIs_24 : decode cX7_boxIs 24 = .ok (.if_icmp .ge 53, 3) := by decide +kernel
theorem dX7_boxIs_27 : decode cX7_boxIs 27 = .ok (.iload_n 1, 1) := by decide +kernel
theorem dX7_boxIs_28 : decode cX7_boxIs 28 = .ok (.iconst 2, 1) := by decide +kernel
theorem dX7_boxIs_29 : decode cX7_boxIs 29 = .ok (.irem, 1) := by decide +kernel
theorem dX7_boxIs_30 : decode cX7_boxIs 30 = .ok (.ifCond .ne 12, 3) := by decide +kernel
theorem dX7_boxIs_33 : decode cX7_boxIs 33 = .ok (.aload_n 0, 1) := by decide +kernel
theorem dX7_boxIs_34 : decode cX7_boxIs 34 = .ok (.getfield 25, 3) := by decide +kernel
theorem dX7_boxIs_37 : decode cX7_boxIs 37 = .ok (.iload_n 3, 1) := by decide +kernel
theorem dX7_boxIs_38 : decode cX7_boxIs 38 = .ok (.iaload, 1) := by decide +kernel
theorem dX7_boxIs_39 : decode cX7_boxIs 39 = .ok (.goto 9, 3) := by decide +kernel
theorem dX7_boxIs_42 : decode cX7_boxIs 42 = .ok (.aload_n 0, 1) := by decide +kernel
theorem dX7_boxIs_43 : decode cX7_boxIs 43 = .ok (.getfield 28, 3) := by decide +kernel
theorem dX7_boxIs_46 : decode cX7_boxIs 46 = .ok (.iload_n 3, 1) := by decide +kernel
theorem dX7_boxIs_47 : decode cX7_boxIs 47 = .ok (.iaload, 1) := by decide +kernel
theorem dX7_boxIs_48 : decode cX7_boxIs 48 = .ok (.istore 4, 2) := by decide +kernel
theorem dX7_boxIs_50 : decode cX7_boxIs 50 = .ok (.iload_n 1, 1) := by decide +kernel
theorem dX7_boxIs_51 : decode cX7_boxIs 51 = .ok (.iconst 2, 1) := by decide +kernel
theorem dX7_boxIs_52 : decode cX7_boxIs 52 = .ok (.if_icmp .ge 12, 3) := by decide +kernel
theorem dX7_boxIs_55 : decode cX7_boxIs 55 = .ok (.iload_n 2, 1) := by decide +kernel
theorem dX7_boxIs_56 : decode cX7_boxIs 56 = .ok (.iload 4, 2) := by decide +kernel
theorem dX7_boxIs_58 : decode cX7_boxIs 58 = .ok (.invokestatic 74, 3) := by decide +kernel
theorem dX7_boxIs_61 : decode cX7_boxIs 61 = .ok (.goto 9, 3) := by decide +kernel
theorem dX7_boxIs_64 : decode cX7_boxIs 64 = .ok (.iload_n 2, 1) := by decide +kernel
theorem dX7_boxIs_65 : decode cX7_boxIs 65 = .ok (.iload 4, 2) := by decide +kernel
theorem dX7_boxIs_67 : decode cX7_boxIs 67 = .ok (.invokestatic 78, 3) := by decide +kernel
theorem dX7_boxIs_70 : decode cX7_boxIs 70 = .ok (.istore_n 2, 1) := by decide +kernel
theorem dX7_boxIs_71 : decode cX7_boxIs 71 = .ok (.iinc 3 1, 3) := by decide +kernel
theorem dX7_boxIs_74 : decode cX7_boxIs 74 = .ok (.goto (-59), 3) := by decide +kernel
theorem dX7_boxIs_77 : decode cX7_boxIs 77 = .ok (.iload_n 2, 1) := by decide +kernel
theorem dX7_boxIs_78 : decode cX7_boxIs 78 = .ok (.ireturn, 1) := by decide +kernel
set_option maxRecDepth 20000 in
theorem ggX7_box_X7_within : GoodIn wsX7_box wsX7_within := goodIn_r _ [4] (by decide +kernel) (by decide +kernel)
set_option maxRecDepth 20000 in
theorem gX7_box_X7_within : GoodIn wsX7_box (va_wsS RX7 52 yX7_within wsX7_within) := goodIn_app (goodIn_of _ (by decide +kernel)) ggX7_box_X7_within
set_option maxRecDepth 20000 in
theorem ggX7_box_X7_boxIs : GoodIn wsX7_box wsX7_boxIs := goodIn_r _ [8, 9, 10, 11, 12, 13, 14, 3, 15, 16, 17, 18, 19, 20, 21, 22, 23, 24, 25, 26, 27, 28, 29, 30, 31, 37, 38, 39, 40, 41, 42, 43, 44, 45, 46, 47, 48, 49, 50, 51, 52, 53, 54, 55] (by decide +kernel) (by decide +kernel)
set_option maxRecDepth 20000 in
theorem gX7_box_X7_boxIs : GoodIn wsX7_box (wsV RX7 136 RX7 yX7_boxIs wsX7_boxIs) := goodIn_app (goodIn_of _ (by decide +kernel)) ggX7_box_X7_boxIs
set_option maxRecDepth 20000 in
theorem ggX7_box_X7_counts : GoodIn wsX7_box wsX7_counts := goodIn_r _ [35, 36, 37, 38, 39, 40, 41, 42, 43, 44, 45, 46, 47, 48, 49, 50, 51, 52, 53, 54, 55] (by decide +kernel) (by decide +kernel)
set_option maxRecDepth 20000 in
theorem gX7_box_X7_counts : GoodIn wsX7_box (wsV RX7 60 RX7 yX7_counts wsX7_counts) := goodIn_app (goodIn_of _ (by decide +kernel)) ggX7_box_X7_counts
theorem dX7_box_0 : decode cX7_box 0 = .ok (.iload_n 1, 1) := by decide +kernel
theorem dX7_box_1 : decode cX7_box 1 = .ok (.iconst 0, 1) := by decide +kernel
theorem dX7_box_2 : decode cX7_box 2 = .ok (.iconst 3, 1) := by decide +kernel
theorem dX7_box_3 : decode cX7_box 3 = .ok (.invokestatic 52, 3) := by decide +kernel
theorem dX7_box_6 : decode cX7_box 6 = .ok (.ifCond .eq 11, 3) := by decide +kernel
theorem dX7_box_9 : decode cX7_box 9 = .ok (.aload_n 0, 1) := by decide +kernel
theorem dX7_box_10 : decode cX7_box 10 = .ok (.iload_n 1, 1) := by decide +kernel
theorem dX7_box_11 : decode cX7_box 11 = .ok (.invokevirtual 136, 3) := by decide +kernel
theorem dX7_box_14 : decode cX7_box 14 = .ok (.goto 10, 3) := by decide +kernel
theorem dX7_box_17 : decode cX7_box 17 = .ok (.aload_n 0, 1) := by decide +kernel
theorem dX7_box_18 : decode cX7_box 18 = .ok (.sipush (-1001), 3) := by decide +kernel
theorem dX7_box_21 : decode cX7_box 21 = .ok (.invokevirtual 60, 3) := by decide +kernel
theorem dX7_box_24 : decode cX7_box 24 = .ok (.ireturn, 1) := by decide +kernel
set_option maxRecDepth 20000 in
theorem ggX7_hits_X7_isBend : GoodIn wsX7_hits wsX7_isBend := goodIn_r _ [6, 1, 7, 8, 5, 9, 53, 54, 55, 56, 57, 58, 59, 60, 61, 62, 63, 64, 65, 66, 67, 68, 69, 70, 71] (by decide +kernel) (by decide +kernel)
set_option maxRecDepth 20000 in
theorem gX7_hits_X7_isBend : GoodIn wsX7_hits (wsV RX7 123 RX7 yX7_isBend wsX7_isBend) := goodIn_app (goodIn_of _ (by decide +kernel)) ggX7_hits_X7_isBend
set_option maxRecDepth 20000 in
theorem ggX7_hits_X7_counts : GoodIn wsX7_hits wsX7_counts := goodIn_r _ [13, 14, 53, 54, 55, 56, 57, 58, 59, 60, 61, 62, 63, 64, 65, 66, 67, 68, 69, 70, 71] (by decide +kernel) (by decide +kernel)
set_option maxRecDepth 20000 in
theorem gX7_hits_X7_counts : GoodIn wsX7_hits (wsV RX7 60 RX7 yX7_counts wsX7_counts) := goodIn_app (goodIn_of _ (by decide +kernel)) ggX7_hits_X7_counts
set_option maxRecDepth 20000 in
theorem ggX7_hits_X7_has : GoodIn wsX7_hits wsX7_has := goodIn_r _ [17] (by decide +kernel) (by decide +kernel)
set_option maxRecDepth 20000 in
theorem gX7_hits_X7_has : GoodIn wsX7_hits (va_wsS RX7 70 yX7_has wsX7_has) := goodIn_app (goodIn_of _ (by decide +kernel)) ggX7_hits_X7_has
set_option maxRecDepth 20000 in
theorem ggX7_hits_X7_hitBy : GoodIn wsX7_hits wsX7_hitBy := goodIn_r _ [21, 1, 22, 23, 24, 5, 25, 26, 27, 28, 29, 30, 31, 32, 33, 34, 15, 16, 17, 35, 36, 37, 38, 39, 40, 41, 42, 43, 44, 45, 46, 47, 48, 49, 50, 51, 52, 53, 54, 55, 56, 57, 58, 59, 60, 61, 62, 63, 64, 65, 66, 67, 68, 69, 70, 71] (by decide +kernel) (by decide +kernel)
set_option maxRecDepth 20000 in
theorem gX7_hits_X7_hitBy : GoodIn wsX7_hits (wsV RX7 95 RX7 yX7_hitBy wsX7_hitBy) := goodIn_app (goodIn_of _ (by decide +kernel)) ggX7_hits_X7_hitBy
theorem dX7_hits_0 : decode cX7_hits 0 = .ok (.aload_n 0, 1) := by decide +kernel
theorem dX7_hits_1 : decode cX7_hits 1 = .ok (.iload_n 1, 1) := by decide +kernel
theorem dX7_hits_2 : decode cX7_hits 2 = .ok (.invokevirtual 123, 3) := by decide +kernel
theorem dX7_hits_5 : decode cX7_hits 5 = .ok (.ifCond .ne 11, 3) := by decide +kernel
theorem dX7_hits_8 : decode cX7_hits 8 = .ok (.aload_n 0, 1) := by decide +kernel
theorem dX7_hits_9 : decode cX7_hits 9 = .ok (.sipush (-1001), 3) := by decide +kernel
theorem dX7_hits_12 : decode cX7_hits 12 = .ok (.invokevirtual 60, 3) := by decide +kernel
theorem dX7_hits_15 : decode cX7_hits 15 = .ok (.ireturn, 1) := by decide +kernel
theorem dX7_hits_16 : decode cX7_hits 16 = .ok (.aload_n 0, 1) := by decide +kernel
theorem dX7_hits_17 : decode cX7_hits 17 = .ok (.getfield 7, 3) := by decide +kernel
theorem dX7_hits_20 : decode cX7_hits 20 = .ok (.bipush 20, 2) := by decide +kernel
theorem dX7_hits_22 : decode cX7_hits 22 = .ok (.iaload, 1) := by decide +kernel
theorem dX7_hits_23 : decode cX7_hits 23 = .ok (.iload_n 1, 1) := by decide +kernel
theorem dX7_hits_24 : decode cX7_hits 24 = .ok (.invokestatic 70, 3) := by decide +kernel
theorem dX7_hits_27 : decode cX7_hits 27 = .ok (.ifCond .eq 13, 3) := by decide +kernel
theorem dX7_hits_30 : decode cX7_hits 30 = .ok (.aload_n 0, 1) := by decide +kernel
theorem dX7_hits_31 : decode cX7_hits 31 = .ok (.sipush (-1002), 3) := by decide +kernel
theorem dX7_hits_34 : decode cX7_hits 34 = .ok (.invokevirtual 60, 3) := by decide +kernel
theorem dX7_hits_37 : decode cX7_hits 37 = .ok (.goto 15, 3) := by decide +kernel
theorem dX7_hits_40 : decode cX7_hits 40 = .ok (.aload_n 0, 1) := by decide +kernel
theorem dX7_hits_41 : decode cX7_hits 41 = .ok (.iload_n 1, 1) := by decide +kernel
theorem dX7_hits_42 : decode cX7_hits 42 = .ok (.aload_n 0, 1) := by decide +kernel
theorem dX7_hits_43 : decode cX7_hits 43 = .ok (.getfield 7, 3) := by decide +kernel
theorem dX7_hits_46 : decode cX7_hits 46 = .ok (.bipush 20, 2) := by decide +kernel
theorem dX7_hits_48 : decode cX7_hits 48 = .ok (.iaload, 1) := by decide +kernel
theorem dX7_hits_49 : decode cX7_hits 49 = .ok (.invokevirtual 95, 3) := by decide +kernel
theorem dX7_hits_52 : decode cX7_hits 52 = .ok (.ireturn, 1) := by decide +kernel
set_option maxRecDepth 20000 in
theorem ggX7_free_X7_isFree : GoodIn wsX7_free wsX7_isFree := goodIn_r _ [6, 7, 8, 5, 9, 10, 11, 12, 13, 1, 14, 15, 16, 17, 18, 19, 20, 21, 22, 23, 24, 25, 26, 27, 28, 29, 30, 31, 32, 33, 34, 35, 36, 37, 38, 39, 40, 41, 42, 43, 44, 45, 46, 47, 48, 49, 50, 51, 52, 53, 54, 55, 56, 57, 58, 59, 60, 61, 62, 63] (by decide +kernel) (by decide +kernel)
set_option maxRecDepth 20000 in
theorem gX7_free_X7_isFree : GoodIn wsX7_free (wsV RX7 127 RX7 yX7_isFree wsX7_isFree) := goodIn_app (goodIn_of _ (by decide +kernel)) ggX7_free_X7_isFree
theorem dX7_free_0 : decode cX7_free 0 = .ok (.iconst 0, 1) := by decide +kernel
theorem dX7_free_1 : decode cX7_free 1 = .ok (.istore_n 1, 1) := by decide +kernel
theorem dX7_free_2 : decode cX7_free 2 = .ok (.iconst 0, 1) := by decide +kernel
theorem dX7_free_3 : decode cX7_free 3 = .ok (.istore_n 2, 1) := by decide +kernel
theorem dX7_free_4 : decode cX7_free 4 = .ok (.iload_n 2, 1) := by decide +kernel
theorem dX7_free_5 : decode cX7_free 5 = .ok (.aload_n 0, 1) := by decide +kernel
theorem dX7_free_6 : decode cX7_free 6 = .ok (.getfield 7, 3) := by decide +kernel
theorem dX7_free_9 : decode cX7_free 9 = .ok (.iconst 0, 1) := by decide +kernel
theorem dX7_free_10 : decode cX7_free 10 = .ok (.iaload, 1) := by decide +kernel
theorem dX7_free_11 : decode cX7_free 11 = .ok (.if_icmp .ge 34, 3) := by decide +kernel
theorem dX7_free_14 : decode cX7_free 14 = .ok (.iload_n 1, 1) := by decide +kernel
theorem dX7_free_15 : decode cX7_free 15 = .ok (.aload_n 0, 1) := by decide +kernel
theorem dX7_free_16 : decode cX7_free 16 = .ok (.iload_n 2, 1) := by decide +kernel
theorem dX7_free_17 : decode cX7_free 17 = .ok (.aload_n 0, 1) := by decide +kernel
theorem dX7_free_18 : decode cX7_free 18 = .ok (.getfield 7, 3) := by decide +kernel
theorem dX7_free_21 : decode cX7_free 21 = .ok (.bipush 20, 2) := by decide +kernel
theorem dX7_free_23 : decode cX7_free 23 = .ok (.iaload, 1) := by decide +kernel
theorem dX7_free_24 : decode cX7_free 24 = .ok (.invokevirtual 127, 3) := by decide +kernel
theorem dX7_free_27 : decode cX7_free 27 = .ok (.ifCond .eq 9, 3) := by decide +kernel
theorem dX7_free_30 : decode cX7_free 30 = .ok (.iconst 1, 1) := by decide +kernel
theorem dX7_free_31 : decode cX7_free 31 = .ok (.iload_n 2, 1) := by decide +kernel
theorem dX7_free_32 : decode cX7_free 32 = .ok (.ishl, 1) := by decide +kernel
theorem dX7_free_33 : decode cX7_free 33 = .ok (.goto 4, 3) := by decide +kernel
theorem dX7_free_36 : decode cX7_free 36 = .ok (.iconst 0, 1) := by decide +kernel
theorem dX7_free_37 : decode cX7_free 37 = .ok (.ior, 1) := by decide +kernel
theorem dX7_free_38 : decode cX7_free 38 = .ok (.istore_n 1, 1) := by decide +kernel
theorem dX7_free_39 : decode cX7_free 39 = .ok (.iinc 2 1, 3) := by decide +kernel
theorem dX7_free_42 : decode cX7_free 42 = .ok (.goto (-38), 3) := by decide +kernel
theorem dX7_free_45 : decode cX7_free 45 = .ok (.iload_n 1, 1) := by decide +kernel
theorem dX7_free_46 : decode cX7_free 46 = .ok (.ireturn, 1) := by decide +kernel
set_option maxRecDepth 20000 in
theorem ggX7_laysOrders_X7_allMade : GoodIn wsX7_laysOrders wsX7_allMade := goodIn_r _ [9, 4, 56, 57, 58, 59, 60, 61, 62, 63, 64, 65, 66, 67, 68, 69, 70, 71, 72, 73, 74] (by decide +kernel) (by decide +kernel)
set_option maxRecDepth 20000 in
theorem gX7_laysOrders_X7_allMade : GoodIn wsX7_laysOrders (wsV RX7 139 RX7 yX7_allMade wsX7_allMade) := goodIn_app (goodIn_of _ (by decide +kernel)) ggX7_laysOrders_X7_allMade
set_option maxRecDepth 20000 in
theorem ggX7_laysOrders_X7_isFree : GoodIn wsX7_laysOrders wsX7_isFree := goodIn_r _ [13, 14, 15, 8, 16, 17, 18, 19, 20, 4, 21, 22, 23, 24, 25, 26, 27, 28, 29, 30, 31, 32, 33, 34, 35, 36, 37, 38, 39, 40, 41, 42, 43, 44, 45, 46, 47, 48, 49, 50, 51, 56, 57, 58, 59, 60, 61, 62, 63, 64, 65, 66, 67, 68, 69, 70, 71, 72, 73, 74] (by decide +kernel) (by decide +kernel)
set_option maxRecDepth 20000 in
theorem gX7_laysOrders_X7_isFree : GoodIn wsX7_laysOrders (wsV RX7 127 RX7 yX7_isFree wsX7_isFree) := goodIn_app (goodIn_of _ (by decide +kernel)) ggX7_laysOrders_X7_isFree
set_option maxRecDepth 20000 in
theorem ggX7_laysOrders_X7_changesBy : GoodIn wsX7_laysOrders wsX7_changesBy := goodIn_r _ [55, 4, 3, 56, 57, 58, 59, 60, 61, 62, 63, 64, 65, 66, 67, 68, 69, 70, 71, 72, 73, 74] (by decide +kernel) (by decide +kernel)
set_option maxRecDepth 20000 in
theorem gX7_laysOrders_X7_changesBy : GoodIn wsX7_laysOrders (wsV RX7 143 RX7 yX7_changesBy wsX7_changesBy) := goodIn_app (goodIn_of _ (by decide +kernel)) ggX7_laysOrders_X7_changesBy
set_option maxRecDepth 20000 in
theorem ggX7_laysOrders_X7_lesser : GoodIn wsX7_laysOrders wsX7_lesser := goodIn_r _ [44] (by decide +kernel) (by decide +kernel)
set_option maxRecDepth 20000 in
theorem gX7_laysOrders_X7_lesser : GoodIn wsX7_laysOrders (va_wsS RX7 74 yX7_lesser wsX7_lesser) := goodIn_app (goodIn_of _ (by decide +kernel)) ggX7_laysOrders_X7_lesser
theorem dX7_laysOrders_0 : decode cX7_laysOrders 0 = .ok (.aload_n 0, 1) := by decide +kernel
theorem dX7_laysOrders_1 : decode cX7_laysOrders 1 = .ok (.invokevirtual 139, 3) := by decide +kernel
theorem dX7_laysOrders_4 : decode cX7_laysOrders 4 = .ok (.istore_n 1, 1) := by decide +kernel
theorem dX7_laysOrders_5 : decode cX7_laysOrders 5 = .ok (.iload_n 1, 1) := by decide +kernel
theorem dX7_laysOrders_6 : decode cX7_laysOrders 6 = .ok (.ifCond .lt 174, 3) := by decide +kernel
theorem dX7_laysOrders_9 : decode cX7_laysOrders 9 = .ok (.aload_n 0, 1) := by decide +kernel
theorem dX7_laysOrders_10 : decode cX7_laysOrders 10 = .ok (.getfield 34, 3) := by decide +kernel
theorem dX7_laysOrders_13 : decode cX7_laysOrders 13 = .ok (.iload_n 1, 1) := by decide +kernel
theorem dX7_laysOrders_14 : decode cX7_laysOrders 14 = .ok (.iconst 0, 1) := by decide +kernel
theorem dX7_laysOrders_15 : decode cX7_laysOrders 15 = .ok (.iastore, 1) := by decide +kernel
theorem dX7_laysOrders_16 : decode cX7_laysOrders 16 = .ok (.aload_n 0, 1) := by decide +kernel
theorem dX7_laysOrders_17 : decode cX7_laysOrders 17 = .ok (.getfield 37, 3) := by decide +kernel
theorem dX7_laysOrders_20 : decode cX7_laysOrders 20 = .ok (.iload_n 1, 1) := by decide +kernel
theorem dX7_laysOrders_21 : decode cX7_laysOrders 21 = .ok (.iload_n 1, 1) := by decide +kernel
theorem dX7_laysOrders_22 : decode cX7_laysOrders 22 = .ok (.aload_n 0, 1) := by decide +kernel
theorem dX7_laysOrders_23 : decode cX7_laysOrders 23 = .ok (.invokevirtual 139, 3) := by decide +kernel
theorem dX7_laysOrders_26 : decode cX7_laysOrders 26 = .ok (.if_icmp .ne 7, 3) := by decide +kernel
theorem dX7_laysOrders_29 : decode cX7_laysOrders 29 = .ok (.iconst 1, 1) := by decide +kernel
theorem dX7_laysOrders_30 : decode cX7_laysOrders 30 = .ok (.goto 4, 3) := by decide +kernel
theorem dX7_laysOrders_33 : decode cX7_laysOrders 33 = .ok (.iconst 0, 1) := by decide +kernel
theorem dX7_laysOrders_34 : decode cX7_laysOrders 34 = .ok (.iastore, 1) := by decide +kernel
theorem dX7_laysOrders_35 : decode cX7_laysOrders 35 = .ok (.iconst 0, 1) := by decide +kernel
theorem dX7_laysOrders_36 : decode cX7_laysOrders 36 = .ok (.istore_n 2, 1) := by decide +kernel
theorem dX7_laysOrders_37 : decode cX7_laysOrders 37 = .ok (.iload_n 2, 1) := by decide +kernel
theorem dX7_laysOrders_38 : decode cX7_laysOrders 38 = .ok (.iconst 4, 1) := by decide +kernel
theorem dX7_laysOrders_39 : decode cX7_laysOrders 39 = .ok (.if_icmp .ge 34, 3) := by decide +kernel
theorem dX7_laysOrders_42 : decode cX7_laysOrders 42 = .ok (.aload_n 0, 1) := by decide +kernel
theorem dX7_laysOrders_43 : decode cX7_laysOrders 43 = .ok (.getfield 40, 3) := by decide +kernel
theorem dX7_laysOrders_46 : decode cX7_laysOrders 46 = .ok (.iconst 4, 1) := by decide +kernel
theorem dX7_laysOrders_47 : decode cX7_laysOrders 47 = .ok (.iload_n 1, 1) := by decide +kernel
theorem dX7_laysOrders_48 : decode cX7_laysOrders 48 = .ok (.imul, 1) := by decide +kernel
theorem dX7_laysOrders_49 : decode cX7_laysOrders 49 = .ok (.iload_n 2, 1) := by decide +kernel
theorem dX7_laysOrders_50 : decode cX7_laysOrders 50 = .ok (.iadd, 1) := by decide +kernel
theorem dX7_laysOrders_51 : decode cX7_laysOrders 51 = .ok (.iload_n 1, 1) := by decide +kernel
theorem dX7_laysOrders_52 : decode cX7_laysOrders 52 = .ok (.aload_n 0, 1) := by decide +kernel
theorem dX7_laysOrders_53 : decode cX7_laysOrders 53 = .ok (.invokevirtual 139, 3) := by decide +kernel
theorem dX7_laysOrders_56 : decode cX7_laysOrders 56 = .ok (.if_icmp .ne 7, 3) := by decide +kernel
theorem dX7_laysOrders_59 : decode cX7_laysOrders 59 = .ok (.iconst 0, 1) := by decide +kernel
theorem dX7_laysOrders_60 : decode cX7_laysOrders 60 = .ok (.goto 6, 3) := by decide +kernel
theorem dX7_laysOrders_63 : decode cX7_laysOrders 63 = .ok (.sipush 1000, 3) := by decide +kernel
theorem dX7_laysOrders_66 : decode cX7_laysOrders 66 = .ok (.iastore, 1) := by decide +kernel
theorem dX7_laysOrders_67 : decode cX7_laysOrders 67 = .ok (.iinc 2 1, 3) := by decide +kernel
theorem dX7_laysOrders_70 : decode cX7_laysOrders 70 = .ok (.goto (-33), 3) := by decide +kernel
theorem dX7_laysOrders_73 : decode cX7_laysOrders 73 = .ok (.iconst 0, 1) := by decide +kernel
theorem dX7_laysOrders_74 : decode cX7_laysOrders 74 = .ok (.istore_n 2, 1) := by decide +kernel
theorem dX7_laysOrders_75 : decode cX7_laysOrders 75 = .ok (.iload_n 2, 1) := by decide +kernel
theorem dX7_laysOrders_76 : decode cX7_laysOrders 76 = .ok (.aload_n 0, 1) := by decide +kernel
theorem dX7_laysOrders_77 : decode cX7_laysOrders 77 = .ok (.getfield 7, 3) := by decide +kernel
theorem dX7_laysOrders_80 : decode cX7_laysOrders 80 = .ok (.iconst 0, 1) := by decide +kernel
theorem dX7_laysOrders_81 : decode cX7_laysOrders 81 = .ok (.iaload, 1) := by decide +kernel
theorem dX7_laysOrders_82 : decode cX7_laysOrders 82 = .ok (.if_icmp .ge 92, 3) := by decide +kernel
theorem dX7_laysOrders_85 : decode cX7_laysOrders 85 = .ok (.aload_n 0, 1) := by decide +kernel
theorem dX7_laysOrders_86 : decode cX7_laysOrders 86 = .ok (.iload_n 2, 1) := by decide +kernel
theorem dX7_laysOrders_87 : decode cX7_laysOrders 87 = .ok (.iload_n 1, 1) := by decide +kernel
theorem dX7_laysOrders_88 : decode cX7_laysOrders 88 = .ok (.invokevirtual 127, 3) := by decide +kernel
theorem dX7_laysOrders_91 : decode cX7_laysOrders 91 = .ok (.ifCond .eq 77, 3) := by decide +kernel
theorem dX7_laysOrders_94 : decode cX7_laysOrders 94 = .ok (.aload_n 0, 1) := by decide +kernel
theorem dX7_laysOrders_95 : decode cX7_laysOrders 95 = .ok (.getfield 34, 3) := by decide +kernel
theorem dX7_laysOrders_98 : decode cX7_laysOrders 98 = .ok (.iload_n 1, 1) := by decide +kernel
theorem dX7_laysOrders_99 : decode cX7_laysOrders 99 = .ok (.dup2, 1) := by decide +kernel
theorem dX7_laysOrders_100 : decode cX7_laysOrders 100 = .ok (.iaload, 1) := by decide +kernel
theorem dX7_laysOrders_101 : decode cX7_laysOrders 101 = .ok (.iconst 1, 1) := by decide +kernel
theorem dX7_laysOrders_102 : decode cX7_laysOrders 102 = .ok (.iload_n 2, 1) := by decide +kernel
theorem dX7_laysOrders_103 : decode cX7_laysOrders 103 = .ok (.ishl, 1) := by decide +kernel
theorem dX7_laysOrders_104 : decode cX7_laysOrders 104 = .ok (.ior, 1) := by decide +kernel
theorem dX7_laysOrders_105 : decode cX7_laysOrders 105 = .ok (.iastore, 1) := by decide +kernel
theorem dX7_laysOrders_106 : decode cX7_laysOrders 106 = .ok (.aload_n 0, 1) := by decide +kernel
theorem dX7_laysOrders_107 : decode cX7_laysOrders 107 = .ok (.getfield 37, 3) := by decide +kernel
theorem dX7_laysOrders_110 : decode cX7_laysOrders 110 = .ok (.iload_n 1, 1) := by decide +kernel
theorem dX7_laysOrders_111 : decode cX7_laysOrders 111 = .ok (.dup2, 1) := by decide +kernel
theorem dX7_laysOrders_112 : decode cX7_laysOrders 112 = .ok (.iaload, 1) := by decide +kernel
theorem dX7_laysOrders_113 : decode cX7_laysOrders 113 = .ok (.aload_n 0, 1) := by decide +kernel
theorem dX7_laysOrders_114 : decode cX7_laysOrders 114 = .ok (.getfield 37, 3) := by decide +kernel
theorem dX7_laysOrders_117 : decode cX7_laysOrders 117 = .ok (.iload_n 1, 1) := by decide +kernel
theorem dX7_laysOrders_118 : decode cX7_laysOrders 118 = .ok (.iconst 1, 1) := by decide +kernel
theorem dX7_laysOrders_119 : decode cX7_laysOrders 119 = .ok (.iload_n 2, 1) := by decide +kernel
theorem dX7_laysOrders_120 : decode cX7_laysOrders 120 = .ok (.ishl, 1) := by decide +kernel
theorem dX7_laysOrders_121 : decode cX7_laysOrders 121 = .ok (.ior, 1) := by decide +kernel
theorem dX7_laysOrders_122 : decode cX7_laysOrders 122 = .ok (.iaload, 1) := by decide +kernel
theorem dX7_laysOrders_123 : decode cX7_laysOrders 123 = .ok (.iadd, 1) := by decide +kernel
theorem dX7_laysOrders_124 : decode cX7_laysOrders 124 = .ok (.iastore, 1) := by decide +kernel
theorem dX7_laysOrders_125 : decode cX7_laysOrders 125 = .ok (.iconst 0, 1) := by decide +kernel
theorem dX7_laysOrders_126 : decode cX7_laysOrders 126 = .ok (.istore_n 3, 1) := by decide +kernel
theorem dX7_laysOrders_127 : decode cX7_laysOrders 127 = .ok (.iload_n 3, 1) := by decide +kernel
theorem dX7_laysOrders_128 : decode cX7_laysOrders 128 = .ok (.iconst 4, 1) := by decide +kernel
theorem dX7_laysOrders_129 : decode cX7_laysOrders 129 = .ok (.if_icmp .ge 39, 3) := by decide +kernel
theorem dX7_laysOrders_132 : decode cX7_laysOrders 132 = .ok (.aload_n 0, 1) := by decide +kernel
theorem dX7_laysOrders_133 : decode cX7_laysOrders 133 = .ok (.getfield 40, 3) := by decide +kernel
theorem dX7_laysOrders_136 : decode cX7_laysOrders 136 = .ok (.iconst 4, 1) := by decide +kernel
theorem dX7_laysOrders_137 : decode cX7_laysOrders 137 = .ok (.iload_n 1, 1) := by decide +kernel
theorem dX7_laysOrders_138 : decode cX7_laysOrders 138 = .ok (.imul, 1) := by decide +kernel
theorem dX7_laysOrders_139 : decode cX7_laysOrders 139 = .ok (.iload_n 3, 1) := by decide +kernel
theorem dX7_laysOrders_140 : decode cX7_laysOrders 140 = .ok (.iadd, 1) := by decide +kernel
theorem dX7_laysOrders_141 : decode cX7_laysOrders 141 = .ok (.aload_n 0, 1) := by decide +kernel
theorem dX7_laysOrders_142 : decode cX7_laysOrders 142 = .ok (.getfield 40, 3) := by decide +kernel
theorem dX7_laysOrders_145 : decode cX7_laysOrders 145 = .ok (.iconst 4, 1) := by decide +kernel
theorem dX7_laysOrders_146 : decode cX7_laysOrders 146 = .ok (.iload_n 1, 1) := by decide +kernel
theorem dX7_laysOrders_147 : decode cX7_laysOrders 147 = .ok (.imul, 1) := by decide +kernel
theorem dX7_laysOrders_148 : decode cX7_laysOrders 148 = .ok (.iload_n 3, 1) := by decide +kernel
theorem dX7_laysOrders_149 : decode cX7_laysOrders 149 = .ok (.iadd, 1) := by decide +kernel
theorem dX7_laysOrders_150 : decode cX7_laysOrders 150 = .ok (.iaload, 1) := by decide +kernel
theorem dX7_laysOrders_151 : decode cX7_laysOrders 151 = .ok (.aload_n 0, 1) := by decide +kernel
theorem dX7_laysOrders_152 : decode cX7_laysOrders 152 = .ok (.iload_n 1, 1) := by decide +kernel
theorem dX7_laysOrders_153 : decode cX7_laysOrders 153 = .ok (.iload_n 3, 1) := by decide +kernel
theorem dX7_laysOrders_154 : decode cX7_laysOrders 154 = .ok (.iload_n 2, 1) := by decide +kernel
theorem dX7_laysOrders_155 : decode cX7_laysOrders 155 = .ok (.invokevirtual 143, 3) := by decide +kernel
theorem dX7_laysOrders_158 : decode cX7_laysOrders 158 = .ok (.invokestatic 74, 3) := by decide +kernel
theorem dX7_laysOrders_161 : decode cX7_laysOrders 161 = .ok (.iastore, 1) := by decide +kernel
theorem dX7_laysOrders_162 : decode cX7_laysOrders 162 = .ok (.iinc 3 1, 3) := by decide +kernel
theorem dX7_laysOrders_165 : decode cX7_laysOrders 165 = .ok (.goto (-38), 3) := by decide +kernel
theorem dX7_laysOrders_168 : decode cX7_laysOrders 168 = .ok (.iinc 2 1, 3) := by decide +kernel
theorem dX7_laysOrders_171 : decode cX7_laysOrders 171 = .ok (.goto (-96), 3) := by decide +kernel
theorem dX7_laysOrders_174 : decode cX7_laysOrders 174 = .ok (.iinc 1 (-1), 3) := by decide +kernel
theorem dX7_laysOrders_177 : decode cX7_laysOrders 177 = .ok (.goto (-172), 3) := by decide +kernel
theorem dX7_laysOrders_180 : decode cX7_laysOrders 180 = .ok (.return_, 1) := by decide +kernel
theorem dX7_changesBy_0 : decode cX7_changesBy 0 = .ok (.aload_n 0, 1) := by decide +kernel
theorem dX7_changesBy_1 : decode cX7_changesBy 1 = .ok (.getfield 7, 3) := by decide +kernel
theorem dX7_changesBy_4 : decode cX7_changesBy 4 = .ok (.bipush 14, 2) := by decide +kernel
theorem dX7_changesBy_6 : decode cX7_changesBy 6 = .ok (.iload_n 3, 1) := by decide +kernel
theorem dX7_changesBy_7 : decode cX7_changesBy 7 = .ok (.iadd, 1) := by decide +kernel
theorem dX7_changesBy_8 : decode cX7_changesBy 8 = .ok (.iaload, 1) := by decide +kernel
theorem dX7_changesBy_9 : decode cX7_changesBy 9 = .ok (.istore 4, 2) := by decide +kernel
theorem dX7_changesBy_11 : decode cX7_changesBy 11 = .ok (.aload_n 0, 1) := by decide +kernel
theorem dX7_changesBy_12 : decode cX7_changesBy 12 = .ok (.getfield 40, 3) := by decide +kernel
theorem dX7_changesBy_15 : decode cX7_changesBy 15 = .ok (.iconst 4, 1) := by decide +kernel
theorem dX7_changesBy_16 : decode cX7_changesBy 16 = .ok (.iload_n 1, 1) := by decide +kernel
theorem dX7_changesBy_17 : decode cX7_changesBy 17 = .ok (.iconst 1, 1) := by decide +kernel
theorem dX7_changesBy_18 : decode cX7_changesBy 18 = .ok (.iload_n 3, 1) := by decide +kernel
theorem dX7_changesBy_19 : decode cX7_changesBy 19 = .ok (.ishl, 1) := by decide +kernel
theorem dX7_changesBy_20 : decode cX7_changesBy 20 = .ok (.ior, 1) := by decide +kernel
theorem dX7_changesBy_21 : decode cX7_changesBy 21 = .ok (.imul, 1) := by decide +kernel
theorem dX7_changesBy_22 : decode cX7_changesBy 22 = .ok (.iload 4, 2) := by decide +kernel
theorem dX7_changesBy_24 : decode cX7_changesBy 24 = .ok (.iadd, 1) := by decide +kernel
theorem dX7_changesBy_25 : decode cX7_changesBy 25 = .ok (.iaload, 1) := by decide +kernel
theorem dX7_changesBy_26 : decode cX7_changesBy 26 = .ok (.iload_n 2, 1) := by decide +kernel
theorem dX7_changesBy_27 : decode cX7_changesBy 27 = .ok (.iconst 3, 1) := by decide +kernel
theorem dX7_changesBy_28 : decode cX7_changesBy 28 = .ok (.if_icmp .ge 13, 3) := by decide +kernel
theorem dX7_changesBy_31 : decode cX7_changesBy 31 = .ok (.iload_n 2, 1) := by decide +kernel
theorem dX7_changesBy_32 : decode cX7_changesBy 32 = .ok (.iload 4, 2) := by decide +kernel
theorem dX7_changesBy_34 : decode cX7_changesBy 34 = .ok (.if_icmp .eq 7, 3) := by decide +kernel
theorem dX7_changesBy_37 : decode cX7_changesBy 37 = .ok (.iconst 1, 1) := by decide +kernel
theorem dX7_changesBy_38 : decode cX7_changesBy 38 = .ok (.goto 4, 3) := by decide +kernel
theorem dX7_changesBy_41 : decode cX7_changesBy 41 = .ok (.iconst 0, 1) := by decide +kernel
theorem dX7_changesBy_42 : decode cX7_changesBy 42 = .ok (.iadd, 1) := by decide +kernel
theorem dX7_changesBy_43 : decode cX7_changesBy 43 = .ok (.ireturn, 1) := by decide +kernel
set_option maxRecDepth 20000 in
theorem ggX7_orders_X7_laysOrders : GoodIn wsX7_orders wsX7_laysOrders := goodIn_r _ [6, 7, 1, 8, 9, 10, 11, 12, 5, 13, 14, 15, 16, 17, 18, 19, 20, 21, 22, 23, 24, 25, 26, 27, 28, 29, 30, 31, 32, 33, 34, 35, 36, 37, 38, 39, 40, 41, 42, 43, 44, 45, 46, 47, 48, 49, 50, 51, 52, 53, 54, 55, 56, 57, 58, 59, 60, 61, 62, 63, 64, 65, 66, 67, 68, 69, 70, 71, 72, 73, 74, 75, 76, 77, 78] (by decide +kernel) (by decide +kernel)
set_option maxRecDepth 20000 in
theorem gX7_orders_X7_laysOrders : GoodIn wsX7_orders (wsV RX7 146 RX7 yX7_laysOrders wsX7_laysOrders) := goodIn_app (goodIn_of _ (by decide +kernel)) ggX7_orders_X7_laysOrders
theorem dX7_orders_0 : decode cX7_orders 0 = .ok (.aload_n 0, 1) := by decide +kernel
theorem dX7_orders_1 : decode cX7_orders 1 = .ok (.invokevirtual 146, 3) := by decide +kernel
theorem dX7_orders_4 : decode cX7_orders 4 = .ok (.aload_n 0, 1) := by decide +kernel
theorem dX7_orders_5 : decode cX7_orders 5 = .ok (.getfield 37, 3) := by decide +kernel
theorem dX7_orders_8 : decode cX7_orders 8 = .ok (.iconst 0, 1) := by decide +kernel
theorem dX7_orders_9 : decode cX7_orders 9 = .ok (.iaload, 1) := by decide +kernel
theorem dX7_orders_10 : decode cX7_orders 10 = .ok (.ireturn, 1) := by decide +kernel
set_option maxRecDepth 20000 in
theorem ggX7_laysRow_X7_has : GoodIn wsX7_laysRow wsX7_has := goodIn_r _ [9] (by decide +kernel) (by decide +kernel)
set_option maxRecDepth 20000 in
theorem gX7_laysRow_X7_has : GoodIn wsX7_laysRow (va_wsS RX7 70 yX7_has wsX7_has) := goodIn_app (goodIn_of _ (by decide +kernel)) ggX7_laysRow_X7_has
set_option maxRecDepth 20000 in
theorem ggX7_laysRow_X7_changesBy : GoodIn wsX7_laysRow wsX7_changesBy := goodIn_r _ [13, 1, 4, 14, 15, 16, 17, 18, 19, 20, 21, 22, 23, 24, 25, 26, 27, 28, 29, 30, 31, 32] (by decide +kernel) (by decide +kernel)
set_option maxRecDepth 20000 in
theorem gX7_laysRow_X7_changesBy : GoodIn wsX7_laysRow (wsV RX7 143 RX7 yX7_changesBy wsX7_changesBy) := goodIn_app (goodIn_of _ (by decide +kernel)) ggX7_laysRow_X7_changesBy
theorem dX7_laysRow_0 : decode cX7_laysRow 0 = .ok (.iconst 0, 1) := by decide +kernel
theorem dX7_laysRow_1 : decode cX7_laysRow 1 = .ok (.istore_n 2, 1) := by decide +kernel
theorem dX7_laysRow_2 : decode cX7_laysRow 2 = .ok (.iconst 3, 1) := by decide +kernel
theorem dX7_laysRow_3 : decode cX7_laysRow 3 = .ok (.istore_n 3, 1) := by decide +kernel
theorem dX7_laysRow_4 : decode cX7_laysRow 4 = .ok (.iconst 0, 1) := by decide +kernel
theorem dX7_laysRow_5 : decode cX7_laysRow 5 = .ok (.istore 4, 2) := by decide +kernel
theorem dX7_laysRow_7 : decode cX7_laysRow 7 = .ok (.iconst 0, 1) := by decide +kernel
theorem dX7_laysRow_8 : decode cX7_laysRow 8 = .ok (.istore 5, 2) := by decide +kernel
theorem dX7_laysRow_10 : decode cX7_laysRow 10 = .ok (.iload 5, 2) := by decide +kernel
theorem dX7_laysRow_12 : decode cX7_laysRow 12 = .ok (.aload_n 0, 1) := by decide +kernel
theorem dX7_laysRow_13 : decode cX7_laysRow 13 = .ok (.getfield 7, 3) := by decide +kernel
theorem dX7_laysRow_16 : decode cX7_laysRow 16 = .ok (.iconst 0, 1) := by decide +kernel
theorem dX7_laysRow_17 : decode cX7_laysRow 17 = .ok (.iaload, 1) := by decide +kernel
theorem dX7_laysRow_18 : decode cX7_laysRow 18 = .ok (.if_icmp .ge 128, 3) := by decide +kernel
theorem dX7_laysRow_21 : decode cX7_laysRow 21 = .ok (.iconst 0, 1) := by decide +kernel
theorem dX7_laysRow_22 : decode cX7_laysRow 22 = .ok (.istore 6, 2) := by decide +kernel
theorem dX7_laysRow_24 : decode cX7_laysRow 24 = .ok (.aload_n 0, 1) := by decide +kernel
theorem dX7_laysRow_25 : decode cX7_laysRow 25 = .ok (.getfield 34, 3) := by decide +kernel
theorem dX7_laysRow_28 : decode cX7_laysRow 28 = .ok (.iload_n 2, 1) := by decide +kernel
theorem dX7_laysRow_29 : decode cX7_laysRow 29 = .ok (.iaload, 1) := by decide +kernel
theorem dX7_laysRow_30 : decode cX7_laysRow 30 = .ok (.iload 6, 2) := by decide +kernel
theorem dX7_laysRow_32 : decode cX7_laysRow 32 = .ok (.invokestatic 70, 3) := by decide +kernel
theorem dX7_laysRow_35 : decode cX7_laysRow 35 = .ok (.ifCond .eq 43, 3) := by decide +kernel
theorem dX7_laysRow_38 : decode cX7_laysRow 38 = .ok (.aload_n 0, 1) := by decide +kernel
theorem dX7_laysRow_39 : decode cX7_laysRow 39 = .ok (.getfield 37, 3) := by decide +kernel
theorem dX7_laysRow_42 : decode cX7_laysRow 42 = .ok (.iload_n 2, 1) := by decide +kernel
theorem dX7_laysRow_43 : decode cX7_laysRow 43 = .ok (.iconst 1, 1) := by decide +kernel
theorem dX7_laysRow_44 : decode cX7_laysRow 44 = .ok (.iload 6, 2) := by decide +kernel
theorem dX7_laysRow_46 : decode cX7_laysRow 46 = .ok (.ishl, 1) := by decide +kernel
theorem dX7_laysRow_47 : decode cX7_laysRow 47 = .ok (.ior, 1) := by decide +kernel
theorem dX7_laysRow_48 : decode cX7_laysRow 48 = .ok (.iaload, 1) := by decide +kernel
theorem dX7_laysRow_49 : decode cX7_laysRow 49 = .ok (.ifCond .eq 29, 3) := by decide +kernel
theorem dX7_laysRow_52 : decode cX7_laysRow 52 = .ok (.iload_n 1, 1) := by decide +kernel
theorem dX7_laysRow_53 : decode cX7_laysRow 53 = .ok (.iconst 1, 1) := by decide +kernel
theorem dX7_laysRow_54 : decode cX7_laysRow 54 = .ok (.if_icmp .ne 30, 3) := by decide +kernel
theorem dX7_laysRow_57 : decode cX7_laysRow 57 = .ok (.aload_n 0, 1) := by decide +kernel
theorem dX7_laysRow_58 : decode cX7_laysRow 58 = .ok (.iload_n 2, 1) := by decide +kernel
theorem dX7_laysRow_59 : decode cX7_laysRow 59 = .ok (.iload_n 3, 1) := by decide +kernel
theorem dX7_laysRow_60 : decode cX7_laysRow 60 = .ok (.iload 6, 2) := by decide +kernel
theorem dX7_laysRow_62 : decode cX7_laysRow 62 = .ok (.invokevirtual 143, 3) := by decide +kernel
theorem dX7_laysRow_65 : decode cX7_laysRow 65 = .ok (.aload_n 0, 1) := by decide +kernel
theorem dX7_laysRow_66 : decode cX7_laysRow 66 = .ok (.getfield 40, 3) := by decide +kernel
theorem dX7_laysRow_69 : decode cX7_laysRow 69 = .ok (.iconst 4, 1) := by decide +kernel
theorem dX7_laysRow_70 : decode cX7_laysRow 70 = .ok (.iload_n 2, 1) := by decide +kernel
theorem dX7_laysRow_71 : decode cX7_laysRow 71 = .ok (.imul, 1) := by decide +kernel
theorem dX7_laysRow_72 : decode cX7_laysRow 72 = .ok (.iload_n 3, 1) := by decide +kernel
theorem dX7_laysRow_73 : decode cX7_laysRow 73 = .ok (.iadd, 1) := by decide +kernel
theorem dX7_laysRow_74 : decode cX7_laysRow 74 = .ok (.iaload, 1) := by decide +kernel
theorem dX7_laysRow_75 : decode cX7_laysRow 75 = .ok (.if_icmp .eq 9, 3) := by decide +kernel
theorem dX7_laysRow_78 : decode cX7_laysRow 78 = .ok (.iinc 6 1, 3) := by decide +kernel
theorem dX7_laysRow_81 : decode cX7_laysRow 81 = .ok (.goto (-57), 3) := by decide +kernel
theorem dX7_laysRow_84 : decode cX7_laysRow 84 = .ok (.iload 4, 2) := by decide +kernel
theorem dX7_laysRow_86 : decode cX7_laysRow 86 = .ok (.iload_n 3, 1) := by decide +kernel
theorem dX7_laysRow_87 : decode cX7_laysRow 87 = .ok (.iconst 3, 1) := by decide +kernel
theorem dX7_laysRow_88 : decode cX7_laysRow 88 = .ok (.if_icmp .ge 21, 3) := by decide +kernel
theorem dX7_laysRow_91 : decode cX7_laysRow 91 = .ok (.iload_n 3, 1) := by decide +kernel
theorem dX7_laysRow_92 : decode cX7_laysRow 92 = .ok (.aload_n 0, 1) := by decide +kernel
theorem dX7_laysRow_93 : decode cX7_laysRow 93 = .ok (.getfield 7, 3) := by decide +kernel
theorem dX7_laysRow_96 : decode cX7_laysRow 96 = .ok (.bipush 14, 2) := by decide +kernel
theorem dX7_laysRow_98 : decode cX7_laysRow 98 = .ok (.iload 6, 2) := by decide +kernel
theorem dX7_laysRow_100 : decode cX7_laysRow 100 = .ok (.iadd, 1) := by decide +kernel
theorem dX7_laysRow_101 : decode cX7_laysRow 101 = .ok (.iaload, 1) := by decide +kernel
theorem dX7_laysRow_102 : decode cX7_laysRow 102 = .ok (.if_icmp .eq 7, 3) := by decide +kernel
theorem dX7_laysRow_105 : decode cX7_laysRow 105 = .ok (.iconst 1, 1) := by decide +kernel
theorem dX7_laysRow_106 : decode cX7_laysRow 106 = .ok (.goto 4, 3) := by decide +kernel
theorem dX7_laysRow_109 : decode cX7_laysRow 109 = .ok (.iconst 0, 1) := by decide +kernel
theorem dX7_laysRow_110 : decode cX7_laysRow 110 = .ok (.iadd, 1) := by decide +kernel
theorem dX7_laysRow_111 : decode cX7_laysRow 111 = .ok (.istore 4, 2) := by decide +kernel
theorem dX7_laysRow_113 : decode cX7_laysRow 113 = .ok (.aload_n 0, 1) := by decide +kernel
theorem dX7_laysRow_114 : decode cX7_laysRow 114 = .ok (.getfield 43, 3) := by decide +kernel
theorem dX7_laysRow_117 : decode cX7_laysRow 117 = .ok (.iload 5, 2) := by decide +kernel
theorem dX7_laysRow_119 : decode cX7_laysRow 119 = .ok (.iload 6, 2) := by decide +kernel
theorem dX7_laysRow_121 : decode cX7_laysRow 121 = .ok (.iastore, 1) := by decide +kernel
theorem dX7_laysRow_122 : decode cX7_laysRow 122 = .ok (.iload_n 2, 1) := by decide +kernel
theorem dX7_laysRow_123 : decode cX7_laysRow 123 = .ok (.iconst 1, 1) := by decide +kernel
theorem dX7_laysRow_124 : decode cX7_laysRow 124 = .ok (.iload 6, 2) := by decide +kernel
theorem dX7_laysRow_126 : decode cX7_laysRow 126 = .ok (.ishl, 1) := by decide +kernel
theorem dX7_laysRow_127 : decode cX7_laysRow 127 = .ok (.ior, 1) := by decide +kernel
theorem dX7_laysRow_128 : decode cX7_laysRow 128 = .ok (.istore_n 2, 1) := by decide +kernel
theorem dX7_laysRow_129 : decode cX7_laysRow 129 = .ok (.aload_n 0, 1) := by decide +kernel
theorem dX7_laysRow_130 : decode cX7_laysRow 130 = .ok (.getfield 7, 3) := by decide +kernel
theorem dX7_laysRow_133 : decode cX7_laysRow 133 = .ok (.bipush 14, 2) := by decide +kernel
theorem dX7_laysRow_135 : decode cX7_laysRow 135 = .ok (.iload 6, 2) := by decide +kernel
theorem dX7_laysRow_137 : decode cX7_laysRow 137 = .ok (.iadd, 1) := by decide +kernel
theorem dX7_laysRow_138 : decode cX7_laysRow 138 = .ok (.iaload, 1) := by decide +kernel
theorem dX7_laysRow_139 : decode cX7_laysRow 139 = .ok (.istore_n 3, 1) := by decide +kernel
theorem dX7_laysRow_140 : decode cX7_laysRow 140 = .ok (.iinc 5 1, 3) := by decide +kernel
theorem dX7_laysRow_143 : decode cX7_laysRow 143 = .ok (.goto (-133), 3) := by decide +kernel
theorem dX7_laysRow_146 : decode cX7_laysRow 146 = .ok (.iload 4, 2) := by decide +kernel
theorem dX7_laysRow_148 : decode cX7_laysRow 148 = .ok (.ireturn, 1) := by decide +kernel
set_option maxRecDepth 20000 in
theorem ggX7_order_X7_isBend : GoodIn wsX7_order wsX7_isBend := goodIn_r _ [6, 7, 8, 9, 5, 10, 81, 82, 83, 84, 85, 86, 87, 88, 89, 90, 91, 92, 93, 94, 95, 96, 97, 98, 99] (by decide +kernel) (by decide +kernel)
set_option maxRecDepth 20000 in
theorem gX7_order_X7_isBend : GoodIn wsX7_order (wsV RX7 123 RX7 yX7_isBend wsX7_isBend) := goodIn_app (goodIn_of _ (by decide +kernel)) ggX7_order_X7_isBend
set_option maxRecDepth 20000 in
theorem ggX7_order_X7_within : GoodIn wsX7_order wsX7_within := goodIn_r _ [10] (by decide +kernel) (by decide +kernel)
set_option maxRecDepth 20000 in
theorem gX7_order_X7_within : GoodIn wsX7_order (va_wsS RX7 52 yX7_within wsX7_within) := goodIn_app (goodIn_of _ (by decide +kernel)) ggX7_order_X7_within
set_option maxRecDepth 20000 in
theorem ggX7_order_X7_counts : GoodIn wsX7_order wsX7_counts := goodIn_r _ [14, 15, 81, 82, 83, 84, 85, 86, 87, 88, 89, 90, 91, 92, 93, 94, 95, 96, 97, 98, 99] (by decide +kernel) (by decide +kernel)
set_option maxRecDepth 20000 in
theorem gX7_order_X7_counts : GoodIn wsX7_order (wsV RX7 60 RX7 yX7_counts wsX7_counts) := goodIn_app (goodIn_of _ (by decide +kernel)) ggX7_order_X7_counts
set_option maxRecDepth 20000 in
theorem ggX7_order_X7_orders : GoodIn wsX7_order wsX7_orders := goodIn_r _ [19, 20, 21, 22, 23, 5, 24, 25, 26, 7, 27, 28, 29, 30, 31, 32, 33, 34, 35, 36, 37, 38, 39, 40, 41, 42, 43, 44, 45, 46, 47, 48, 49, 50, 51, 52, 53, 54, 55, 56, 57, 58, 59, 60, 61, 62, 63, 64, 65, 66, 67, 68, 69, 70, 71, 72, 73, 74, 75, 76, 81, 82, 83, 84, 85, 86, 87, 88, 89, 90, 91, 92, 93, 94, 95, 96, 97, 98, 99] (by decide +kernel) (by decide +kernel)
set_option maxRecDepth 20000 in
theorem gX7_order_X7_orders : GoodIn wsX7_order (wsV RX7 149 RX7 yX7_orders wsX7_orders) := goodIn_app (goodIn_of _ (by decide +kernel)) ggX7_order_X7_orders
set_option maxRecDepth 20000 in
theorem ggX7_order_X7_laysRow : GoodIn wsX7_order wsX7_laysRow := goodIn_r _ [80, 7, 25, 20, 26, 1, 35, 36, 5, 37, 73, 74, 75, 76, 81, 82, 83, 84, 85, 86, 87, 88, 89, 90, 91, 92, 93, 94, 95, 96, 97, 98, 99] (by decide +kernel) (by decide +kernel)
set_option maxRecDepth 20000 in
theorem gX7_order_X7_laysRow : GoodIn wsX7_order (wsV RX7 152 RX7 yX7_laysRow wsX7_laysRow) := goodIn_app (goodIn_of _ (by decide +kernel)) ggX7_order_X7_laysRow
theorem dX7_order_0 : decode cX7_order 0 = .ok (.aload_n 0, 1) := by decide +kernel
theorem dX7_order_1 : decode cX7_order 1 = .ok (.iload_n 1, 1) := by decide +kernel
theorem dX7_order_2 : decode cX7_order 2 = .ok (.invokevirtual 123, 3) := by decide +kernel
theorem dX7_order_5 : decode cX7_order 5 = .ok (.ifCond .eq 12, 3) := by decide +kernel
theorem dX7_order_8 : decode cX7_order 8 = .ok (.iload_n 2, 1) := by decide +kernel
theorem dX7_order_9 : decode cX7_order 9 = .ok (.iconst 0, 1) := by decide +kernel
theorem dX7_order_10 : decode cX7_order 10 = .ok (.iconst 1, 1) := by decide +kernel
theorem dX7_order_11 : decode cX7_order 11 = .ok (.invokestatic 52, 3) := by decide +kernel
theorem dX7_order_14 : decode cX7_order 14 = .ok (.ifCond .ne 11, 3) := by decide +kernel
theorem dX7_order_17 : decode cX7_order 17 = .ok (.aload_n 0, 1) := by decide +kernel
theorem dX7_order_18 : decode cX7_order 18 = .ok (.sipush (-1001), 3) := by decide +kernel
theorem dX7_order_21 : decode cX7_order 21 = .ok (.invokevirtual 60, 3) := by decide +kernel
theorem dX7_order_24 : decode cX7_order 24 = .ok (.ireturn, 1) := by decide +kernel
theorem dX7_order_25 : decode cX7_order 25 = .ok (.aload_n 0, 1) := by decide +kernel
theorem dX7_order_26 : decode cX7_order 26 = .ok (.invokevirtual 149, 3) := by decide +kernel
theorem dX7_order_29 : decode cX7_order 29 = .ok (.ifCond .ne 7, 3) := by decide +kernel
theorem dX7_order_32 : decode cX7_order 32 = .ok (.sipush (-1000), 3) := by decide +kernel
theorem dX7_order_35 : decode cX7_order 35 = .ok (.ireturn, 1) := by decide +kernel
theorem dX7_order_36 : decode cX7_order 36 = .ok (.aload_n 0, 1) := by decide +kernel
theorem dX7_order_37 : decode cX7_order 37 = .ok (.iload_n 2, 1) := by decide +kernel
theorem dX7_order_38 : decode cX7_order 38 = .ok (.invokevirtual 152, 3) := by decide +kernel
theorem dX7_order_41 : decode cX7_order 41 = .ok (.pop, 1) := by decide +kernel
theorem dX7_order_42 : decode cX7_order 42 = .ok (.aload_n 0, 1) := by decide +kernel
theorem dX7_order_43 : decode cX7_order 43 = .ok (.getfield 43, 3) := by decide +kernel
theorem dX7_order_46 : decode cX7_order 46 = .ok (.iload_n 1, 1) := by decide +kernel
theorem dX7_order_47 : decode cX7_order 47 = .ok (.iaload, 1) := by decide +kernel
theorem dX7_order_48 : decode cX7_order 48 = .ok (.ireturn, 1) := by decide +kernel
set_option maxRecDepth 20000 in
theorem ggX7_changesIs_X7_laysRow : GoodIn wsX7_changesIs wsX7_laysRow := goodIn_r _ [6, 7, 8, 1, 9, 10, 11, 12, 5, 13, 14, 15, 16, 17, 18, 19, 20, 21, 22, 23, 24, 25, 26, 27, 28, 29, 30, 31, 32, 33, 34, 35, 36] (by decide +kernel) (by decide +kernel)
set_option maxRecDepth 20000 in
theorem gX7_changesIs_X7_laysRow : GoodIn wsX7_changesIs (wsV RX7 152 RX7 yX7_laysRow wsX7_laysRow) := goodIn_app (goodIn_of _ (by decide +kernel)) ggX7_changesIs_X7_laysRow
theorem dX7_changesIs_0 : decode cX7_changesIs 0 = .ok (.aload_n 0, 1) := by decide +kernel
theorem dX7_changesIs_1 : decode cX7_changesIs 1 = .ok (.getfield 37, 3) := by decide +kernel
theorem dX7_changesIs_4 : decode cX7_changesIs 4 = .ok (.iconst 0, 1) := by decide +kernel
theorem dX7_changesIs_5 : decode cX7_changesIs 5 = .ok (.iaload, 1) := by decide +kernel
theorem dX7_changesIs_6 : decode cX7_changesIs 6 = .ok (.ifCond .ne 9, 3) := by decide +kernel
theorem dX7_changesIs_9 : decode cX7_changesIs 9 = .ok (.sipush (-1000), 3) := by decide +kernel
theorem dX7_changesIs_12 : decode cX7_changesIs 12 = .ok (.goto 10, 3) := by decide +kernel
theorem dX7_changesIs_15 : decode cX7_changesIs 15 = .ok (.aload_n 0, 1) := by decide +kernel
theorem dX7_changesIs_16 : decode cX7_changesIs 16 = .ok (.iconst 1, 1) := by decide +kernel
theorem dX7_changesIs_17 : decode cX7_changesIs 17 = .ok (.iload_n 1, 1) := by decide +kernel
theorem dX7_changesIs_18 : decode cX7_changesIs 18 = .ok (.isub, 1) := by decide +kernel
theorem dX7_changesIs_19 : decode cX7_changesIs 19 = .ok (.invokevirtual 152, 3) := by decide +kernel
theorem dX7_changesIs_22 : decode cX7_changesIs 22 = .ok (.ireturn, 1) := by decide +kernel
set_option maxRecDepth 20000 in
theorem ggX7_changes_X7_within : GoodIn wsX7_changes wsX7_within := goodIn_r _ [4] (by decide +kernel) (by decide +kernel)
set_option maxRecDepth 20000 in
theorem gX7_changes_X7_within : GoodIn wsX7_changes (va_wsS RX7 52 yX7_within wsX7_within) := goodIn_app (goodIn_of _ (by decide +kernel)) ggX7_changes_X7_within
