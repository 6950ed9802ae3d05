theorem inJ10 : ∀ w ∈ wsJ100, w ∈ lw_tbl := by decide +kernel
theorem inJ7 : ∀ w ∈ wsJ70, w ∈ lw_tbl := by decide +kernel
set_option maxRecDepth 20000 in
theorem ggX0_init_X4_init : GoodIn wsX0_init wsX4_init := goodIn_r _ [12, 13, 2, 3, 14, 15, 16, 17, 18, 19, 20, 21, 22, 26, 27, 28, 29, 30, 31, 32, 33] (by decide +kernel) (by decide +kernel)
set_option maxRecDepth 20000 in
theorem gX0_init_X4_init : GoodIn wsX0_init (wsX4_init) := ggX0_init_X4_init
theorem dX0_init_0 : decode cX0_init 0 = .ok (.aload_n 0, 1) := by decide +kernel
theorem dX0_init_1 : decode cX0_init 1 = .ok (.invokespecial 3, 3) := by decide +kernel
theorem dX0_init_4 : decode cX0_init 4 = .ok (.aload_n 0, 1) := by decide +kernel
theorem dX0_init_5 : decode cX0_init 5 = .ok (.bipush 6, 2) := by decide +kernel
theorem dX0_init_7 : decode cX0_init 7 = .ok (.anewarray 11, 3) := by decide +kernel
theorem dX0_init_10 : decode cX0_init 10 = .ok (.putfield 13, 3) := by decide +kernel
theorem dX0_init_13 : decode cX0_init 13 = .ok (.iconst 0, 1) := by decide +kernel
theorem dX0_init_14 : decode cX0_init 14 = .ok (.istore_n 1, 1) := by decide +kernel
theorem dX0_init_15 : decode cX0_init 15 = .ok (.iload_n 1, 1) := by decide +kernel
theorem dX0_init_16 : decode cX0_init 16 = .ok (.bipush 6, 2) := by decide +kernel
theorem dX0_init_18 : decode cX0_init 18 = .ok (.if_icmp .ge 22, 3) := by decide +kernel
theorem dX0_init_21 : decode cX0_init 21 = .ok (.aload_n 0, 1) := by decide +kernel
theorem dX0_init_22 : decode cX0_init 22 = .ok (.getfield 13, 3) := by decide +kernel
theorem dX0_init_25 : decode cX0_init 25 = .ok (.iload_n 1, 1) := by decide +kernel
theorem dX0_init_26 : decode cX0_init 26 = .ok (.new 11, 3) := by decide +kernel
theorem dX0_init_29 : decode cX0_init 29 = .ok (.dup, 1) := by decide +kernel
theorem dX0_init_30 : decode cX0_init 30 = .ok (.invokespecial 17, 3) := by decide +kernel
theorem dX0_init_33 : decode cX0_init 33 = .ok (.aastore, 1) := by decide +kernel
theorem dX0_init_34 : decode cX0_init 34 = .ok (.iinc 1 1, 3) := by decide +kernel
theorem dX0_init_37 : decode cX0_init 37 = .ok (.goto (-22), 3) := by decide +kernel
theorem dX0_init_40 : decode cX0_init 40 = .ok (.aload_n 0, 1) := by decide +kernel
theorem dX0_init_41 : decode cX0_init 41 = .ok (.iconst 0, 1) := by decide +kernel
theorem dX0_init_42 : decode cX0_init 42 = .ok (.putfield 18, 3) := by decide +kernel
theorem dX0_init_45 : decode cX0_init 45 = .ok (.aload_n 0, 1) := by decide +kernel
theorem dX0_init_46 : decode cX0_init 46 = .ok (.iconst 0, 1) := by decide +kernel
theorem dX0_init_47 : decode cX0_init 47 = .ok (.putfield 22, 3) := by decide +kernel
theorem dX0_init_50 : decode cX0_init 50 = .ok (.return_, 1) := by decide +kernel
set_option maxRecDepth 20000 in
theorem ggX0_stage_X4_copyFrom : GoodIn wsX0_stage wsX4_copyFrom := goodIn_r _ [7, 8, 9, 10, 11, 12, 13, 14, 15, 16, 17, 18, 19, 23, 24, 25, 26, 27, 28, 29, 30] (by decide +kernel) (by decide +kernel)
set_option maxRecDepth 20000 in
theorem gX0_stage_X4_copyFrom : GoodIn wsX0_stage (wsV RX0 25 RX4 yX4_copyFrom wsX4_copyFrom) := goodIn_app (goodIn_of _ (by decide +kernel)) ggX0_stage_X4_copyFrom
theorem dX0_stage_0 : decode cX0_stage 0 = .ok (.aload_n 0, 1) := by decide +kernel
theorem dX0_stage_1 : decode cX0_stage 1 = .ok (.getfield 13, 3) := by decide +kernel
theorem dX0_stage_4 : decode cX0_stage 4 = .ok (.aload_n 0, 1) := by decide +kernel
theorem dX0_stage_5 : decode cX0_stage 5 = .ok (.getfield 18, 3) := by decide +kernel
theorem dX0_stage_8 : decode cX0_stage 8 = .ok (.aaload, 1) := by decide +kernel
theorem dX0_stage_9 : decode cX0_stage 9 = .ok (.aload_n 1, 1) := by decide +kernel
theorem dX0_stage_10 : decode cX0_stage 10 = .ok (.invokevirtual 25, 3) := by decide +kernel
theorem dX0_stage_13 : decode cX0_stage 13 = .ok (.return_, 1) := by decide +kernel
theorem dX0_keepStaged_0 : decode cX0_keepStaged 0 = .ok (.aload_n 0, 1) := by decide +kernel
theorem dX0_keepStaged_1 : decode cX0_keepStaged 1 = .ok (.aload_n 0, 1) := by decide +kernel
theorem dX0_keepStaged_2 : decode cX0_keepStaged 2 = .ok (.getfield 18, 3) := by decide +kernel
theorem dX0_keepStaged_5 : decode cX0_keepStaged 5 = .ok (.iconst 1, 1) := by decide +kernel
theorem dX0_keepStaged_6 : decode cX0_keepStaged 6 = .ok (.iadd, 1) := by decide +kernel
theorem dX0_keepStaged_7 : decode cX0_keepStaged 7 = .ok (.bipush 6, 2) := by decide +kernel
theorem dX0_keepStaged_9 : decode cX0_keepStaged 9 = .ok (.irem, 1) := by decide +kernel
theorem dX0_keepStaged_10 : decode cX0_keepStaged 10 = .ok (.putfield 18, 3) := by decide +kernel
theorem dX0_keepStaged_13 : decode cX0_keepStaged 13 = .ok (.aload_n 0, 1) := by decide +kernel
theorem dX0_keepStaged_14 : decode cX0_keepStaged 14 = .ok (.aload_n 0, 1) := by decide +kernel
theorem dX0_keepStaged_15 : decode cX0_keepStaged 15 = .ok (.getfield 22, 3) := by decide +kernel
theorem dX0_keepStaged_18 : decode cX0_keepStaged 18 = .ok (.iconst 1, 1) := by decide +kernel
theorem dX0_keepStaged_19 : decode cX0_keepStaged 19 = .ok (.iadd, 1) := by decide +kernel
theorem dX0_keepStaged_20 : decode cX0_keepStaged 20 = .ok (.iconst 5, 1) := by decide +kernel
theorem dX0_keepStaged_21 : decode cX0_keepStaged 21 = .ok (.invokestatic 29, 3) := by decide +kernel
theorem dX0_keepStaged_24 : decode cX0_keepStaged 24 = .ok (.putfield 22, 3) := by decide +kernel
theorem dX0_keepStaged_27 : decode cX0_keepStaged 27 = .ok (.return_, 1) := by decide +kernel
set_option maxRecDepth 20000 in
theorem ggX0_restoreStaged_X4_copyFrom : GoodIn wsX0_restoreStaged wsX4_copyFrom := goodIn_r _ [7, 8, 9, 10, 11, 12, 13, 14, 15, 16, 17, 18, 19, 23, 24, 25, 26, 27, 28, 29, 30] (by decide +kernel) (by decide +kernel)
set_option maxRecDepth 20000 in
theorem gX0_restoreStaged_X4_copyFrom : GoodIn wsX0_restoreStaged (wsV RX0 25 RX4 yX4_copyFrom wsX4_copyFrom) := goodIn_app (goodIn_of _ (by decide +kernel)) ggX0_restoreStaged_X4_copyFrom
theorem dX0_restoreStaged_0 : decode cX0_restoreStaged 0 = .ok (.aload_n 1, 1) := by decide +kernel
theorem dX0_restoreStaged_1 : decode cX0_restoreStaged 1 = .ok (.aload_n 0, 1) := by decide +kernel
theorem dX0_restoreStaged_2 : decode cX0_restoreStaged 2 = .ok (.getfield 13, 3) := by decide +kernel
theorem dX0_restoreStaged_5 : decode cX0_restoreStaged 5 = .ok (.aload_n 0, 1) := by decide +kernel
theorem dX0_restoreStaged_6 : decode cX0_restoreStaged 6 = .ok (.getfield 18, 3) := by decide +kernel
theorem dX0_restoreStaged_9 : decode cX0_restoreStaged 9 = .ok (.aaload, 1) := by decide +kernel
theorem dX0_restoreStaged_10 : decode cX0_restoreStaged 10 = .ok (.invokevirtual 25, 3) := by decide +kernel
theorem dX0_restoreStaged_13 : decode cX0_restoreStaged 13 = .ok (.return_, 1) := by decide +kernel
set_option maxRecDepth 20000 in
theorem ggX0_restoreLast_X4_copyFrom : GoodIn wsX0_restoreLast wsX4_copyFrom := goodIn_r _ [8, 9, 10, 11, 12, 13, 14, 15, 16, 17, 18, 19, 20, 24, 25, 26, 27, 28, 29, 30, 31] (by decide +kernel) (by decide +kernel)
set_option maxRecDepth 20000 in
theorem gX0_restoreLast_X4_copyFrom : GoodIn wsX0_restoreLast (wsV RX0 25 RX4 yX4_copyFrom wsX4_copyFrom) := goodIn_app (goodIn_of _ (by decide +kernel)) ggX0_restoreLast_X4_copyFrom
theorem dX0_restoreLast_0 : decode cX0_restoreLast 0 = .ok (.aload_n 0, 1) := by decide +kernel
theorem dX0_restoreLast_1 : decode cX0_restoreLast 1 = .ok (.aload_n 0, 1) := by decide +kernel
theorem dX0_restoreLast_2 : decode cX0_restoreLast 2 = .ok (.getfield 18, 3) := by decide +kernel
theorem dX0_restoreLast_5 : decode cX0_restoreLast 5 = .ok (.bipush 6, 2) := by decide +kernel
theorem dX0_restoreLast_7 : decode cX0_restoreLast 7 = .ok (.iadd, 1) := by decide +kernel
theorem dX0_restoreLast_8 : decode cX0_restoreLast 8 = .ok (.iconst 1, 1) := by decide +kernel
theorem dX0_restoreLast_9 : decode cX0_restoreLast 9 = .ok (.isub, 1) := by decide +kernel
theorem dX0_restoreLast_10 : decode cX0_restoreLast 10 = .ok (.bipush 6, 2) := by decide +kernel
theorem dX0_restoreLast_12 : decode cX0_restoreLast 12 = .ok (.irem, 1) := by decide +kernel
theorem dX0_restoreLast_13 : decode cX0_restoreLast 13 = .ok (.putfield 18, 3) := by decide +kernel
theorem dX0_restoreLast_16 : decode cX0_restoreLast 16 = .ok (.aload_n 0, 1) := by decide +kernel
theorem dX0_restoreLast_17 : decode cX0_restoreLast 17 = .ok (.dup, 1) := by decide +kernel
theorem dX0_restoreLast_18 : decode cX0_restoreLast 18 = .ok (.getfield 22, 3) := by decide +kernel
theorem dX0_restoreLast_21 : decode cX0_restoreLast 21 = .ok (.iconst 1, 1) := by decide +kernel
theorem dX0_restoreLast_22 : decode cX0_restoreLast 22 = .ok (.isub, 1) := by decide +kernel
theorem dX0_restoreLast_23 : decode cX0_restoreLast 23 = .ok (.putfield 22, 3) := by decide +kernel
theorem dX0_restoreLast_26 : decode cX0_restoreLast 26 = .ok (.aload_n 1, 1) := by decide +kernel
theorem dX0_restoreLast_27 : decode cX0_restoreLast 27 = .ok (.aload_n 0, 1) := by decide +kernel
theorem dX0_restoreLast_28 : decode cX0_restoreLast 28 = .ok (.getfield 13, 3) := by decide +kernel
theorem dX0_restoreLast_31 : decode cX0_restoreLast 31 = .ok (.aload_n 0, 1) := by decide +kernel
theorem dX0_restoreLast_32 : decode cX0_restoreLast 32 = .ok (.getfield 18, 3) := by decide +kernel
theorem dX0_restoreLast_35 : decode cX0_restoreLast 35 = .ok (.aaload, 1) := by decide +kernel
theorem dX0_restoreLast_36 : decode cX0_restoreLast 36 = .ok (.invokevirtual 25, 3) := by decide +kernel
theorem dX0_restoreLast_39 : decode cX0_restoreLast 39 = .ok (.return_, 1) := by decide +kernel
set_option maxRecDepth 20000 in
theorem ggX1_init_J7_fill_53178 : GoodIn wsX1_init wsJ7_fill_53178 := goodIn_r _ [20] (by decide +kernel) (by decide +kernel)
set_option maxRecDepth 20000 in
theorem gX1_init_J7_fill_53178 : GoodIn wsX1_init (va_wsS RX1 38 yJ7_fill_53178 wsJ7_fill_53178) := goodIn_app (goodIn_of _ (by decide +kernel)) ggX1_init_J7_fill_53178
theorem dX1_init_0 : decode cX1_init 0 = .ok (.aload_n 0, 1) := by decide +kernel
theorem dX1_init_1 : decode cX1_init 1 = .ok (.invokespecial 3, 3) := by decide +kernel
theorem dX1_init_4 : decode cX1_init 4 = .ok (.aload_n 0, 1) := by decide +kernel
theorem dX1_init_5 : decode cX1_init 5 = .ok (.bipush 64, 2) := by decide +kernel
theorem dX1_init_7 : decode cX1_init 7 = .ok (.newarray .int, 2) := by decide +kernel
theorem dX1_init_9 : decode cX1_init 9 = .ok (.putfield 9, 3) := by decide +kernel
theorem dX1_init_12 : decode cX1_init 12 = .ok (.aload_n 0, 1) := by decide +kernel
theorem dX1_init_13 : decode cX1_init 13 = .ok (.bipush 64, 2) := by decide +kernel
theorem dX1_init_15 : decode cX1_init 15 = .ok (.newarray .int, 2) := by decide +kernel
theorem dX1_init_17 : decode cX1_init 17 = .ok (.putfield 15, 3) := by decide +kernel
theorem dX1_init_20 : decode cX1_init 20 = .ok (.aload_n 0, 1) := by decide +kernel
theorem dX1_init_21 : decode cX1_init 21 = .ok (.bipush 64, 2) := by decide +kernel
theorem dX1_init_23 : decode cX1_init 23 = .ok (.newarray .int, 2) := by decide +kernel
theorem dX1_init_25 : decode cX1_init 25 = .ok (.putfield 18, 3) := by decide +kernel
theorem dX1_init_28 : decode cX1_init 28 = .ok (.aload_n 0, 1) := by decide +kernel
theorem dX1_init_29 : decode cX1_init 29 = .ok (.sipush 256, 3) := by decide +kernel
theorem dX1_init_32 : decode cX1_init 32 = .ok (.newarray .int, 2) := by decide +kernel
theorem dX1_init_34 : decode cX1_init 34 = .ok (.putfield 21, 3) := by decide +kernel
theorem dX1_init_37 : decode cX1_init 37 = .ok (.aload_n 0, 1) := by decide +kernel
theorem dX1_init_38 : decode cX1_init 38 = .ok (.bipush 6, 2) := by decide +kernel
theorem dX1_init_40 : decode cX1_init 40 = .ok (.newarray .int, 2) := by decide +kernel
theorem dX1_init_42 : decode cX1_init 42 = .ok (.putfield 24, 3) := by decide +kernel
theorem dX1_init_45 : decode cX1_init 45 = .ok (.aload_n 0, 1) := by decide +kernel
theorem dX1_init_46 : decode cX1_init 46 = .ok (.bipush 6, 2) := by decide +kernel
theorem dX1_init_48 : decode cX1_init 48 = .ok (.newarray .int, 2) := by decide +kernel
theorem dX1_init_50 : decode cX1_init 50 = .ok (.putfield 27, 3) := by decide +kernel
theorem dX1_init_53 : decode cX1_init 53 = .ok (.aload_n 0, 1) := by decide +kernel
theorem dX1_init_54 : decode cX1_init 54 = .ok (.aload_n 1, 1) := by decide +kernel
theorem dX1_init_55 : decode cX1_init 55 = .ok (.putfield 30, 3) := by decide +kernel
theorem dX1_init_58 : decode cX1_init 58 = .ok (.aload_n 0, 1) := by decide +kernel
theorem dX1_init_59 : decode cX1_init 59 = .ok (.aload_n 2, 1) := by decide +kernel
theorem dX1_init_60 : decode cX1_init 60 = .ok (.putfield 34, 3) := by decide +kernel
theorem dX1_init_63 : decode cX1_init 63 = .ok (.aload_n 0, 1) := by decide +kernel
theorem dX1_init_64 : decode cX1_init 64 = .ok (.getfield 9, 3) := by decide +kernel
theorem dX1_init_67 : decode cX1_init 67 = .ok (.iconst (-1), 1) := by decide +kernel
theorem dX1_init_68 : decode cX1_init 68 = .ok (.invokestatic 38, 3) := by decide +kernel
theorem dX1_init_71 : decode cX1_init 71 = .ok (.aload_n 0, 1) := by decide +kernel
theorem dX1_init_72 : decode cX1_init 72 = .ok (.getfield 15, 3) := by decide +kernel
theorem dX1_init_75 : decode cX1_init 75 = .ok (.iconst (-1), 1) := by decide +kernel
theorem dX1_init_76 : decode cX1_init 76 = .ok (.invokestatic 38, 3) := by decide +kernel
theorem dX1_init_79 : decode cX1_init 79 = .ok (.aload_n 0, 1) := by decide +kernel
theorem dX1_init_80 : decode cX1_init 80 = .ok (.iconst 0, 1) := by decide +kernel
theorem dX1_init_81 : decode cX1_init 81 = .ok (.putfield 44, 3) := by decide +kernel
theorem dX1_init_84 : decode cX1_init 84 = .ok (.aload_n 0, 1) := by decide +kernel
theorem dX1_init_85 : decode cX1_init 85 = .ok (.iconst 0, 1) := by decide +kernel
theorem dX1_init_86 : decode cX1_init 86 = .ok (.putfield 48, 3) := by decide +kernel
theorem dX1_init_89 : decode cX1_init 89 = .ok (.aload_n 0, 1) := by decide +kernel
theorem dX1_init_90 : decode cX1_init 90 = .ok (.iconst 0, 1) := by decide +kernel
theorem dX1_init_91 : decode cX1_init 91 = .ok (.putfield 52, 3) := by decide +kernel
theorem dX1_init_94 : decode cX1_init 94 = .ok (.aload_n 0, 1) := by decide +kernel
theorem dX1_init_95 : decode cX1_init 95 = .ok (.iconst 0, 1) := by decide +kernel
theorem dX1_init_96 : decode cX1_init 96 = .ok (.putfield 55, 3) := by decide +kernel
theorem dX1_init_99 : decode cX1_init 99 = .ok (.return_, 1) := by decide +kernel
set_option maxRecDepth 20000 in
theorem ggX1_forget_J7_fill_53178 : GoodIn wsX1_forget wsJ7_fill_53178 := goodIn_r _ [7] (by decide +kernel) (by decide +kernel)
set_option maxRecDepth 20000 in
theorem gX1_forget_J7_fill_53178 : GoodIn wsX1_forget (va_wsS RX1 38 yJ7_fill_53178 wsJ7_fill_53178) := goodIn_app (goodIn_of _ (by decide +kernel)) ggX1_forget_J7_fill_53178
theorem dX1_forget_0 : decode cX1_forget 0 = .ok (.aload_n 0, 1) := by decide +kernel
theorem dX1_forget_1 : decode cX1_forget 1 = .ok (.getfield 9, 3) := by decide +kernel
theorem dX1_forget_4 : decode cX1_forget 4 = .ok (.iconst (-1), 1) := by decide +kernel
theorem dX1_forget_5 : decode cX1_forget 5 = .ok (.invokestatic 38, 3) := by decide +kernel
theorem dX1_forget_8 : decode cX1_forget 8 = .ok (.aload_n 0, 1) := by decide +kernel
theorem dX1_forget_9 : decode cX1_forget 9 = .ok (.getfield 15, 3) := by decide +kernel
theorem dX1_forget_12 : decode cX1_forget 12 = .ok (.iconst (-1), 1) := by decide +kernel
theorem dX1_forget_13 : decode cX1_forget 13 = .ok (.invokestatic 38, 3) := by decide +kernel
theorem dX1_forget_16 : decode cX1_forget 16 = .ok (.aload_n 0, 1) := by decide +kernel
theorem dX1_forget_17 : decode cX1_forget 17 = .ok (.iconst 0, 1) := by decide +kernel
theorem dX1_forget_18 : decode cX1_forget 18 = .ok (.putfield 44, 3) := by decide +kernel
theorem dX1_forget_21 : decode cX1_forget 21 = .ok (.return_, 1) := by decide +kernel
set_option maxRecDepth 20000 in
theorem ggX1_hitOf_X3_trace : GoodIn wsX1_hitOf wsX3_trace := goodIn_r _ [7, 8, 9, 10, 11, 12, 13, 14, 15, 16, 55, 56, 57, 58, 59, 60, 61, 62, 63, 64, 65, 66] (by decide +kernel) (by decide +kernel)
set_option maxRecDepth 20000 in
theorem gX1_hitOf_X3_trace : GoodIn wsX1_hitOf (wsV RX1 58 RX3 yX3_trace wsX3_trace) := goodIn_app (goodIn_of _ (by decide +kernel)) ggX1_hitOf_X3_trace
set_option maxRecDepth 20000 in
theorem ggX1_hitOf_X3_pressHit : GoodIn wsX1_hitOf wsX3_pressHit := goodIn_r _ [20, 16, 13, 10, 15, 9, 11, 14, 21, 22, 23, 24, 25, 26, 27, 28, 6, 29, 55, 56, 57, 58, 59, 60, 61, 62, 63, 64, 65, 66] (by decide +kernel) (by decide +kernel)
set_option maxRecDepth 20000 in
theorem gX1_hitOf_X3_pressHit : GoodIn wsX1_hitOf (wsV RX1 64 RX3 yX3_pressHit wsX3_pressHit) := goodIn_app (goodIn_of _ (by decide +kernel)) ggX1_hitOf_X3_pressHit
set_option maxRecDepth 20000 in
theorem ggX1_hitOf_X1_crossesAt : GoodIn wsX1_hitOf wsX1_crossesAt := goodIn_r _ [34, 35, 1, 2, 3, 4, 5, 6, 7, 8, 9, 10, 11, 12, 13, 14, 15, 16, 36, 37, 38, 39, 21, 22, 23, 24, 40, 41, 42, 27, 28, 29, 43, 44, 45, 46, 47, 48, 49, 50, 51, 52, 53, 54, 55, 56, 57, 58, 59, 60, 61, 62, 63, 64, 65, 66] (by decide +kernel) (by decide +kernel)
set_option maxRecDepth 20000 in
theorem gX1_hitOf_X1_crossesAt : GoodIn wsX1_hitOf (wsV RX1 68 RX1 yX1_crossesAt wsX1_crossesAt) := goodIn_app (goodIn_of _ (by decide +kernel)) ggX1_hitOf_X1_crossesAt
theorem dX1_hitOf_0 : decode cX1_hitOf 0 = .ok (.aload_n 0, 1) := by decide +kernel
theorem dX1_hitOf_1 : decode cX1_hitOf 1 = .ok (.getfield 34, 3) := by decide +kernel
theorem dX1_hitOf_4 : decode cX1_hitOf 4 = .ok (.aload_n 0, 1) := by decide +kernel
theorem dX1_hitOf_5 : decode cX1_hitOf 5 = .ok (.getfield 30, 3) := by decide +kernel
theorem dX1_hitOf_8 : decode cX1_hitOf 8 = .ok (.iload_n 1, 1) := by decide +kernel
theorem dX1_hitOf_9 : decode cX1_hitOf 9 = .ok (.invokevirtual 58, 3) := by decide +kernel
theorem dX1_hitOf_12 : decode cX1_hitOf 12 = .ok (.aload_n 0, 1) := by decide +kernel
theorem dX1_hitOf_13 : decode cX1_hitOf 13 = .ok (.getfield 34, 3) := by decide +kernel
theorem dX1_hitOf_16 : decode cX1_hitOf 16 = .ok (.aload_n 0, 1) := by decide +kernel
theorem dX1_hitOf_17 : decode cX1_hitOf 17 = .ok (.getfield 30, 3) := by decide +kernel
theorem dX1_hitOf_20 : decode cX1_hitOf 20 = .ok (.iload_n 2, 1) := by decide +kernel
theorem dX1_hitOf_21 : decode cX1_hitOf 21 = .ok (.invokevirtual 64, 3) := by decide +kernel
theorem dX1_hitOf_24 : decode cX1_hitOf 24 = .ok (.istore_n 3, 1) := by decide +kernel
theorem dX1_hitOf_25 : decode cX1_hitOf 25 = .ok (.iload_n 3, 1) := by decide +kernel
theorem dX1_hitOf_26 : decode cX1_hitOf 26 = .ok (.ifCond .eq 5, 3) := by decide +kernel
theorem dX1_hitOf_29 : decode cX1_hitOf 29 = .ok (.iload_n 3, 1) := by decide +kernel
theorem dX1_hitOf_30 : decode cX1_hitOf 30 = .ok (.ireturn, 1) := by decide +kernel
theorem dX1_hitOf_31 : decode cX1_hitOf 31 = .ok (.aload_n 0, 1) := by decide +kernel
theorem dX1_hitOf_32 : decode cX1_hitOf 32 = .ok (.iload_n 1, 1) := by decide +kernel
theorem dX1_hitOf_33 : decode cX1_hitOf 33 = .ok (.iconst 1, 1) := by decide +kernel
theorem dX1_hitOf_34 : decode cX1_hitOf 34 = .ok (.iload_n 2, 1) := by decide +kernel
theorem dX1_hitOf_35 : decode cX1_hitOf 35 = .ok (.ishl, 1) := by decide +kernel
theorem dX1_hitOf_36 : decode cX1_hitOf 36 = .ok (.ior, 1) := by decide +kernel
theorem dX1_hitOf_37 : decode cX1_hitOf 37 = .ok (.invokevirtual 68, 3) := by decide +kernel
theorem dX1_hitOf_40 : decode cX1_hitOf 40 = .ok (.ifCond .eq 7, 3) := by decide +kernel
theorem dX1_hitOf_43 : decode cX1_hitOf 43 = .ok (.iconst 3, 1) := by decide +kernel
theorem dX1_hitOf_44 : decode cX1_hitOf 44 = .ok (.goto 4, 3) := by decide +kernel
theorem dX1_hitOf_47 : decode cX1_hitOf 47 = .ok (.iconst 0, 1) := by decide +kernel
theorem dX1_hitOf_48 : decode cX1_hitOf 48 = .ok (.ireturn, 1) := by decide +kernel
set_option maxRecDepth 20000 in
theorem ggX1_freeAt_X3_trace : GoodIn wsX1_freeAt wsX3_trace := goodIn_r _ [9, 10, 11, 12, 13, 14, 15, 16, 17, 18, 57, 58, 59, 60, 61, 62, 63, 64, 65, 66, 67, 68] (by decide +kernel) (by decide +kernel)
set_option maxRecDepth 20000 in
theorem gX1_freeAt_X3_trace : GoodIn wsX1_freeAt (wsV RX1 58 RX3 yX3_trace wsX3_trace) := goodIn_app (goodIn_of _ (by decide +kernel)) ggX1_freeAt_X3_trace
set_option maxRecDepth 20000 in
theorem ggX1_freeAt_X3_pressHit : GoodIn wsX1_freeAt wsX3_pressHit := goodIn_r _ [22, 18, 15, 12, 17, 11, 13, 16, 23, 24, 25, 26, 27, 28, 29, 30, 8, 31, 57, 58, 59, 60, 61, 62, 63, 64, 65, 66, 67, 68] (by decide +kernel) (by decide +kernel)
set_option maxRecDepth 20000 in
theorem gX1_freeAt_X3_pressHit : GoodIn wsX1_freeAt (wsV RX1 64 RX3 yX3_pressHit wsX3_pressHit) := goodIn_app (goodIn_of _ (by decide +kernel)) ggX1_freeAt_X3_pressHit
set_option maxRecDepth 20000 in
theorem ggX1_freeAt_X1_crossesAt : GoodIn wsX1_freeAt wsX1_crossesAt := goodIn_r _ [36, 37, 2, 3, 5, 6, 7, 8, 9, 10, 11, 12, 13, 14, 15, 16, 17, 18, 38, 39, 40, 41, 23, 24, 25, 26, 42, 43, 44, 29, 30, 31, 45, 46, 47, 48, 49, 50, 51, 52, 53, 54, 55, 56, 57, 58, 59, 60, 61, 62, 63, 64, 65, 66, 67, 68] (by decide +kernel) (by decide +kernel)
set_option maxRecDepth 20000 in
theorem gX1_freeAt_X1_crossesAt : GoodIn wsX1_freeAt (wsV RX1 68 RX1 yX1_crossesAt wsX1_crossesAt) := goodIn_app (goodIn_of _ (by decide +kernel)) ggX1_freeAt_X1_crossesAt
theorem dX1_freeAt_0 : decode cX1_freeAt 0 = .ok (.aload_n 0, 1) := by decide +kernel
theorem dX1_freeAt_1 : decode cX1_freeAt 1 = .ok (.getfield 9, 3) := by decide +kernel
theorem dX1_freeAt_4 : decode cX1_freeAt 4 = .ok (.iload_n 1, 1) := by decide +kernel
theorem dX1_freeAt_5 : decode cX1_freeAt 5 = .ok (.iaload, 1) := by decide +kernel
theorem dX1_freeAt_6 : decode cX1_freeAt 6 = .ok (.iconst (-1), 1) := by decide +kernel
theorem dX1_freeAt_7 : decode cX1_freeAt 7 = .ok (.if_icmp .eq 10, 3) := by decide +kernel
theorem dX1_freeAt_10 : decode cX1_freeAt 10 = .ok (.aload_n 0, 1) := by decide +kernel
theorem dX1_freeAt_11 : decode cX1_freeAt 11 = .ok (.getfield 9, 3) := by decide +kernel
theorem dX1_freeAt_14 : decode cX1_freeAt 14 = .ok (.iload_n 1, 1) := by decide +kernel
theorem dX1_freeAt_15 : decode cX1_freeAt 15 = .ok (.iaload, 1) := by decide +kernel
theorem dX1_freeAt_16 : decode cX1_freeAt 16 = .ok (.ireturn, 1) := by decide +kernel
theorem dX1_freeAt_17 : decode cX1_freeAt 17 = .ok (.iconst 0, 1) := by decide +kernel
theorem dX1_freeAt_18 : decode cX1_freeAt 18 = .ok (.istore_n 2, 1) := by decide +kernel
theorem dX1_freeAt_19 : decode cX1_freeAt 19 = .ok (.aload_n 0, 1) := by decide +kernel
theorem dX1_freeAt_20 : decode cX1_freeAt 20 = .ok (.getfield 34, 3) := by decide +kernel
theorem dX1_freeAt_23 : decode cX1_freeAt 23 = .ok (.aload_n 0, 1) := by decide +kernel
theorem dX1_freeAt_24 : decode cX1_freeAt 24 = .ok (.getfield 30, 3) := by decide +kernel
theorem dX1_freeAt_27 : decode cX1_freeAt 27 = .ok (.iload_n 1, 1) := by decide +kernel
theorem dX1_freeAt_28 : decode cX1_freeAt 28 = .ok (.invokevirtual 58, 3) := by decide +kernel
theorem dX1_freeAt_31 : decode cX1_freeAt 31 = .ok (.iconst 0, 1) := by decide +kernel
theorem dX1_freeAt_32 : decode cX1_freeAt 32 = .ok (.istore_n 3, 1) := by decide +kernel
theorem dX1_freeAt_33 : decode cX1_freeAt 33 = .ok (.iload_n 3, 1) := by decide +kernel
theorem dX1_freeAt_34 : decode cX1_freeAt 34 = .ok (.aload_n 0, 1) := by decide +kernel
theorem dX1_freeAt_35 : decode cX1_freeAt 35 = .ok (.getfield 30, 3) := by decide +kernel
theorem dX1_freeAt_38 : decode cX1_freeAt 38 = .ok (.getfield 72, 3) := by decide +kernel
theorem dX1_freeAt_41 : decode cX1_freeAt 41 = .ok (.if_icmp .ge 38, 3) := by decide +kernel
theorem dX1_freeAt_44 : decode cX1_freeAt 44 = .ok (.iload_n 1, 1) := by decide +kernel
theorem dX1_freeAt_45 : decode cX1_freeAt 45 = .ok (.iload_n 3, 1) := by decide +kernel
theorem dX1_freeAt_46 : decode cX1_freeAt 46 = .ok (.ishr, 1) := by decide +kernel
theorem dX1_freeAt_47 : decode cX1_freeAt 47 = .ok (.iconst 1, 1) := by decide +kernel
theorem dX1_freeAt_48 : decode cX1_freeAt 48 = .ok (.iand, 1) := by decide +kernel
theorem dX1_freeAt_49 : decode cX1_freeAt 49 = .ok (.ifCond .ne 24, 3) := by decide +kernel
theorem dX1_freeAt_52 : decode cX1_freeAt 52 = .ok (.aload_n 0, 1) := by decide +kernel
theorem dX1_freeAt_53 : decode cX1_freeAt 53 = .ok (.getfield 34, 3) := by decide +kernel
theorem dX1_freeAt_56 : decode cX1_freeAt 56 = .ok (.aload_n 0, 1) := by decide +kernel
theorem dX1_freeAt_57 : decode cX1_freeAt 57 = .ok (.getfield 30, 3) := by decide +kernel
theorem dX1_freeAt_60 : decode cX1_freeAt 60 = .ok (.iload_n 3, 1) := by decide +kernel
theorem dX1_freeAt_61 : decode cX1_freeAt 61 = .ok (.invokevirtual 64, 3) := by decide +kernel
theorem dX1_freeAt_64 : decode cX1_freeAt 64 = .ok (.ifCond .ne 9, 3) := by decide +kernel
theorem dX1_freeAt_67 : decode cX1_freeAt 67 = .ok (.iload_n 2, 1) := by decide +kernel
theorem dX1_freeAt_68 : decode cX1_freeAt 68 = .ok (.iconst 1, 1) := by decide +kernel
theorem dX1_freeAt_69 : decode cX1_freeAt 69 = .ok (.iload_n 3, 1) := by decide +kernel
theorem dX1_freeAt_70 : decode cX1_freeAt 70 = .ok (.ishl, 1) := by decide +kernel
theorem dX1_freeAt_71 : decode cX1_freeAt 71 = .ok (.ior, 1) := by decide +kernel
theorem dX1_freeAt_72 : decode cX1_freeAt 72 = .ok (.istore_n 2, 1) := by decide +kernel
theorem dX1_freeAt_73 : decode cX1_freeAt 73 = .ok (.iinc 3 1, 3) := by decide +kernel
theorem dX1_freeAt_76 : decode cX1_freeAt 76 = .ok (.goto (-43), 3) := by decide +kernel
theorem dX1_freeAt_79 : decode cX1_freeAt 79 = .ok (.iconst 0, 1) := by decide +kernel
theorem dX1_freeAt_80 : decode cX1_freeAt 80 = .ok (.istore_n 3, 1) := by decide +kernel
theorem dX1_freeAt_81 : decode cX1_freeAt 81 = .ok (.iload_n 3, 1) := by decide +kernel
theorem dX1_freeAt_82 : decode cX1_freeAt 82 = .ok (.aload_n 0, 1) := by decide +kernel
theorem dX1_freeAt_83 : decode cX1_freeAt 83 = .ok (.getfield 30, 3) := by decide +kernel
theorem dX1_freeAt_86 : decode cX1_freeAt 86 = .ok (.getfield 72, 3) := by decide +kernel
theorem dX1_freeAt_89 : decode cX1_freeAt 89 = .ok (.if_icmp .ge 36, 3) := by decide +kernel
theorem dX1_freeAt_92 : decode cX1_freeAt 92 = .ok (.iload_n 2, 1) := by decide +kernel
theorem dX1_freeAt_93 : decode cX1_freeAt 93 = .ok (.iload_n 3, 1) := by decide +kernel
theorem dX1_freeAt_94 : decode cX1_freeAt 94 = .ok (.ishr, 1) := by decide +kernel
theorem dX1_freeAt_95 : decode cX1_freeAt 95 = .ok (.iconst 1, 1) := by decide +kernel
theorem dX1_freeAt_96 : decode cX1_freeAt 96 = .ok (.iand, 1) := by decide +kernel
theorem dX1_freeAt_97 : decode cX1_freeAt 97 = .ok (.iconst 1, 1) := by decide +kernel
theorem dX1_freeAt_98 : decode cX1_freeAt 98 = .ok (.if_icmp .ne 21, 3) := by decide +kernel
theorem dX1_freeAt_101 : decode cX1_freeAt 101 = .ok (.aload_n 0, 1) := by decide +kernel
theorem dX1_freeAt_102 : decode cX1_freeAt 102 = .ok (.iload_n 1, 1) := by decide +kernel
theorem dX1_freeAt_103 : decode cX1_freeAt 103 = .ok (.iconst 1, 1) := by decide +kernel
theorem dX1_freeAt_104 : decode cX1_freeAt 104 = .ok (.iload_n 3, 1) := by decide +kernel
theorem dX1_freeAt_105 : decode cX1_freeAt 105 = .ok (.ishl, 1) := by decide +kernel
theorem dX1_freeAt_106 : decode cX1_freeAt 106 = .ok (.ior, 1) := by decide +kernel
theorem dX1_freeAt_107 : decode cX1_freeAt 107 = .ok (.invokevirtual 68, 3) := by decide +kernel
theorem dX1_freeAt_110 : decode cX1_freeAt 110 = .ok (.ifCond .eq 9, 3) := by decide +kernel
theorem dX1_freeAt_113 : decode cX1_freeAt 113 = .ok (.iload_n 2, 1) := by decide +kernel
theorem dX1_freeAt_114 : decode cX1_freeAt 114 = .ok (.iconst 1, 1) := by decide +kernel
theorem dX1_freeAt_115 : decode cX1_freeAt 115 = .ok (.iload_n 3, 1) := by decide +kernel
theorem dX1_freeAt_116 : decode cX1_freeAt 116 = .ok (.ishl, 1) := by decide +kernel
theorem dX1_freeAt_117 : decode cX1_freeAt 117 = .ok (.isub, 1) := by decide +kernel
theorem dX1_freeAt_118 : decode cX1_freeAt 118 = .ok (.istore_n 2, 1) := by decide +kernel
theorem dX1_freeAt_119 : decode cX1_freeAt 119 = .ok (.iinc 3 1, 3) := by decide +kernel
theorem dX1_freeAt_122 : decode cX1_freeAt 122 = .ok (.goto (-41), 3) := by decide +kernel
theorem dX1_freeAt_125 : decode cX1_freeAt 125 = .ok (.aload_n 0, 1) := by decide +kernel
theorem dX1_freeAt_126 : decode cX1_freeAt 126 = .ok (.getfield 9, 3) := by decide +kernel
theorem dX1_freeAt_129 : decode cX1_freeAt 129 = .ok (.iload_n 1, 1) := by decide +kernel
theorem dX1_freeAt_130 : decode cX1_freeAt 130 = .ok (.iload_n 2, 1) := by decide +kernel
theorem dX1_freeAt_131 : decode cX1_freeAt 131 = .ok (.iastore, 1) := by decide +kernel
theorem dX1_freeAt_132 : decode cX1_freeAt 132 = .ok (.iload_n 2, 1) := by decide +kernel
theorem dX1_freeAt_133 : decode cX1_freeAt 133 = .ok (.ireturn, 1) := by decide +kernel
set_option maxRecDepth 20000 in
theorem ggX1_crossesAt_X3_trace : GoodIn wsX1_crossesAt wsX3_trace := goodIn_r _ [8, 9, 10, 11, 12, 13, 14, 15, 16, 17, 44, 45, 46, 47, 48, 49, 50, 51, 52, 53, 54, 55] (by decide +kernel) (by decide +kernel)
set_option maxRecDepth 20000 in
theorem gX1_crossesAt_X3_trace : GoodIn wsX1_crossesAt (wsV RX1 58 RX3 yX3_trace wsX3_trace) := goodIn_app (goodIn_of _ (by decide +kernel)) ggX1_crossesAt_X3_trace
set_option maxRecDepth 20000 in
theorem ggX1_crossesAt_X3_crossesItself : GoodIn wsX1_crossesAt wsX3_crossesItself := goodIn_r _ [21, 10, 12, 22, 23, 24, 25, 26, 27, 28, 15, 29, 30, 7, 31, 52, 53, 54, 55] (by decide +kernel) (by decide +kernel)
set_option maxRecDepth 20000 in
theorem gX1_crossesAt_X3_crossesItself : GoodIn wsX1_crossesAt (wsV RX1 77 RX3 yX3_crossesItself wsX3_crossesItself) := goodIn_app (goodIn_of _ (by decide +kernel)) ggX1_crossesAt_X3_crossesItself
theorem dX1_crossesAt_0 : decode cX1_crossesAt 0 = .ok (.aload_n 0, 1) := by decide +kernel
theorem dX1_crossesAt_1 : decode cX1_crossesAt 1 = .ok (.getfield 15, 3) := by decide +kernel
theorem dX1_crossesAt_4 : decode cX1_crossesAt 4 = .ok (.iload_n 1, 1) := by decide +kernel
theorem dX1_crossesAt_5 : decode cX1_crossesAt 5 = .ok (.iaload, 1) := by decide +kernel
theorem dX1_crossesAt_6 : decode cX1_crossesAt 6 = .ok (.iconst (-1), 1) := by decide +kernel
theorem dX1_crossesAt_7 : decode cX1_crossesAt 7 = .ok (.if_icmp .ne 36, 3) := by decide +kernel
theorem dX1_crossesAt_10 : decode cX1_crossesAt 10 = .ok (.aload_n 0, 1) := by decide +kernel
theorem dX1_crossesAt_11 : decode cX1_crossesAt 11 = .ok (.getfield 34, 3) := by decide +kernel
theorem dX1_crossesAt_14 : decode cX1_crossesAt 14 = .ok (.aload_n 0, 1) := by decide +kernel
theorem dX1_crossesAt_15 : decode cX1_crossesAt 15 = .ok (.getfield 30, 3) := by decide +kernel
theorem dX1_crossesAt_18 : decode cX1_crossesAt 18 = .ok (.iload_n 1, 1) := by decide +kernel
theorem dX1_crossesAt_19 : decode cX1_crossesAt 19 = .ok (.invokevirtual 58, 3) := by decide +kernel
theorem dX1_crossesAt_22 : decode cX1_crossesAt 22 = .ok (.aload_n 0, 1) := by decide +kernel
theorem dX1_crossesAt_23 : decode cX1_crossesAt 23 = .ok (.getfield 15, 3) := by decide +kernel
theorem dX1_crossesAt_26 : decode cX1_crossesAt 26 = .ok (.iload_n 1, 1) := by decide +kernel
theorem dX1_crossesAt_27 : decode cX1_crossesAt 27 = .ok (.aload_n 0, 1) := by decide +kernel
theorem dX1_crossesAt_28 : decode cX1_crossesAt 28 = .ok (.getfield 34, 3) := by decide +kernel
theorem dX1_crossesAt_31 : decode cX1_crossesAt 31 = .ok (.invokevirtual 77, 3) := by decide +kernel
theorem dX1_crossesAt_34 : decode cX1_crossesAt 34 = .ok (.ifCond .eq 7, 3) := by decide +kernel
theorem dX1_crossesAt_37 : decode cX1_crossesAt 37 = .ok (.iconst 1, 1) := by decide +kernel
theorem dX1_crossesAt_38 : decode cX1_crossesAt 38 = .ok (.goto 4, 3) := by decide +kernel
theorem dX1_crossesAt_41 : decode cX1_crossesAt 41 = .ok (.iconst 0, 1) := by decide +kernel
theorem dX1_crossesAt_42 : decode cX1_crossesAt 42 = .ok (.iastore, 1) := by decide +kernel
theorem dX1_crossesAt_43 : decode cX1_crossesAt 43 = .ok (.aload_n 0, 1) := by decide +kernel
theorem dX1_crossesAt_44 : decode cX1_crossesAt 44 = .ok (.getfield 15, 3) := by decide +kernel
theorem dX1_crossesAt_47 : decode cX1_crossesAt 47 = .ok (.iload_n 1, 1) := by decide +kernel
theorem dX1_crossesAt_48 : decode cX1_crossesAt 48 = .ok (.iaload, 1) := by decide +kernel
theorem dX1_crossesAt_49 : decode cX1_crossesAt 49 = .ok (.iconst 1, 1) := by decide +kernel
theorem dX1_crossesAt_50 : decode cX1_crossesAt 50 = .ok (.if_icmp .ne 7, 3) := by decide +kernel
theorem dX1_crossesAt_53 : decode cX1_crossesAt 53 = .ok (.iconst 1, 1) := by decide +kernel
theorem dX1_crossesAt_54 : decode cX1_crossesAt 54 = .ok (.goto 4, 3) := by decide +kernel
theorem dX1_crossesAt_57 : decode cX1_crossesAt 57 = .ok (.iconst 0, 1) := by decide +kernel
theorem dX1_crossesAt_58 : decode cX1_crossesAt 58 = .ok (.ireturn, 1) := by decide +kernel
set_option maxRecDepth 20000 in
theorem ggX1_pathsFrom_X4_allBends : GoodIn wsX1_pathsFrom wsX4_allBends := goodIn_r _ [8, 9, 72, 73, 74, 75, 76, 77, 78, 79] (by decide +kernel) (by decide +kernel)
set_option maxRecDepth 20000 in
theorem gX1_pathsFrom_X4_allBends : GoodIn wsX1_pathsFrom (wsV RX1 81 RX4 yX4_allBends wsX4_allBends) := goodIn_app (goodIn_of _ (by decide +kernel)) ggX1_pathsFrom_X4_allBends
set_option maxRecDepth 20000 in
theorem ggX1_pathsFrom_J7_fill_53178 : GoodIn wsX1_pathsFrom wsJ7_fill_53178 := goodIn_r _ [13] (by decide +kernel) (by decide +kernel)
set_option maxRecDepth 20000 in
theorem gX1_pathsFrom_J7_fill_53178 : GoodIn wsX1_pathsFrom (va_wsS RX1 38 yJ7_fill_53178 wsJ7_fill_53178) := goodIn_app (goodIn_of _ (by decide +kernel)) ggX1_pathsFrom_J7_fill_53178
set_option maxRecDepth 20000 in
theorem ggX1_pathsFrom_X1_freeAt : GoodIn wsX1_pathsFrom wsX1_freeAt := goodIn_r _ [18, 19, 20, 1, 3, 21, 22, 23, 24, 25, 26, 27, 28, 29, 30, 31, 32, 33, 34, 35, 36, 37, 38, 39, 40, 41, 42, 43, 44, 45, 46, 47, 48, 49, 50, 17, 51, 52, 53, 54, 55, 56, 57, 58, 59, 60, 61, 62, 63, 64, 65, 66, 67, 68, 69, 70, 71, 72, 73, 74, 75, 76, 77, 78, 79, 80, 81, 82, 83] (by decide +kernel) (by decide +kernel)
set_option maxRecDepth 20000 in
theorem gX1_pathsFrom_X1_freeAt : GoodIn wsX1_pathsFrom (wsV RX1 85 RX1 yX1_freeAt wsX1_freeAt) := goodIn_app (goodIn_of _ (by decide +kernel)) ggX1_pathsFrom_X1_freeAt
theorem dX1_pathsFrom_0 : decode cX1_pathsFrom 0 = .ok (.aload_n 0, 1) := by decide +kernel
theorem dX1_pathsFrom_1 : decode cX1_pathsFrom 1 = .ok (.getfield 30, 3) := by decide +kernel
theorem dX1_pathsFrom_4 : decode cX1_pathsFrom 4 = .ok (.invokevirtual 81, 3) := by decide +kernel
theorem dX1_pathsFrom_7 : decode cX1_pathsFrom 7 = .ok (.istore_n 2, 1) := by decide +kernel
theorem dX1_pathsFrom_8 : decode cX1_pathsFrom 8 = .ok (.aload_n 0, 1) := by decide +kernel
theorem dX1_pathsFrom_9 : decode cX1_pathsFrom 9 = .ok (.getfield 18, 3) := by decide +kernel
theorem dX1_pathsFrom_12 : decode cX1_pathsFrom 12 = .ok (.iconst 0, 1) := by decide +kernel
theorem dX1_pathsFrom_13 : decode cX1_pathsFrom 13 = .ok (.invokestatic 38, 3) := by decide +kernel
theorem dX1_pathsFrom_16 : decode cX1_pathsFrom 16 = .ok (.aload_n 0, 1) := by decide +kernel
theorem dX1_pathsFrom_17 : decode cX1_pathsFrom 17 = .ok (.getfield 18, 3) := by decide +kernel
theorem dX1_pathsFrom_20 : decode cX1_pathsFrom 20 = .ok (.iload_n 1, 1) := by decide +kernel
theorem dX1_pathsFrom_21 : decode cX1_pathsFrom 21 = .ok (.iconst 1, 1) := by decide +kernel
theorem dX1_pathsFrom_22 : decode cX1_pathsFrom 22 = .ok (.iastore, 1) := by decide +kernel
theorem dX1_pathsFrom_23 : decode cX1_pathsFrom 23 = .ok (.iload_n 1, 1) := by decide +kernel
theorem dX1_pathsFrom_24 : decode cX1_pathsFrom 24 = .ok (.istore_n 3, 1) := by decide +kernel
theorem dX1_pathsFrom_25 : decode cX1_pathsFrom 25 = .ok (.iload_n 3, 1) := by decide +kernel
theorem dX1_pathsFrom_26 : decode cX1_pathsFrom 26 = .ok (.iload_n 2, 1) := by decide +kernel
theorem dX1_pathsFrom_27 : decode cX1_pathsFrom 27 = .ok (.if_icmp .ge 80, 3) := by decide +kernel
theorem dX1_pathsFrom_30 : decode cX1_pathsFrom 30 = .ok (.aload_n 0, 1) := by decide +kernel
theorem dX1_pathsFrom_31 : decode cX1_pathsFrom 31 = .ok (.getfield 18, 3) := by decide +kernel
theorem dX1_pathsFrom_34 : decode cX1_pathsFrom 34 = .ok (.iload_n 3, 1) := by decide +kernel
theorem dX1_pathsFrom_35 : decode cX1_pathsFrom 35 = .ok (.iaload, 1) := by decide +kernel
theorem dX1_pathsFrom_36 : decode cX1_pathsFrom 36 = .ok (.ifCond .ne 6, 3) := by decide +kernel
theorem dX1_pathsFrom_39 : decode cX1_pathsFrom 39 = .ok (.goto 62, 3) := by decide +kernel
theorem dX1_pathsFrom_42 : decode cX1_pathsFrom 42 = .ok (.aload_n 0, 1) := by decide +kernel
theorem dX1_pathsFrom_43 : decode cX1_pathsFrom 43 = .ok (.iload_n 3, 1) := by decide +kernel
theorem dX1_pathsFrom_44 : decode cX1_pathsFrom 44 = .ok (.invokevirtual 85, 3) := by decide +kernel
theorem dX1_pathsFrom_47 : decode cX1_pathsFrom 47 = .ok (.istore 4, 2) := by decide +kernel
theorem dX1_pathsFrom_49 : decode cX1_pathsFrom 49 = .ok (.iconst 0, 1) := by decide +kernel
theorem dX1_pathsFrom_50 : decode cX1_pathsFrom 50 = .ok (.istore 5, 2) := by decide +kernel
theorem dX1_pathsFrom_52 : decode cX1_pathsFrom 52 = .ok (.iload 5, 2) := by decide +kernel
theorem dX1_pathsFrom_54 : decode cX1_pathsFrom 54 = .ok (.aload_n 0, 1) := by decide +kernel
theorem dX1_pathsFrom_55 : decode cX1_pathsFrom 55 = .ok (.getfield 30, 3) := by decide +kernel
theorem dX1_pathsFrom_58 : decode cX1_pathsFrom 58 = .ok (.getfield 72, 3) := by decide +kernel
theorem dX1_pathsFrom_61 : decode cX1_pathsFrom 61 = .ok (.if_icmp .ge 40, 3) := by decide +kernel
theorem dX1_pathsFrom_64 : decode cX1_pathsFrom 64 = .ok (.iload 4, 2) := by decide +kernel
theorem dX1_pathsFrom_66 : decode cX1_pathsFrom 66 = .ok (.iload 5, 2) := by decide +kernel
theorem dX1_pathsFrom_68 : decode cX1_pathsFrom 68 = .ok (.ishr, 1) := by decide +kernel
theorem dX1_pathsFrom_69 : decode cX1_pathsFrom 69 = .ok (.iconst 1, 1) := by decide +kernel
theorem dX1_pathsFrom_70 : decode cX1_pathsFrom 70 = .ok (.iand, 1) := by decide +kernel
theorem dX1_pathsFrom_71 : decode cX1_pathsFrom 71 = .ok (.iconst 1, 1) := by decide +kernel
theorem dX1_pathsFrom_72 : decode cX1_pathsFrom 72 = .ok (.if_icmp .ne 23, 3) := by decide +kernel
theorem dX1_pathsFrom_75 : decode cX1_pathsFrom 75 = .ok (.aload_n 0, 1) := by decide +kernel
theorem dX1_pathsFrom_76 : decode cX1_pathsFrom 76 = .ok (.getfield 18, 3) := by decide +kernel
theorem dX1_pathsFrom_79 : decode cX1_pathsFrom 79 = .ok (.iload_n 3, 1) := by decide +kernel
theorem dX1_pathsFrom_80 : decode cX1_pathsFrom 80 = .ok (.iconst 1, 1) := by decide +kernel
theorem dX1_pathsFrom_81 : decode cX1_pathsFrom 81 = .ok (.iload 5, 2) := by decide +kernel
theorem dX1_pathsFrom_83 : decode cX1_pathsFrom 83 = .ok (.ishl, 1) := by decide +kernel
theorem dX1_pathsFrom_84 : decode cX1_pathsFrom 84 = .ok (.ior, 1) := by decide +kernel
theorem dX1_pathsFrom_85 : decode cX1_pathsFrom 85 = .ok (.dup2, 1) := by decide +kernel
theorem dX1_pathsFrom_86 : decode cX1_pathsFrom 86 = .ok (.iaload, 1) := by decide +kernel
theorem dX1_pathsFrom_87 : decode cX1_pathsFrom 87 = .ok (.aload_n 0, 1) := by decide +kernel
theorem dX1_pathsFrom_88 : decode cX1_pathsFrom 88 = .ok (.getfield 18, 3) := by decide +kernel
theorem dX1_pathsFrom_91 : decode cX1_pathsFrom 91 = .ok (.iload_n 3, 1) := by decide +kernel
theorem dX1_pathsFrom_92 : decode cX1_pathsFrom 92 = .ok (.iaload, 1) := by decide +kernel
theorem dX1_pathsFrom_93 : decode cX1_pathsFrom 93 = .ok (.iadd, 1) := by decide +kernel
theorem dX1_pathsFrom_94 : decode cX1_pathsFrom 94 = .ok (.iastore, 1) := by decide +kernel
theorem dX1_pathsFrom_95 : decode cX1_pathsFrom 95 = .ok (.iinc 5 1, 3) := by decide +kernel
theorem dX1_pathsFrom_98 : decode cX1_pathsFrom 98 = .ok (.goto (-46), 3) := by decide +kernel
theorem dX1_pathsFrom_101 : decode cX1_pathsFrom 101 = .ok (.iinc 3 1, 3) := by decide +kernel
theorem dX1_pathsFrom_104 : decode cX1_pathsFrom 104 = .ok (.goto (-79), 3) := by decide +kernel
theorem dX1_pathsFrom_107 : decode cX1_pathsFrom 107 = .ok (.aload_n 0, 1) := by decide +kernel
theorem dX1_pathsFrom_108 : decode cX1_pathsFrom 108 = .ok (.getfield 18, 3) := by decide +kernel
theorem dX1_pathsFrom_111 : decode cX1_pathsFrom 111 = .ok (.iload_n 2, 1) := by decide +kernel
theorem dX1_pathsFrom_112 : decode cX1_pathsFrom 112 = .ok (.iaload, 1) := by decide +kernel
theorem dX1_pathsFrom_113 : decode cX1_pathsFrom 113 = .ok (.ireturn, 1) := by decide +kernel
set_option maxRecDepth 20000 in
theorem ggX1_plan_X1_pathsFrom : GoodIn wsX1_plan wsX1_pathsFrom := goodIn_r _ [11, 12, 13, 14, 15, 16, 17, 18, 19, 20, 21, 22, 23, 24, 25, 26, 27, 10, 28, 29, 30, 31, 32, 33, 34, 35, 36, 37, 38, 39, 40, 41, 42, 43, 44, 45, 46, 47, 48, 49, 50, 51, 52, 53, 54, 55, 56, 57, 58, 59, 60, 61, 62, 63, 64, 65, 66, 67, 68, 69, 96, 97, 98, 99, 100, 101, 102, 103, 104, 105, 106, 107, 108, 109, 110, 111, 112, 113, 114, 115, 116, 117, 118, 119] (by decide +kernel) (by decide +kernel)
set_option maxRecDepth 20000 in
theorem gX1_plan_X1_pathsFrom : GoodIn wsX1_plan (wsV RX1 89 RX1 yX1_pathsFrom wsX1_pathsFrom) := goodIn_app (goodIn_of _ (by decide +kernel)) ggX1_plan_X1_pathsFrom
set_option maxRecDepth 20000 in
theorem ggX1_plan_J7_fill_53178 : GoodIn wsX1_plan wsJ7_fill_53178 := goodIn_r _ [24] (by decide +kernel) (by decide +kernel)
set_option maxRecDepth 20000 in
theorem gX1_plan_J7_fill_53178 : GoodIn wsX1_plan (va_wsS RX1 38 yJ7_fill_53178 wsJ7_fill_53178) := goodIn_app (goodIn_of _ (by decide +kernel)) ggX1_plan_J7_fill_53178
set_option maxRecDepth 20000 in
theorem ggX1_plan_X1_findFewest : GoodIn wsX1_plan wsX1_findFewest := goodIn_r _ [73, 12, 74, 13, 15, 16, 17, 18, 19, 20, 21, 22, 23, 24, 75, 76, 77, 10, 78, 29, 14, 79, 50, 51, 52, 80, 81, 82, 83, 84, 85, 86, 87, 96, 97, 98, 99, 100, 101, 102, 103, 104, 105, 106, 107, 108, 109, 110, 111, 112, 113, 114, 115] (by decide +kernel) (by decide +kernel)
set_option maxRecDepth 20000 in
theorem gX1_plan_X1_findFewest : GoodIn wsX1_plan (wsV RX1 92 RX1 yX1_findFewest wsX1_findFewest) := goodIn_app (goodIn_of _ (by decide +kernel)) ggX1_plan_X1_findFewest
set_option maxRecDepth 20000 in
theorem ggX1_plan_X1_walk : GoodIn wsX1_plan wsX1_walk := goodIn_r _ [91, 12, 14, 74, 84, 92, 93, 94, 10, 95, 29, 80, 81, 82, 83, 85, 86, 87, 96, 97, 98, 99, 100, 101, 102, 103, 104, 105, 106, 107, 108, 109, 110, 111, 112, 113, 114, 115] (by decide +kernel) (by decide +kernel)
set_option maxRecDepth 20000 in
theorem gX1_plan_X1_walk : GoodIn wsX1_plan (wsV RX1 95 RX1 yX1_walk wsX1_walk) := goodIn_app (goodIn_of _ (by decide +kernel)) ggX1_plan_X1_walk
theorem dX1_plan_0 : decode cX1_plan 0 = .ok (.aload_n 0, 1) := by decide +kernel
theorem dX1_plan_1 : decode cX1_plan 1 = .ok (.getfield 44, 3) := by decide +kernel
theorem dX1_plan_4 : decode cX1_plan 4 = .ok (.ifCond .eq 4, 3) := by decide +kernel
theorem dX1_plan_7 : decode cX1_plan 7 = .ok (.return_, 1) := by decide +kernel
theorem dX1_plan_8 : decode cX1_plan 8 = .ok (.aload_n 0, 1) := by decide +kernel
theorem dX1_plan_9 : decode cX1_plan 9 = .ok (.iconst 1, 1) := by decide +kernel
theorem dX1_plan_10 : decode cX1_plan 10 = .ok (.putfield 44, 3) := by decide +kernel
theorem dX1_plan_13 : decode cX1_plan 13 = .ok (.aload_n 0, 1) := by decide +kernel
theorem dX1_plan_14 : decode cX1_plan 14 = .ok (.aload_n 0, 1) := by decide +kernel
theorem dX1_plan_15 : decode cX1_plan 15 = .ok (.iconst 0, 1) := by decide +kernel
theorem dX1_plan_16 : decode cX1_plan 16 = .ok (.invokevirtual 89, 3) := by decide +kernel
theorem dX1_plan_19 : decode cX1_plan 19 = .ok (.putfield 48, 3) := by decide +kernel
theorem dX1_plan_22 : decode cX1_plan 22 = .ok (.aload_n 0, 1) := by decide +kernel
theorem dX1_plan_23 : decode cX1_plan 23 = .ok (.getfield 48, 3) := by decide +kernel
theorem dX1_plan_26 : decode cX1_plan 26 = .ok (.ifCond .ne 38, 3) := by decide +kernel
theorem dX1_plan_29 : decode cX1_plan 29 = .ok (.aload_n 0, 1) := by decide +kernel
theorem dX1_plan_30 : decode cX1_plan 30 = .ok (.getfield 24, 3) := by decide +kernel
theorem dX1_plan_33 : decode cX1_plan 33 = .ok (.sipush (-1000), 3) := by decide +kernel
theorem dX1_plan_36 : decode cX1_plan 36 = .ok (.invokestatic 38, 3) := by decide +kernel
theorem dX1_plan_39 : decode cX1_plan 39 = .ok (.aload_n 0, 1) := by decide +kernel
theorem dX1_plan_40 : decode cX1_plan 40 = .ok (.getfield 27, 3) := by decide +kernel
theorem dX1_plan_43 : decode cX1_plan 43 = .ok (.sipush (-1000), 3) := by decide +kernel
theorem dX1_plan_46 : decode cX1_plan 46 = .ok (.invokestatic 38, 3) := by decide +kernel
theorem dX1_plan_49 : decode cX1_plan 49 = .ok (.aload_n 0, 1) := by decide +kernel
theorem dX1_plan_50 : decode cX1_plan 50 = .ok (.sipush (-1000), 3) := by decide +kernel
theorem dX1_plan_53 : decode cX1_plan 53 = .ok (.putfield 52, 3) := by decide +kernel
theorem dX1_plan_56 : decode cX1_plan 56 = .ok (.aload_n 0, 1) := by decide +kernel
theorem dX1_plan_57 : decode cX1_plan 57 = .ok (.sipush (-1000), 3) := by decide +kernel
theorem dX1_plan_60 : decode cX1_plan 60 = .ok (.putfield 55, 3) := by decide +kernel
theorem dX1_plan_63 : decode cX1_plan 63 = .ok (.return_, 1) := by decide +kernel
theorem dX1_plan_64 : decode cX1_plan 64 = .ok (.aload_n 0, 1) := by decide +kernel
theorem dX1_plan_65 : decode cX1_plan 65 = .ok (.invokevirtual 92, 3) := by decide +kernel
theorem dX1_plan_68 : decode cX1_plan 68 = .ok (.aload_n 0, 1) := by decide +kernel
theorem dX1_plan_69 : decode cX1_plan 69 = .ok (.aload_n 0, 1) := by decide +kernel
theorem dX1_plan_70 : decode cX1_plan 70 = .ok (.aload_n 0, 1) := by decide +kernel
theorem dX1_plan_71 : decode cX1_plan 71 = .ok (.getfield 24, 3) := by decide +kernel
theorem dX1_plan_74 : decode cX1_plan 74 = .ok (.iconst 0, 1) := by decide +kernel
theorem dX1_plan_75 : decode cX1_plan 75 = .ok (.invokevirtual 95, 3) := by decide +kernel
theorem dX1_plan_78 : decode cX1_plan 78 = .ok (.putfield 52, 3) := by decide +kernel
theorem dX1_plan_81 : decode cX1_plan 81 = .ok (.aload_n 0, 1) := by decide +kernel
theorem dX1_plan_82 : decode cX1_plan 82 = .ok (.aload_n 0, 1) := by decide +kernel
theorem dX1_plan_83 : decode cX1_plan 83 = .ok (.aload_n 0, 1) := by decide +kernel
theorem dX1_plan_84 : decode cX1_plan 84 = .ok (.getfield 27, 3) := by decide +kernel
theorem dX1_plan_87 : decode cX1_plan 87 = .ok (.iconst 1, 1) := by decide +kernel
theorem dX1_plan_88 : decode cX1_plan 88 = .ok (.invokevirtual 95, 3) := by decide +kernel
theorem dX1_plan_91 : decode cX1_plan 91 = .ok (.putfield 55, 3) := by decide +kernel
theorem dX1_plan_94 : decode cX1_plan 94 = .ok (.return_, 1) := by decide +kernel
set_option maxRecDepth 20000 in
theorem ggX1_findFewest_X4_allBends : GoodIn wsX1_findFewest wsX4_allBends := goodIn_r _ [8, 9, 45, 46, 47, 48, 49, 50, 51, 52] (by decide +kernel) (by decide +kernel)
set_option maxRecDepth 20000 in
theorem gX1_findFewest_X4_allBends : GoodIn wsX1_findFewest (wsV RX1 81 RX4 yX4_allBends wsX4_allBends) := goodIn_app (goodIn_of _ (by decide +kernel)) ggX1_findFewest_X4_allBends
set_option maxRecDepth 20000 in
theorem ggX1_findFewest_J7_fill_53178 : GoodIn wsX1_findFewest wsJ7_fill_53178 := goodIn_r _ [13] (by decide +kernel) (by decide +kernel)
set_option maxRecDepth 20000 in
theorem gX1_findFewest_J7_fill_53178 : GoodIn wsX1_findFewest (va_wsS RX1 38 yJ7_fill_53178 wsJ7_fill_53178) := goodIn_app (goodIn_of _ (by decide +kernel)) ggX1_findFewest_J7_fill_53178
set_option maxRecDepth 20000 in
theorem ggX1_findFewest_X1_fewestFrom : GoodIn wsX1_findFewest wsX1_fewestFrom := goodIn_r _ [18, 19, 1, 20, 21, 22, 23, 24, 25, 26, 27, 17, 28, 29, 2, 30, 31, 32, 33, 34, 35, 36, 37, 38, 39, 40, 41, 42, 43, 44, 45, 46, 47, 48, 49, 50, 51, 52] (by decide +kernel) (by decide +kernel)
set_option maxRecDepth 20000 in
theorem gX1_findFewest_X1_fewestFrom : GoodIn wsX1_findFewest (wsV RX1 99 RX1 yX1_fewestFrom wsX1_fewestFrom) := goodIn_app (goodIn_of _ (by decide +kernel)) ggX1_findFewest_X1_fewestFrom
theorem dX1_findFewest_0 : decode cX1_findFewest 0 = .ok (.aload_n 0, 1) := by decide +kernel
theorem dX1_findFewest_1 : decode cX1_findFewest 1 = .ok (.getfield 30, 3) := by decide +kernel
theorem dX1_findFewest_4 : decode cX1_findFewest 4 = .ok (.invokevirtual 81, 3) := by decide +kernel
theorem dX1_findFewest_7 : decode cX1_findFewest 7 = .ok (.istore_n 1, 1) := by decide +kernel
theorem dX1_findFewest_8 : decode cX1_findFewest 8 = .ok (.aload_n 0, 1) := by decide +kernel
theorem dX1_findFewest_9 : decode cX1_findFewest 9 = .ok (.getfield 21, 3) := by decide +kernel
theorem dX1_findFewest_12 : decode cX1_findFewest 12 = .ok (.sipush 1000, 3) := by decide +kernel
theorem dX1_findFewest_15 : decode cX1_findFewest 15 = .ok (.invokestatic 38, 3) := by decide +kernel
theorem dX1_findFewest_18 : decode cX1_findFewest 18 = .ok (.iconst 0, 1) := by decide +kernel
theorem dX1_findFewest_19 : decode cX1_findFewest 19 = .ok (.istore_n 2, 1) := by decide +kernel
theorem dX1_findFewest_20 : decode cX1_findFewest 20 = .ok (.iload_n 2, 1) := by decide +kernel
theorem dX1_findFewest_21 : decode cX1_findFewest 21 = .ok (.iconst 4, 1) := by decide +kernel
theorem dX1_findFewest_22 : decode cX1_findFewest 22 = .ok (.if_icmp .ge 20, 3) := by decide +kernel
theorem dX1_findFewest_25 : decode cX1_findFewest 25 = .ok (.aload_n 0, 1) := by decide +kernel
theorem dX1_findFewest_26 : decode cX1_findFewest 26 = .ok (.getfield 21, 3) := by decide +kernel
theorem dX1_findFewest_29 : decode cX1_findFewest 29 = .ok (.iload_n 1, 1) := by decide +kernel
theorem dX1_findFewest_30 : decode cX1_findFewest 30 = .ok (.iconst 4, 1) := by decide +kernel
theorem dX1_findFewest_31 : decode cX1_findFewest 31 = .ok (.imul, 1) := by decide +kernel
theorem dX1_findFewest_32 : decode cX1_findFewest 32 = .ok (.iload_n 2, 1) := by decide +kernel
theorem dX1_findFewest_33 : decode cX1_findFewest 33 = .ok (.iadd, 1) := by decide +kernel
theorem dX1_findFewest_34 : decode cX1_findFewest 34 = .ok (.iconst 0, 1) := by decide +kernel
theorem dX1_findFewest_35 : decode cX1_findFewest 35 = .ok (.iastore, 1) := by decide +kernel
theorem dX1_findFewest_36 : decode cX1_findFewest 36 = .ok (.iinc 2 1, 3) := by decide +kernel
theorem dX1_findFewest_39 : decode cX1_findFewest 39 = .ok (.goto (-19), 3) := by decide +kernel
theorem dX1_findFewest_42 : decode cX1_findFewest 42 = .ok (.iload_n 1, 1) := by decide +kernel
theorem dX1_findFewest_43 : decode cX1_findFewest 43 = .ok (.iconst 1, 1) := by decide +kernel
theorem dX1_findFewest_44 : decode cX1_findFewest 44 = .ok (.isub, 1) := by decide +kernel
theorem dX1_findFewest_45 : decode cX1_findFewest 45 = .ok (.istore_n 2, 1) := by decide +kernel
theorem dX1_findFewest_46 : decode cX1_findFewest 46 = .ok (.iload_n 2, 1) := by decide +kernel
theorem dX1_findFewest_47 : decode cX1_findFewest 47 = .ok (.ifCond .lt 47, 3) := by decide +kernel
theorem dX1_findFewest_50 : decode cX1_findFewest 50 = .ok (.iconst 0, 1) := by decide +kernel
theorem dX1_findFewest_51 : decode cX1_findFewest 51 = .ok (.istore_n 3, 1) := by decide +kernel
theorem dX1_findFewest_52 : decode cX1_findFewest 52 = .ok (.iload_n 3, 1) := by decide +kernel
theorem dX1_findFewest_53 : decode cX1_findFewest 53 = .ok (.iconst 4, 1) := by decide +kernel
theorem dX1_findFewest_54 : decode cX1_findFewest 54 = .ok (.if_icmp .ge 34, 3) := by decide +kernel
theorem dX1_findFewest_57 : decode cX1_findFewest 57 = .ok (.aload_n 0, 1) := by decide +kernel
theorem dX1_findFewest_58 : decode cX1_findFewest 58 = .ok (.getfield 18, 3) := by decide +kernel
theorem dX1_findFewest_61 : decode cX1_findFewest 61 = .ok (.iload_n 2, 1) := by decide +kernel
theorem dX1_findFewest_62 : decode cX1_findFewest 62 = .ok (.iaload, 1) := by decide +kernel
theorem dX1_findFewest_63 : decode cX1_findFewest 63 = .ok (.ifCond .le 25, 3) := by decide +kernel
theorem dX1_findFewest_66 : decode cX1_findFewest 66 = .ok (.aload_n 0, 1) := by decide +kernel
theorem dX1_findFewest_67 : decode cX1_findFewest 67 = .ok (.getfield 21, 3) := by decide +kernel
theorem dX1_findFewest_70 : decode cX1_findFewest 70 = .ok (.iload_n 2, 1) := by decide +kernel
theorem dX1_findFewest_71 : decode cX1_findFewest 71 = .ok (.iconst 4, 1) := by decide +kernel
theorem dX1_findFewest_72 : decode cX1_findFewest 72 = .ok (.imul, 1) := by decide +kernel
theorem dX1_findFewest_73 : decode cX1_findFewest 73 = .ok (.iload_n 3, 1) := by decide +kernel
theorem dX1_findFewest_74 : decode cX1_findFewest 74 = .ok (.iadd, 1) := by decide +kernel
theorem dX1_findFewest_75 : decode cX1_findFewest 75 = .ok (.aload_n 0, 1) := by decide +kernel
theorem dX1_findFewest_76 : decode cX1_findFewest 76 = .ok (.iload_n 2, 1) := by decide +kernel
theorem dX1_findFewest_77 : decode cX1_findFewest 77 = .ok (.iload_n 3, 1) := by decide +kernel
theorem dX1_findFewest_78 : decode cX1_findFewest 78 = .ok (.invokevirtual 99, 3) := by decide +kernel
theorem dX1_findFewest_81 : decode cX1_findFewest 81 = .ok (.iastore, 1) := by decide +kernel
theorem dX1_findFewest_82 : decode cX1_findFewest 82 = .ok (.iinc 3 1, 3) := by decide +kernel
theorem dX1_findFewest_85 : decode cX1_findFewest 85 = .ok (.goto (-33), 3) := by decide +kernel
theorem dX1_findFewest_88 : decode cX1_findFewest 88 = .ok (.iinc 2 (-1), 3) := by decide +kernel
theorem dX1_findFewest_91 : decode cX1_findFewest 91 = .ok (.goto (-45), 3) := by decide +kernel
theorem dX1_findFewest_94 : decode cX1_findFewest 94 = .ok (.return_, 1) := by decide +kernel
set_option maxRecDepth 20000 in
theorem ggX1_fewestFrom_X1_changesBy : GoodIn wsX1_fewestFrom wsX1_changesBy := goodIn_r _ [12, 2, 13, 14, 15, 16, 11, 17, 18, 19, 20, 21, 22, 23, 24, 25, 26, 27, 28, 29, 30, 31, 32, 33, 34, 35, 36, 37] (by decide +kernel) (by decide +kernel)
set_option maxRecDepth 20000 in
theorem gX1_fewestFrom_X1_changesBy : GoodIn wsX1_fewestFrom (wsV RX1 103 RX1 yX1_changesBy wsX1_changesBy) := goodIn_app (goodIn_of _ (by decide +kernel)) ggX1_fewestFrom_X1_changesBy
theorem dX1_fewestFrom_0 : decode cX1_fewestFrom 0 = .ok (.aload_n 0, 1) := by decide +kernel
theorem dX1_fewestFrom_1 : decode cX1_fewestFrom 1 = .ok (.getfield 9, 3) := by decide +kernel
theorem dX1_fewestFrom_4 : decode cX1_fewestFrom 4 = .ok (.iload_n 1, 1) := by decide +kernel
theorem dX1_fewestFrom_5 : decode cX1_fewestFrom 5 = .ok (.iaload, 1) := by decide +kernel
theorem dX1_fewestFrom_6 : decode cX1_fewestFrom 6 = .ok (.istore_n 3, 1) := by decide +kernel
theorem dX1_fewestFrom_7 : decode cX1_fewestFrom 7 = .ok (.sipush 1000, 3) := by decide +kernel
theorem dX1_fewestFrom_10 : decode cX1_fewestFrom 10 = .ok (.istore 4, 2) := by decide +kernel
theorem dX1_fewestFrom_12 : decode cX1_fewestFrom 12 = .ok (.iconst 0, 1) := by decide +kernel
theorem dX1_fewestFrom_13 : decode cX1_fewestFrom 13 = .ok (.istore 5, 2) := by decide +kernel
theorem dX1_fewestFrom_15 : decode cX1_fewestFrom 15 = .ok (.iload 5, 2) := by decide +kernel
theorem dX1_fewestFrom_17 : decode cX1_fewestFrom 17 = .ok (.aload_n 0, 1) := by decide +kernel
theorem dX1_fewestFrom_18 : decode cX1_fewestFrom 18 = .ok (.getfield 30, 3) := by decide +kernel
theorem dX1_fewestFrom_21 : decode cX1_fewestFrom 21 = .ok (.getfield 72, 3) := by decide +kernel
theorem dX1_fewestFrom_24 : decode cX1_fewestFrom 24 = .ok (.if_icmp .ge 34, 3) := by decide +kernel
theorem dX1_fewestFrom_27 : decode cX1_fewestFrom 27 = .ok (.iload_n 3, 1) := by decide +kernel
theorem dX1_fewestFrom_28 : decode cX1_fewestFrom 28 = .ok (.iload 5, 2) := by decide +kernel
theorem dX1_fewestFrom_30 : decode cX1_fewestFrom 30 = .ok (.ishr, 1) := by decide +kernel
theorem dX1_fewestFrom_31 : decode cX1_fewestFrom 31 = .ok (.iconst 1, 1) := by decide +kernel
theorem dX1_fewestFrom_32 : decode cX1_fewestFrom 32 = .ok (.iand, 1) := by decide +kernel
theorem dX1_fewestFrom_33 : decode cX1_fewestFrom 33 = .ok (.iconst 1, 1) := by decide +kernel
theorem dX1_fewestFrom_34 : decode cX1_fewestFrom 34 = .ok (.if_icmp .ne 18, 3) := by decide +kernel
theorem dX1_fewestFrom_37 : decode cX1_fewestFrom 37 = .ok (.iload 4, 2) := by decide +kernel
theorem dX1_fewestFrom_39 : decode cX1_fewestFrom 39 = .ok (.aload_n 0, 1) := by decide +kernel
theorem dX1_fewestFrom_40 : decode cX1_fewestFrom 40 = .ok (.iload_n 1, 1) := by decide +kernel
theorem dX1_fewestFrom_41 : decode cX1_fewestFrom 41 = .ok (.iload_n 2, 1) := by decide +kernel
theorem dX1_fewestFrom_42 : decode cX1_fewestFrom 42 = .ok (.iload 5, 2) := by decide +kernel
theorem dX1_fewestFrom_44 : decode cX1_fewestFrom 44 = .ok (.invokevirtual 103, 3) := by decide +kernel
theorem dX1_fewestFrom_47 : decode cX1_fewestFrom 47 = .ok (.invokestatic 107, 3) := by decide +kernel
theorem dX1_fewestFrom_50 : decode cX1_fewestFrom 50 = .ok (.istore 4, 2) := by decide +kernel
theorem dX1_fewestFrom_52 : decode cX1_fewestFrom 52 = .ok (.iinc 5 1, 3) := by decide +kernel
theorem dX1_fewestFrom_55 : decode cX1_fewestFrom 55 = .ok (.goto (-40), 3) := by decide +kernel
theorem dX1_fewestFrom_58 : decode cX1_fewestFrom 58 = .ok (.iload 4, 2) := by decide +kernel
theorem dX1_fewestFrom_60 : decode cX1_fewestFrom 60 = .ok (.ireturn, 1) := by decide +kernel
set_option maxRecDepth 20000 in
theorem ggX1_changesBy_X1_changeTo : GoodIn wsX1_changesBy wsX1_changeTo := goodIn_r _ [7] (by decide +kernel) (by decide +kernel)
set_option maxRecDepth 20000 in
theorem gX1_changesBy_X1_changeTo : GoodIn wsX1_changesBy (va_wsS RX1 115 yX1_changeTo wsX1_changeTo) := goodIn_app (goodIn_of _ (by decide +kernel)) ggX1_changesBy_X1_changeTo
theorem dX1_changesBy_0 : decode cX1_changesBy 0 = .ok (.aload_n 0, 1) := by decide +kernel
theorem dX1_changesBy_1 : decode cX1_changesBy 1 = .ok (.getfield 30, 3) := by decide +kernel
theorem dX1_changesBy_4 : decode cX1_changesBy 4 = .ok (.getfield 112, 3) := by decide +kernel
theorem dX1_changesBy_7 : decode cX1_changesBy 7 = .ok (.iload_n 3, 1) := by decide +kernel
theorem dX1_changesBy_8 : decode cX1_changesBy 8 = .ok (.iaload, 1) := by decide +kernel
theorem dX1_changesBy_9 : decode cX1_changesBy 9 = .ok (.istore 4, 2) := by decide +kernel
theorem dX1_changesBy_11 : decode cX1_changesBy 11 = .ok (.iload_n 2, 1) := by decide +kernel
theorem dX1_changesBy_12 : decode cX1_changesBy 12 = .ok (.iload 4, 2) := by decide +kernel
theorem dX1_changesBy_14 : decode cX1_changesBy 14 = .ok (.invokestatic 115, 3) := by decide +kernel
theorem dX1_changesBy_17 : decode cX1_changesBy 17 = .ok (.aload_n 0, 1) := by decide +kernel
theorem dX1_changesBy_18 : decode cX1_changesBy 18 = .ok (.getfield 21, 3) := by decide +kernel
theorem dX1_changesBy_21 : decode cX1_changesBy 21 = .ok (.iload_n 1, 1) := by decide +kernel
theorem dX1_changesBy_22 : decode cX1_changesBy 22 = .ok (.iconst 1, 1) := by decide +kernel
theorem dX1_changesBy_23 : decode cX1_changesBy 23 = .ok (.iload_n 3, 1) := by decide +kernel
theorem dX1_changesBy_24 : decode cX1_changesBy 24 = .ok (.ishl, 1) := by decide +kernel
theorem dX1_changesBy_25 : decode cX1_changesBy 25 = .ok (.ior, 1) := by decide +kernel
theorem dX1_changesBy_26 : decode cX1_changesBy 26 = .ok (.iconst 4, 1) := by decide +kernel
theorem dX1_changesBy_27 : decode cX1_changesBy 27 = .ok (.imul, 1) := by decide +kernel
theorem dX1_changesBy_28 : decode cX1_changesBy 28 = .ok (.iload 4, 2) := by decide +kernel
theorem dX1_changesBy_30 : decode cX1_changesBy 30 = .ok (.iadd, 1) := by decide +kernel
theorem dX1_changesBy_31 : decode cX1_changesBy 31 = .ok (.iaload, 1) := by decide +kernel
theorem dX1_changesBy_32 : decode cX1_changesBy 32 = .ok (.iadd, 1) := by decide +kernel
theorem dX1_changesBy_33 : decode cX1_changesBy 33 = .ok (.ireturn, 1) := by decide +kernel
theorem dX1_changeTo_0 : decode cX1_changeTo 0 = .ok (.iload_n 0, 1) := by decide +kernel
theorem dX1_changeTo_1 : decode cX1_changeTo 1 = .ok (.iconst 3, 1) := by decide +kernel
theorem dX1_changeTo_2 : decode cX1_changeTo 2 = .ok (.if_icmp .eq 8, 3) := by decide +kernel
theorem dX1_changeTo_5 : decode cX1_changeTo 5 = .ok (.iload_n 0, 1) := by decide +kernel
theorem dX1_changeTo_6 : decode cX1_changeTo 6 = .ok (.iload_n 1, 1) := by decide +kernel
theorem dX1_changeTo_7 : decode cX1_changeTo 7 = .ok (.if_icmp .ne 7, 3) := by decide +kernel
theorem dX1_changeTo_10 : decode cX1_changeTo 10 = .ok (.iconst 0, 1) := by decide +kernel
theorem dX1_changeTo_11 : decode cX1_changeTo 11 = .ok (.goto 4, 3) := by decide +kernel
theorem dX1_changeTo_14 : decode cX1_changeTo 14 = .ok (.iconst 1, 1) := by decide +kernel
theorem dX1_changeTo_15 : decode cX1_changeTo 15 = .ok (.ireturn, 1) := by decide +kernel
set_option maxRecDepth 20000 in
theorem ggX1_walk_X1_leastWithin : GoodIn wsX1_walk wsX1_leastWithin := goodIn_r _ [9, 10, 1, 2, 11, 12, 13, 8, 14, 4, 3, 15, 16, 17, 18, 19, 20, 21, 22, 23, 24, 25, 26, 27, 28, 29, 30, 31, 32, 33, 34, 35, 36, 37] (by decide +kernel) (by decide +kernel)
set_option maxRecDepth 20000 in
theorem gX1_walk_X1_leastWithin : GoodIn wsX1_walk (wsV RX1 118 RX1 yX1_leastWithin wsX1_leastWithin) := goodIn_app (goodIn_of _ (by decide +kernel)) ggX1_walk_X1_leastWithin
set_option maxRecDepth 20000 in
theorem ggX1_walk_X1_changeTo : GoodIn wsX1_walk wsX1_changeTo := goodIn_r _ [17] (by decide +kernel) (by decide +kernel)
set_option maxRecDepth 20000 in
theorem gX1_walk_X1_changeTo : GoodIn wsX1_walk (va_wsS RX1 115 yX1_changeTo wsX1_changeTo) := goodIn_app (goodIn_of _ (by decide +kernel)) ggX1_walk_X1_changeTo
theorem dX1_walk_0 : decode cX1_walk 0 = .ok (.iconst 0, 1) := by decide +kernel
theorem dX1_walk_1 : decode cX1_walk 1 = .ok (.istore_n 3, 1) := by decide +kernel
theorem dX1_walk_2 : decode cX1_walk 2 = .ok (.iconst 3, 1) := by decide +kernel
theorem dX1_walk_3 : decode cX1_walk 3 = .ok (.istore 4, 2) := by decide +kernel
theorem dX1_walk_5 : decode cX1_walk 5 = .ok (.iconst 0, 1) := by decide +kernel
theorem dX1_walk_6 : decode cX1_walk 6 = .ok (.istore 5, 2) := by decide +kernel
theorem dX1_walk_8 : decode cX1_walk 8 = .ok (.iconst 0, 1) := by decide +kernel
theorem dX1_walk_9 : decode cX1_walk 9 = .ok (.istore 6, 2) := by decide +kernel
theorem dX1_walk_11 : decode cX1_walk 11 = .ok (.iload 6, 2) := by decide +kernel
theorem dX1_walk_13 : decode cX1_walk 13 = .ok (.aload_n 0, 1) := by decide +kernel
theorem dX1_walk_14 : decode cX1_walk 14 = .ok (.getfield 30, 3) := by decide +kernel
theorem dX1_walk_17 : decode cX1_walk 17 = .ok (.getfield 72, 3) := by decide +kernel
theorem dX1_walk_20 : decode cX1_walk 20 = .ok (.if_icmp .ge 88, 3) := by decide +kernel
theorem dX1_walk_23 : decode cX1_walk 23 = .ok (.iload_n 2, 1) := by decide +kernel
theorem dX1_walk_24 : decode cX1_walk 24 = .ok (.ifCond .eq 17, 3) := by decide +kernel
theorem dX1_walk_27 : decode cX1_walk 27 = .ok (.aload_n 0, 1) := by decide +kernel
theorem dX1_walk_28 : decode cX1_walk 28 = .ok (.getfield 21, 3) := by decide +kernel
theorem dX1_walk_31 : decode cX1_walk 31 = .ok (.iload_n 3, 1) := by decide +kernel
theorem dX1_walk_32 : decode cX1_walk 32 = .ok (.iconst 4, 1) := by decide +kernel
theorem dX1_walk_33 : decode cX1_walk 33 = .ok (.imul, 1) := by decide +kernel
theorem dX1_walk_34 : decode cX1_walk 34 = .ok (.iload 4, 2) := by decide +kernel
theorem dX1_walk_36 : decode cX1_walk 36 = .ok (.iadd, 1) := by decide +kernel
theorem dX1_walk_37 : decode cX1_walk 37 = .ok (.iaload, 1) := by decide +kernel
theorem dX1_walk_38 : decode cX1_walk 38 = .ok (.goto 6, 3) := by decide +kernel
theorem dX1_walk_41 : decode cX1_walk 41 = .ok (.sipush 999, 3) := by decide +kernel
theorem dX1_walk_44 : decode cX1_walk 44 = .ok (.istore 7, 2) := by decide +kernel
theorem dX1_walk_46 : decode cX1_walk 46 = .ok (.aload_n 0, 1) := by decide +kernel
theorem dX1_walk_47 : decode cX1_walk 47 = .ok (.iload_n 3, 1) := by decide +kernel
theorem dX1_walk_48 : decode cX1_walk 48 = .ok (.iload 4, 2) := by decide +kernel
theorem dX1_walk_50 : decode cX1_walk 50 = .ok (.iload 7, 2) := by decide +kernel
theorem dX1_walk_52 : decode cX1_walk 52 = .ok (.invokevirtual 118, 3) := by decide +kernel
theorem dX1_walk_55 : decode cX1_walk 55 = .ok (.istore 8, 2) := by decide +kernel
theorem dX1_walk_57 : decode cX1_walk 57 = .ok (.iload 5, 2) := by decide +kernel
theorem dX1_walk_59 : decode cX1_walk 59 = .ok (.iload 4, 2) := by decide +kernel
theorem dX1_walk_61 : decode cX1_walk 61 = .ok (.aload_n 0, 1) := by decide +kernel
theorem dX1_walk_62 : decode cX1_walk 62 = .ok (.getfield 30, 3) := by decide +kernel
theorem dX1_walk_65 : decode cX1_walk 65 = .ok (.getfield 112, 3) := by decide +kernel
theorem dX1_walk_68 : decode cX1_walk 68 = .ok (.iload 8, 2) := by decide +kernel
theorem dX1_walk_70 : decode cX1_walk 70 = .ok (.iaload, 1) := by decide +kernel
theorem dX1_walk_71 : decode cX1_walk 71 = .ok (.invokestatic 115, 3) := by decide +kernel
theorem dX1_walk_74 : decode cX1_walk 74 = .ok (.iadd, 1) := by decide +kernel
theorem dX1_walk_75 : decode cX1_walk 75 = .ok (.istore 5, 2) := by decide +kernel
theorem dX1_walk_77 : decode cX1_walk 77 = .ok (.aload_n 0, 1) := by decide +kernel
theorem dX1_walk_78 : decode cX1_walk 78 = .ok (.getfield 30, 3) := by decide +kernel
theorem dX1_walk_81 : decode cX1_walk 81 = .ok (.getfield 112, 3) := by decide +kernel
theorem dX1_walk_84 : decode cX1_walk 84 = .ok (.iload 8, 2) := by decide +kernel
theorem dX1_walk_86 : decode cX1_walk 86 = .ok (.iaload, 1) := by decide +kernel
theorem dX1_walk_87 : decode cX1_walk 87 = .ok (.istore 4, 2) := by decide +kernel
theorem dX1_walk_89 : decode cX1_walk 89 = .ok (.iload_n 3, 1) := by decide +kernel
theorem dX1_walk_90 : decode cX1_walk 90 = .ok (.iconst 1, 1) := by decide +kernel
theorem dX1_walk_91 : decode cX1_walk 91 = .ok (.iload 8, 2) := by decide +kernel
theorem dX1_walk_93 : decode cX1_walk 93 = .ok (.ishl, 1) := by decide +kernel
theorem dX1_walk_94 : decode cX1_walk 94 = .ok (.ior, 1) := by decide +kernel
theorem dX1_walk_95 : decode cX1_walk 95 = .ok (.istore_n 3, 1) := by decide +kernel
theorem dX1_walk_96 : decode cX1_walk 96 = .ok (.aload_n 1, 1) := by decide +kernel
theorem dX1_walk_97 : decode cX1_walk 97 = .ok (.iload 6, 2) := by decide +kernel
theorem dX1_walk_99 : decode cX1_walk 99 = .ok (.iload 8, 2) := by decide +kernel
theorem dX1_walk_101 : decode cX1_walk 101 = .ok (.iastore, 1) := by decide +kernel
theorem dX1_walk_102 : decode cX1_walk 102 = .ok (.iinc 6 1, 3) := by decide +kernel
theorem dX1_walk_105 : decode cX1_walk 105 = .ok (.goto (-94), 3) := by decide +kernel
theorem dX1_walk_108 : decode cX1_walk 108 = .ok (.iload 5, 2) := by decide +kernel
theorem dX1_walk_110 : decode cX1_walk 110 = .ok (.ireturn, 1) := by decide +kernel
set_option maxRecDepth 20000 in
theorem ggX1_leastWithin_X1_changesBy : GoodIn wsX1_leastWithin wsX1_changesBy := goodIn_r _ [8, 2, 9, 10, 11, 12, 7, 13, 14, 15, 16, 17, 18, 19, 20, 21, 22, 23, 24, 25, 26, 27, 28, 29, 30, 31, 32, 33] (by decide +kernel) (by decide +kernel)
set_option maxRecDepth 20000 in
theorem gX1_leastWithin_X1_changesBy : GoodIn wsX1_leastWithin (wsV RX1 103 RX1 yX1_changesBy wsX1_changesBy) := goodIn_app (goodIn_of _ (by decide +kernel)) ggX1_leastWithin_X1_changesBy
theorem dX1_leastWithin_0 : decode cX1_leastWithin 0 = .ok (.aload_n 0, 1) := by decide +kernel
theorem dX1_leastWithin_1 : decode cX1_leastWithin 1 = .ok (.getfield 9, 3) := by decide +kernel
theorem dX1_leastWithin_4 : decode cX1_leastWithin 4 = .ok (.iload_n 1, 1) := by decide +kernel
theorem dX1_leastWithin_5 : decode cX1_leastWithin 5 = .ok (.iaload, 1) := by decide +kernel
theorem dX1_leastWithin_6 : decode cX1_leastWithin 6 = .ok (.istore 4, 2) := by decide +kernel
theorem dX1_leastWithin_8 : decode cX1_leastWithin 8 = .ok (.iconst 0, 1) := by decide +kernel
theorem dX1_leastWithin_9 : decode cX1_leastWithin 9 = .ok (.istore 5, 2) := by decide +kernel
theorem dX1_leastWithin_11 : decode cX1_leastWithin 11 = .ok (.iload 5, 2) := by decide +kernel
theorem dX1_leastWithin_13 : decode cX1_leastWithin 13 = .ok (.aload_n 0, 1) := by decide +kernel
theorem dX1_leastWithin_14 : decode cX1_leastWithin 14 = .ok (.getfield 30, 3) := by decide +kernel
theorem dX1_leastWithin_17 : decode cX1_leastWithin 17 = .ok (.getfield 72, 3) := by decide +kernel
theorem dX1_leastWithin_20 : decode cX1_leastWithin 20 = .ok (.if_icmp .ge 35, 3) := by decide +kernel
theorem dX1_leastWithin_23 : decode cX1_leastWithin 23 = .ok (.iload 4, 2) := by decide +kernel
theorem dX1_leastWithin_25 : decode cX1_leastWithin 25 = .ok (.iload 5, 2) := by decide +kernel
theorem dX1_leastWithin_27 : decode cX1_leastWithin 27 = .ok (.ishr, 1) := by decide +kernel
theorem dX1_leastWithin_28 : decode cX1_leastWithin 28 = .ok (.iconst 1, 1) := by decide +kernel
theorem dX1_leastWithin_29 : decode cX1_leastWithin 29 = .ok (.iand, 1) := by decide +kernel
theorem dX1_leastWithin_30 : decode cX1_leastWithin 30 = .ok (.iconst 1, 1) := by decide +kernel
theorem dX1_leastWithin_31 : decode cX1_leastWithin 31 = .ok (.if_icmp .ne 18, 3) := by decide +kernel
theorem dX1_leastWithin_34 : decode cX1_leastWithin 34 = .ok (.aload_n 0, 1) := by decide +kernel
theorem dX1_leastWithin_35 : decode cX1_leastWithin 35 = .ok (.iload_n 1, 1) := by decide +kernel
theorem dX1_leastWithin_36 : decode cX1_leastWithin 36 = .ok (.iload_n 2, 1) := by decide +kernel
theorem dX1_leastWithin_37 : decode cX1_leastWithin 37 = .ok (.iload 5, 2) := by decide +kernel
theorem dX1_leastWithin_39 : decode cX1_leastWithin 39 = .ok (.invokevirtual 103, 3) := by decide +kernel
theorem dX1_leastWithin_42 : decode cX1_leastWithin 42 = .ok (.iload_n 3, 1) := by decide +kernel
theorem dX1_leastWithin_43 : decode cX1_leastWithin 43 = .ok (.if_icmp .gt 6, 3) := by decide +kernel
theorem dX1_leastWithin_46 : decode cX1_leastWithin 46 = .ok (.iload 5, 2) := by decide +kernel
theorem dX1_leastWithin_48 : decode cX1_leastWithin 48 = .ok (.ireturn, 1) := by decide +kernel
theorem dX1_leastWithin_49 : decode cX1_leastWithin 49 = .ok (.iinc 5 1, 3) := by decide +kernel
theorem dX1_leastWithin_52 : decode cX1_leastWithin 52 = .ok (.goto (-41), 3) := by decide +kernel
theorem dX1_leastWithin_55 : decode cX1_leastWithin 55 = .ok (.iconst 0, 1) := by decide +kernel
theorem dX1_leastWithin_56 : decode cX1_leastWithin 56 = .ok (.ireturn, 1) := by decide +kernel
theorem dX2_init_0 : decode cX2_init 0 = .ok (.aload_n 0, 1) := by decide +kernel
theorem dX2_init_1 : decode cX2_init 1 = .ok (.invokespecial 3, 3) := by decide +kernel
theorem dX2_init_4 : decode cX2_init 4 = .ok (.aload_n 0, 1) := by decide +kernel
theorem dX2_init_5 : decode cX2_init 5 = .ok (.bipush 120, 2) := by decide +kernel
theorem dX2_init_7 : decode cX2_init 7 = .ok (.newarray .int, 2) := by decide +kernel
theorem dX2_init_9 : decode cX2_init 9 = .ok (.putfield 9, 3) := by decide +kernel
theorem dX2_init_12 : decode cX2_init 12 = .ok (.aload_n 0, 1) := by decide +kernel
theorem dX2_init_13 : decode cX2_init 13 = .ok (.bipush 60, 2) := by decide +kernel
theorem dX2_init_15 : decode cX2_init 15 = .ok (.newarray .int, 2) := by decide +kernel
theorem dX2_init_17 : decode cX2_init 17 = .ok (.putfield 15, 3) := by decide +kernel
theorem dX2_init_20 : decode cX2_init 20 = .ok (.aload_n 0, 1) := by decide +kernel
theorem dX2_init_21 : decode cX2_init 21 = .ok (.sipush 180, 3) := by decide +kernel
theorem dX2_init_24 : decode cX2_init 24 = .ok (.newarray .int, 2) := by decide +kernel
theorem dX2_init_26 : decode cX2_init 26 = .ok (.putfield 18, 3) := by decide +kernel
theorem dX2_init_29 : decode cX2_init 29 = .ok (.aload_n 0, 1) := by decide +kernel
theorem dX2_init_30 : decode cX2_init 30 = .ok (.iconst 0, 1) := by decide +kernel
theorem dX2_init_31 : decode cX2_init 31 = .ok (.putfield 21, 3) := by decide +kernel
theorem dX2_init_34 : decode cX2_init 34 = .ok (.aload_n 0, 1) := by decide +kernel
theorem dX2_init_35 : decode cX2_init 35 = .ok (.iconst 0, 1) := by decide +kernel
theorem dX2_init_36 : decode cX2_init 36 = .ok (.putfield 25, 3) := by decide +kernel
theorem dX2_init_39 : decode cX2_init 39 = .ok (.aload_n 0, 1) := by decide +kernel
theorem dX2_init_40 : decode cX2_init 40 = .ok (.iconst 0, 1) := by decide +kernel
theorem dX2_init_41 : decode cX2_init 41 = .ok (.putfield 28, 3) := by decide +kernel
theorem dX2_init_44 : decode cX2_init 44 = .ok (.return_, 1) := by decide +kernel
theorem dX2_append_0 : decode cX2_append 0 = .ok (.aload_n 0, 1) := by decide +kernel
theorem dX2_append_1 : decode cX2_append 1 = .ok (.getfield 9, 3) := by decide +kernel
theorem dX2_append_4 : decode cX2_append 4 = .ok (.aload_n 0, 1) := by decide +kernel
theorem dX2_append_5 : decode cX2_append 5 = .ok (.getfield 21, 3) := by decide +kernel
theorem dX2_append_8 : decode cX2_append 8 = .ok (.iload_n 1, 1) := by decide +kernel
theorem dX2_append_9 : decode cX2_append 9 = .ok (.iastore, 1) := by decide +kernel
theorem dX2_append_10 : decode cX2_append 10 = .ok (.aload_n 0, 1) := by decide +kernel
theorem dX2_append_11 : decode cX2_append 11 = .ok (.dup, 1) := by decide +kernel
theorem dX2_append_12 : decode cX2_append 12 = .ok (.getfield 21, 3) := by decide +kernel
theorem dX2_append_15 : decode cX2_append 15 = .ok (.iconst 1, 1) := by decide +kernel
theorem dX2_append_16 : decode cX2_append 16 = .ok (.iadd, 1) := by decide +kernel
theorem dX2_append_17 : decode cX2_append 17 = .ok (.putfield 21, 3) := by decide +kernel
theorem dX2_append_20 : decode cX2_append 20 = .ok (.return_, 1) := by decide +kernel
theorem dX2_numberOf_0 : decode cX2_numberOf 0 = .ok (.aload_n 0, 1) := by decide +kernel
theorem dX2_numberOf_1 : decode cX2_numberOf 1 = .ok (.getfield 18, 3) := by decide +kernel
theorem dX2_numberOf_4 : decode cX2_numberOf 4 = .ok (.iload_n 1, 1) := by decide +kernel
theorem dX2_numberOf_5 : decode cX2_numberOf 5 = .ok (.iconst 3, 1) := by decide +kernel
theorem dX2_numberOf_6 : decode cX2_numberOf 6 = .ok (.imul, 1) := by decide +kernel
theorem dX2_numberOf_7 : decode cX2_numberOf 7 = .ok (.iload_n 2, 1) := by decide +kernel
theorem dX2_numberOf_8 : decode cX2_numberOf 8 = .ok (.iadd, 1) := by decide +kernel
theorem dX2_numberOf_9 : decode cX2_numberOf 9 = .ok (.iaload, 1) := by decide +kernel
theorem dX2_numberOf_10 : decode cX2_numberOf 10 = .ok (.ireturn, 1) := by decide +kernel
set_option maxRecDepth 20000 in
theorem ggX2_read_X2_skipBlanks : GoodIn wsX2_read wsX2_skipBlanks := goodIn_r _ [8, 1, 3, 9, 27, 28, 29, 30, 31, 32] (by decide +kernel) (by decide +kernel)
set_option maxRecDepth 20000 in
theorem gX2_read_X2_skipBlanks : GoodIn wsX2_read (wsV RX2 31 RX2 yX2_skipBlanks wsX2_skipBlanks) := goodIn_app (goodIn_of _ (by decide +kernel)) ggX2_read_X2_skipBlanks
set_option maxRecDepth 20000 in
theorem ggX2_read_X2_readOrder : GoodIn wsX2_read wsX2_readOrder := goodIn_r _ [13, 9, 1, 14, 2, 3, 15, 16, 7, 17, 18, 19, 20, 21, 22, 4, 5, 6, 8, 23, 24, 25, 26, 27, 28, 29, 30, 31, 32] (by decide +kernel) (by decide +kernel)
set_option maxRecDepth 20000 in
theorem gX2_read_X2_readOrder : GoodIn wsX2_read (wsV RX2 34 RX2 yX2_readOrder wsX2_readOrder) := goodIn_app (goodIn_of _ (by decide +kernel)) ggX2_read_X2_readOrder
theorem dX2_read_0 : decode cX2_read 0 = .ok (.aload_n 0, 1) := by decide +kernel
theorem dX2_read_1 : decode cX2_read 1 = .ok (.iconst 0, 1) := by decide +kernel
theorem dX2_read_2 : decode cX2_read 2 = .ok (.putfield 28, 3) := by decide +kernel
theorem dX2_read_5 : decode cX2_read 5 = .ok (.aload_n 0, 1) := by decide +kernel
theorem dX2_read_6 : decode cX2_read 6 = .ok (.iconst 0, 1) := by decide +kernel
theorem dX2_read_7 : decode cX2_read 7 = .ok (.putfield 25, 3) := by decide +kernel
theorem dX2_read_10 : decode cX2_read 10 = .ok (.aload_n 0, 1) := by decide +kernel
theorem dX2_read_11 : decode cX2_read 11 = .ok (.invokevirtual 31, 3) := by decide +kernel
theorem dX2_read_14 : decode cX2_read 14 = .ok (.aload_n 0, 1) := by decide +kernel
theorem dX2_read_15 : decode cX2_read 15 = .ok (.getfield 28, 3) := by decide +kernel
theorem dX2_read_18 : decode cX2_read 18 = .ok (.aload_n 0, 1) := by decide +kernel
theorem dX2_read_19 : decode cX2_read 19 = .ok (.getfield 21, 3) := by decide +kernel
theorem dX2_read_22 : decode cX2_read 22 = .ok (.if_icmp .lt 8, 3) := by decide +kernel
theorem dX2_read_25 : decode cX2_read 25 = .ok (.aload_n 0, 1) := by decide +kernel
theorem dX2_read_26 : decode cX2_read 26 = .ok (.getfield 21, 3) := by decide +kernel
theorem dX2_read_29 : decode cX2_read 29 = .ok (.ireturn, 1) := by decide +kernel
theorem dX2_read_30 : decode cX2_read 30 = .ok (.aload_n 0, 1) := by decide +kernel
theorem dX2_read_31 : decode cX2_read 31 = .ok (.getfield 28, 3) := by decide +kernel
theorem dX2_read_34 : decode cX2_read 34 = .ok (.aload_n 0, 1) := by decide +kernel
theorem dX2_read_35 : decode cX2_read 35 = .ok (.getfield 21, 3) := by decide +kernel
theorem dX2_read_38 : decode cX2_read 38 = .ok (.if_icmp .ge 41, 3) := by decide +kernel
theorem dX2_read_41 : decode cX2_read 41 = .ok (.aload_n 0, 1) := by decide +kernel
theorem dX2_read_42 : decode cX2_read 42 = .ok (.getfield 25, 3) := by decide +kernel
theorem dX2_read_45 : decode cX2_read 45 = .ok (.bipush 60, 2) := by decide +kernel
theorem dX2_read_47 : decode cX2_read 47 = .ok (.if_icmp .ge 32, 3) := by decide +kernel
theorem dX2_read_50 : decode cX2_read 50 = .ok (.aload_n 0, 1) := by decide +kernel
theorem dX2_read_51 : decode cX2_read 51 = .ok (.invokevirtual 34, 3) := by decide +kernel
theorem dX2_read_54 : decode cX2_read 54 = .ok (.ifCond .ne 8, 3) := by decide +kernel
theorem dX2_read_57 : decode cX2_read 57 = .ok (.aload_n 0, 1) := by decide +kernel
theorem dX2_read_58 : decode cX2_read 58 = .ok (.getfield 28, 3) := by decide +kernel
theorem dX2_read_61 : decode cX2_read 61 = .ok (.ireturn, 1) := by decide +kernel
theorem dX2_read_62 : decode cX2_read 62 = .ok (.aload_n 0, 1) := by decide +kernel
theorem dX2_read_63 : decode cX2_read 63 = .ok (.dup, 1) := by decide +kernel
theorem dX2_read_64 : decode cX2_read 64 = .ok (.getfield 25, 3) := by decide +kernel
theorem dX2_read_67 : decode cX2_read 67 = .ok (.iconst 1, 1) := by decide +kernel
theorem dX2_read_68 : decode cX2_read 68 = .ok (.iadd, 1) := by decide +kernel
theorem dX2_read_69 : decode cX2_read 69 = .ok (.putfield 25, 3) := by decide +kernel
theorem dX2_read_72 : decode cX2_read 72 = .ok (.aload_n 0, 1) := by decide +kernel
theorem dX2_read_73 : decode cX2_read 73 = .ok (.invokevirtual 31, 3) := by decide +kernel
theorem dX2_read_76 : decode cX2_read 76 = .ok (.goto (-46), 3) := by decide +kernel
theorem dX2_read_79 : decode cX2_read 79 = .ok (.iconst (-1), 1) := by decide +kernel
theorem dX2_read_80 : decode cX2_read 80 = .ok (.ireturn, 1) := by decide +kernel
set_option maxRecDepth 20000 in
theorem ggX2_readOrder_X2_numbersBehind : GoodIn wsX2_readOrder wsX2_numbersBehind := goodIn_r _ [9] (by decide +kernel) (by decide +kernel)
set_option maxRecDepth 20000 in
theorem gX2_readOrder_X2_numbersBehind : GoodIn wsX2_readOrder (va_wsS RX2 38 yX2_numbersBehind wsX2_numbersBehind) := goodIn_app (goodIn_of _ (by decide +kernel)) ggX2_readOrder_X2_numbersBehind
set_option maxRecDepth 20000 in
theorem ggX2_readOrder_X2_readNumber : GoodIn wsX2_readOrder wsX2_readNumber := goodIn_r _ [13, 1, 2, 14, 4, 15, 16, 17, 8, 18, 5, 19, 20, 21, 22, 23, 24, 25, 26, 27, 28] (by decide +kernel) (by decide +kernel)
set_option maxRecDepth 20000 in
theorem gX2_readOrder_X2_readNumber : GoodIn wsX2_readOrder (wsV RX2 42 RX2 yX2_readNumber wsX2_readNumber) := goodIn_app (goodIn_of _ (by decide +kernel)) ggX2_readOrder_X2_readNumber
set_option maxRecDepth 20000 in
theorem ggX2_readOrder_X2_skipBlanks : GoodIn wsX2_readOrder wsX2_skipBlanks := goodIn_r _ [18, 2, 5, 1, 23, 24, 25, 26, 27, 28] (by decide +kernel) (by decide +kernel)
set_option maxRecDepth 20000 in
theorem gX2_readOrder_X2_skipBlanks : GoodIn wsX2_readOrder (wsV RX2 31 RX2 yX2_skipBlanks wsX2_skipBlanks) := goodIn_app (goodIn_of _ (by decide +kernel)) ggX2_readOrder_X2_skipBlanks
theorem dX2_readOrder_0 : decode cX2_readOrder 0 = .ok (.aload_n 0, 1) := by decide +kernel
theorem dX2_readOrder_1 : decode cX2_readOrder 1 = .ok (.getfield 9, 3) := by decide +kernel
theorem dX2_readOrder_4 : decode cX2_readOrder 4 = .ok (.aload_n 0, 1) := by decide +kernel
theorem dX2_readOrder_5 : decode cX2_readOrder 5 = .ok (.getfield 28, 3) := by decide +kernel
theorem dX2_readOrder_8 : decode cX2_readOrder 8 = .ok (.iaload, 1) := by decide +kernel
theorem dX2_readOrder_9 : decode cX2_readOrder 9 = .ok (.istore_n 1, 1) := by decide +kernel
theorem dX2_readOrder_10 : decode cX2_readOrder 10 = .ok (.iload_n 1, 1) := by decide +kernel
theorem dX2_readOrder_11 : decode cX2_readOrder 11 = .ok (.invokestatic 38, 3) := by decide +kernel
theorem dX2_readOrder_14 : decode cX2_readOrder 14 = .ok (.istore_n 2, 1) := by decide +kernel
theorem dX2_readOrder_15 : decode cX2_readOrder 15 = .ok (.iload_n 2, 1) := by decide +kernel
theorem dX2_readOrder_16 : decode cX2_readOrder 16 = .ok (.ifCond .ge 5, 3) := by decide +kernel
theorem dX2_readOrder_19 : decode cX2_readOrder 19 = .ok (.iconst 0, 1) := by decide +kernel
theorem dX2_readOrder_20 : decode cX2_readOrder 20 = .ok (.ireturn, 1) := by decide +kernel
theorem dX2_readOrder_21 : decode cX2_readOrder 21 = .ok (.aload_n 0, 1) := by decide +kernel
theorem dX2_readOrder_22 : decode cX2_readOrder 22 = .ok (.getfield 15, 3) := by decide +kernel
theorem dX2_readOrder_25 : decode cX2_readOrder 25 = .ok (.aload_n 0, 1) := by decide +kernel
theorem dX2_readOrder_26 : decode cX2_readOrder 26 = .ok (.getfield 25, 3) := by decide +kernel
theorem dX2_readOrder_29 : decode cX2_readOrder 29 = .ok (.iload_n 1, 1) := by decide +kernel
theorem dX2_readOrder_30 : decode cX2_readOrder 30 = .ok (.iastore, 1) := by decide +kernel
theorem dX2_readOrder_31 : decode cX2_readOrder 31 = .ok (.aload_n 0, 1) := by decide +kernel
theorem dX2_readOrder_32 : decode cX2_readOrder 32 = .ok (.dup, 1) := by decide +kernel
theorem dX2_readOrder_33 : decode cX2_readOrder 33 = .ok (.getfield 28, 3) := by decide +kernel
theorem dX2_readOrder_36 : decode cX2_readOrder 36 = .ok (.iconst 1, 1) := by decide +kernel
theorem dX2_readOrder_37 : decode cX2_readOrder 37 = .ok (.iadd, 1) := by decide +kernel
theorem dX2_readOrder_38 : decode cX2_readOrder 38 = .ok (.putfield 28, 3) := by decide +kernel
theorem dX2_readOrder_41 : decode cX2_readOrder 41 = .ok (.iconst 0, 1) := by decide +kernel
theorem dX2_readOrder_42 : decode cX2_readOrder 42 = .ok (.istore_n 3, 1) := by decide +kernel
theorem dX2_readOrder_43 : decode cX2_readOrder 43 = .ok (.iload_n 3, 1) := by decide +kernel
theorem dX2_readOrder_44 : decode cX2_readOrder 44 = .ok (.iload_n 2, 1) := by decide +kernel
theorem dX2_readOrder_45 : decode cX2_readOrder 45 = .ok (.if_icmp .ge 19, 3) := by decide +kernel
theorem dX2_readOrder_48 : decode cX2_readOrder 48 = .ok (.aload_n 0, 1) := by decide +kernel
theorem dX2_readOrder_49 : decode cX2_readOrder 49 = .ok (.iload_n 3, 1) := by decide +kernel
theorem dX2_readOrder_50 : decode cX2_readOrder 50 = .ok (.invokevirtual 42, 3) := by decide +kernel
theorem dX2_readOrder_53 : decode cX2_readOrder 53 = .ok (.ifCond .ne 5, 3) := by decide +kernel
theorem dX2_readOrder_56 : decode cX2_readOrder 56 = .ok (.iconst 0, 1) := by decide +kernel
theorem dX2_readOrder_57 : decode cX2_readOrder 57 = .ok (.ireturn, 1) := by decide +kernel
theorem dX2_readOrder_58 : decode cX2_readOrder 58 = .ok (.iinc 3 1, 3) := by decide +kernel
theorem dX2_readOrder_61 : decode cX2_readOrder 61 = .ok (.goto (-18), 3) := by decide +kernel
theorem dX2_readOrder_64 : decode cX2_readOrder 64 = .ok (.aload_n 0, 1) := by decide +kernel
theorem dX2_readOrder_65 : decode cX2_readOrder 65 = .ok (.invokevirtual 31, 3) := by decide +kernel
theorem dX2_readOrder_68 : decode cX2_readOrder 68 = .ok (.aload_n 0, 1) := by decide +kernel
theorem dX2_readOrder_69 : decode cX2_readOrder 69 = .ok (.getfield 28, 3) := by decide +kernel
theorem dX2_readOrder_72 : decode cX2_readOrder 72 = .ok (.aload_n 0, 1) := by decide +kernel
theorem dX2_readOrder_73 : decode cX2_readOrder 73 = .ok (.getfield 21, 3) := by decide +kernel
theorem dX2_readOrder_76 : decode cX2_readOrder 76 = .ok (.if_icmp .ge 17, 3) := by decide +kernel
theorem dX2_readOrder_79 : decode cX2_readOrder 79 = .ok (.aload_n 0, 1) := by decide +kernel
theorem dX2_readOrder_80 : decode cX2_readOrder 80 = .ok (.getfield 9, 3) := by decide +kernel
theorem dX2_readOrder_83 : decode cX2_readOrder 83 = .ok (.aload_n 0, 1) := by decide +kernel
theorem dX2_readOrder_84 : decode cX2_readOrder 84 = .ok (.getfield 28, 3) := by decide +kernel
theorem dX2_readOrder_87 : decode cX2_readOrder 87 = .ok (.iaload, 1) := by decide +kernel
theorem dX2_readOrder_88 : decode cX2_readOrder 88 = .ok (.bipush 59, 2) := by decide +kernel
theorem dX2_readOrder_90 : decode cX2_readOrder 90 = .ok (.if_icmp .eq 5, 3) := by decide +kernel
theorem dX2_readOrder_93 : decode cX2_readOrder 93 = .ok (.iconst 0, 1) := by decide +kernel
theorem dX2_readOrder_94 : decode cX2_readOrder 94 = .ok (.ireturn, 1) := by decide +kernel
theorem dX2_readOrder_95 : decode cX2_readOrder 95 = .ok (.aload_n 0, 1) := by decide +kernel
theorem dX2_readOrder_96 : decode cX2_readOrder 96 = .ok (.dup, 1) := by decide +kernel
theorem dX2_readOrder_97 : decode cX2_readOrder 97 = .ok (.getfield 28, 3) := by decide +kernel
theorem dX2_readOrder_100 : decode cX2_readOrder 100 = .ok (.iconst 1, 1) := by decide +kernel
theorem dX2_readOrder_101 : decode cX2_readOrder 101 = .ok (.iadd, 1) := by decide +kernel
theorem dX2_readOrder_102 : decode cX2_readOrder 102 = .ok (.putfield 28, 3) := by decide +kernel
theorem dX2_readOrder_105 : decode cX2_readOrder 105 = .ok (.iconst 1, 1) := by decide +kernel
theorem dX2_readOrder_106 : decode cX2_readOrder 106 = .ok (.ireturn, 1) := by decide +kernel
set_option maxRecDepth 20000 in
theorem ggX2_readNumber_X2_skipBlanks : GoodIn wsX2_readNumber wsX2_skipBlanks := goodIn_r _ [9, 2, 10, 1, 15, 16, 17, 18, 19, 20] (by decide +kernel) (by decide +kernel)
set_option maxRecDepth 20000 in
theorem gX2_readNumber_X2_skipBlanks : GoodIn wsX2_readNumber (wsV RX2 31 RX2 yX2_skipBlanks wsX2_skipBlanks) := goodIn_app (goodIn_of _ (by decide +kernel)) ggX2_readNumber_X2_skipBlanks
set_option maxRecDepth 20000 in
theorem ggX2_readNumber_X2_isFigureAt : GoodIn wsX2_readNumber wsX2_isFigureAt := goodIn_r _ [14, 2, 10, 1, 15, 16, 17, 18, 19, 20] (by decide +kernel) (by decide +kernel)
set_option maxRecDepth 20000 in
theorem gX2_readNumber_X2_isFigureAt : GoodIn wsX2_readNumber (wsV RX2 46 RX2 yX2_isFigureAt wsX2_isFigureAt) := goodIn_app (goodIn_of _ (by decide +kernel)) ggX2_readNumber_X2_isFigureAt
theorem dX2_readNumber_0 : decode cX2_readNumber 0 = .ok (.aload_n 0, 1) := by decide +kernel
theorem dX2_readNumber_1 : decode cX2_readNumber 1 = .ok (.invokevirtual 31, 3) := by decide +kernel
theorem dX2_readNumber_4 : decode cX2_readNumber 4 = .ok (.aload_n 0, 1) := by decide +kernel
theorem dX2_readNumber_5 : decode cX2_readNumber 5 = .ok (.invokevirtual 46, 3) := by decide +kernel
theorem dX2_readNumber_8 : decode cX2_readNumber 8 = .ok (.ifCond .ne 5, 3) := by decide +kernel
theorem dX2_readNumber_11 : decode cX2_readNumber 11 = .ok (.iconst 0, 1) := by decide +kernel
theorem dX2_readNumber_12 : decode cX2_readNumber 12 = .ok (.ireturn, 1) := by decide +kernel
theorem dX2_readNumber_13 : decode cX2_readNumber 13 = .ok (.aload_n 0, 1) := by decide +kernel
theorem dX2_readNumber_14 : decode cX2_readNumber 14 = .ok (.getfield 9, 3) := by decide +kernel
theorem dX2_readNumber_17 : decode cX2_readNumber 17 = .ok (.aload_n 0, 1) := by decide +kernel
theorem dX2_readNumber_18 : decode cX2_readNumber 18 = .ok (.getfield 28, 3) := by decide +kernel
theorem dX2_readNumber_21 : decode cX2_readNumber 21 = .ok (.iaload, 1) := by decide +kernel
theorem dX2_readNumber_22 : decode cX2_readNumber 22 = .ok (.bipush 48, 2) := by decide +kernel
theorem dX2_readNumber_24 : decode cX2_readNumber 24 = .ok (.isub, 1) := by decide +kernel
theorem dX2_readNumber_25 : decode cX2_readNumber 25 = .ok (.istore_n 2, 1) := by decide +kernel
theorem dX2_readNumber_26 : decode cX2_readNumber 26 = .ok (.aload_n 0, 1) := by decide +kernel
theorem dX2_readNumber_27 : decode cX2_readNumber 27 = .ok (.dup, 1) := by decide +kernel
theorem dX2_readNumber_28 : decode cX2_readNumber 28 = .ok (.getfield 28, 3) := by decide +kernel
theorem dX2_readNumber_31 : decode cX2_readNumber 31 = .ok (.iconst 1, 1) := by decide +kernel
theorem dX2_readNumber_32 : decode cX2_readNumber 32 = .ok (.iadd, 1) := by decide +kernel
theorem dX2_readNumber_33 : decode cX2_readNumber 33 = .ok (.putfield 28, 3) := by decide +kernel
theorem dX2_readNumber_36 : decode cX2_readNumber 36 = .ok (.aload_n 0, 1) := by decide +kernel
theorem dX2_readNumber_37 : decode cX2_readNumber 37 = .ok (.invokevirtual 46, 3) := by decide +kernel
theorem dX2_readNumber_40 : decode cX2_readNumber 40 = .ok (.ifCond .eq 31, 3) := by decide +kernel
theorem dX2_readNumber_43 : decode cX2_readNumber 43 = .ok (.bipush 10, 2) := by decide +kernel
theorem dX2_readNumber_45 : decode cX2_readNumber 45 = .ok (.iload_n 2, 1) := by decide +kernel
theorem dX2_readNumber_46 : decode cX2_readNumber 46 = .ok (.imul, 1) := by decide +kernel
theorem dX2_readNumber_47 : decode cX2_readNumber 47 = .ok (.aload_n 0, 1) := by decide +kernel
theorem dX2_readNumber_48 : decode cX2_readNumber 48 = .ok (.getfield 9, 3) := by decide +kernel
theorem dX2_readNumber_51 : decode cX2_readNumber 51 = .ok (.aload_n 0, 1) := by decide +kernel
theorem dX2_readNumber_52 : decode cX2_readNumber 52 = .ok (.getfield 28, 3) := by decide +kernel
theorem dX2_readNumber_55 : decode cX2_readNumber 55 = .ok (.iaload, 1) := by decide +kernel
theorem dX2_readNumber_56 : decode cX2_readNumber 56 = .ok (.iadd, 1) := by decide +kernel
theorem dX2_readNumber_57 : decode cX2_readNumber 57 = .ok (.bipush 48, 2) := by decide +kernel
theorem dX2_readNumber_59 : decode cX2_readNumber 59 = .ok (.isub, 1) := by decide +kernel
theorem dX2_readNumber_60 : decode cX2_readNumber 60 = .ok (.istore_n 2, 1) := by decide +kernel
theorem dX2_readNumber_61 : decode cX2_readNumber 61 = .ok (.aload_n 0, 1) := by decide +kernel
theorem dX2_readNumber_62 : decode cX2_readNumber 62 = .ok (.dup, 1) := by decide +kernel
theorem dX2_readNumber_63 : decode cX2_readNumber 63 = .ok (.getfield 28, 3) := by decide +kernel
theorem dX2_readNumber_66 : decode cX2_readNumber 66 = .ok (.iconst 1, 1) := by decide +kernel
theorem dX2_readNumber_67 : decode cX2_readNumber 67 = .ok (.iadd, 1) := by decide +kernel
theorem dX2_readNumber_68 : decode cX2_readNumber 68 = .ok (.putfield 28, 3) := by decide +kernel
theorem dX2_readNumber_71 : decode cX2_readNumber 71 = .ok (.aload_n 0, 1) := by decide +kernel
theorem dX2_readNumber_72 : decode cX2_readNumber 72 = .ok (.getfield 18, 3) := by decide +kernel
theorem dX2_readNumber_75 : decode cX2_readNumber 75 = .ok (.aload_n 0, 1) := by decide +kernel
theorem dX2_readNumber_76 : decode cX2_readNumber 76 = .ok (.getfield 25, 3) := by decide +kernel
theorem dX2_readNumber_79 : decode cX2_readNumber 79 = .ok (.iconst 3, 1) := by decide +kernel
theorem dX2_readNumber_80 : decode cX2_readNumber 80 = .ok (.imul, 1) := by decide +kernel
theorem dX2_readNumber_81 : decode cX2_readNumber 81 = .ok (.iload_n 1, 1) := by decide +kernel
theorem dX2_readNumber_82 : decode cX2_readNumber 82 = .ok (.iadd, 1) := by decide +kernel
theorem dX2_readNumber_83 : decode cX2_readNumber 83 = .ok (.iload_n 2, 1) := by decide +kernel
theorem dX2_readNumber_84 : decode cX2_readNumber 84 = .ok (.iastore, 1) := by decide +kernel
theorem dX2_readNumber_85 : decode cX2_readNumber 85 = .ok (.aload_n 0, 1) := by decide +kernel
theorem dX2_readNumber_86 : decode cX2_readNumber 86 = .ok (.invokevirtual 46, 3) := by decide +kernel
theorem dX2_readNumber_89 : decode cX2_readNumber 89 = .ok (.ifCond .ne 7, 3) := by decide +kernel
theorem dX2_readNumber_92 : decode cX2_readNumber 92 = .ok (.iconst 1, 1) := by decide +kernel
theorem dX2_readNumber_93 : decode cX2_readNumber 93 = .ok (.goto 4, 3) := by decide +kernel
theorem dX2_readNumber_96 : decode cX2_readNumber 96 = .ok (.iconst 0, 1) := by decide +kernel
theorem dX2_readNumber_97 : decode cX2_readNumber 97 = .ok (.ireturn, 1) := by decide +kernel
theorem dX2_isFigureAt_0 : decode cX2_isFigureAt 0 = .ok (.aload_n 0, 1) := by decide +kernel
theorem dX2_isFigureAt_1 : decode cX2_isFigureAt 1 = .ok (.getfield 28, 3) := by decide +kernel
theorem dX2_isFigureAt_4 : decode cX2_isFigureAt 4 = .ok (.aload_n 0, 1) := by decide +kernel
theorem dX2_isFigureAt_5 : decode cX2_isFigureAt 5 = .ok (.getfield 21, 3) := by decide +kernel
theorem dX2_isFigureAt_8 : decode cX2_isFigureAt 8 = .ok (.if_icmp .ge 35, 3) := by decide +kernel
theorem dX2_isFigureAt_11 : decode cX2_isFigureAt 11 = .ok (.aload_n 0, 1) := by decide +kernel
theorem dX2_isFigureAt_12 : decode cX2_isFigureAt 12 = .ok (.getfield 9, 3) := by decide +kernel
theorem dX2_isFigureAt_15 : decode cX2_isFigureAt 15 = .ok (.aload_n 0, 1) := by decide +kernel
theorem dX2_isFigureAt_16 : decode cX2_isFigureAt 16 = .ok (.getfield 28, 3) := by decide +kernel
theorem dX2_isFigureAt_19 : decode cX2_isFigureAt 19 = .ok (.iaload, 1) := by decide +kernel
theorem dX2_isFigureAt_20 : decode cX2_isFigureAt 20 = .ok (.bipush 48, 2) := by decide +kernel
theorem dX2_isFigureAt_22 : decode cX2_isFigureAt 22 = .ok (.if_icmp .lt 21, 3) := by decide +kernel
theorem dX2_isFigureAt_25 : decode cX2_isFigureAt 25 = .ok (.aload_n 0, 1) := by decide +kernel
theorem dX2_isFigureAt_26 : decode cX2_isFigureAt 26 = .ok (.getfield 9, 3) := by decide +kernel
theorem dX2_isFigureAt_29 : decode cX2_isFigureAt 29 = .ok (.aload_n 0, 1) := by decide +kernel
theorem dX2_isFigureAt_30 : decode cX2_isFigureAt 30 = .ok (.getfield 28, 3) := by decide +kernel
theorem dX2_isFigureAt_33 : decode cX2_isFigureAt 33 = .ok (.iaload, 1) := by decide +kernel
theorem dX2_isFigureAt_34 : decode cX2_isFigureAt 34 = .ok (.bipush 57, 2) := by decide +kernel
theorem dX2_isFigureAt_36 : decode cX2_isFigureAt 36 = .ok (.if_icmp .gt 7, 3) := by decide +kernel
theorem dX2_isFigureAt_39 : decode cX2_isFigureAt 39 = .ok (.iconst 1, 1) := by decide +kernel
theorem dX2_isFigureAt_40 : decode cX2_isFigureAt 40 = .ok (.goto 4, 3) := by decide +kernel
theorem dX2_isFigureAt_43 : decode cX2_isFigureAt 43 = .ok (.iconst 0, 1) := by decide +kernel
theorem dX2_isFigureAt_44 : decode cX2_isFigureAt 44 = .ok (.ireturn, 1) := by decide +kernel
theorem dX2_skipBlanks_0 : decode cX2_skipBlanks 0 = .ok (.aload_n 0, 1) := by decide +kernel
theorem dX2_skipBlanks_1 : decode cX2_skipBlanks 1 = .ok (.getfield 28, 3) := by decide +kernel
theorem dX2_skipBlanks_4 : decode cX2_skipBlanks 4 = .ok (.aload_n 0, 1) := by decide +kernel
theorem dX2_skipBlanks_5 : decode cX2_skipBlanks 5 = .ok (.getfield 21, 3) := by decide +kernel
theorem dX2_skipBlanks_8 : decode cX2_skipBlanks 8 = .ok (.if_icmp .ge 30, 3) := by decide +kernel
theorem dX2_skipBlanks_11 : decode cX2_skipBlanks 11 = .ok (.aload_n 0, 1) := by decide +kernel
theorem dX2_skipBlanks_12 : decode cX2_skipBlanks 12 = .ok (.getfield 9, 3) := by decide +kernel
theorem dX2_skipBlanks_15 : decode cX2_skipBlanks 15 = .ok (.aload_n 0, 1) := by decide +kernel
theorem dX2_skipBlanks_16 : decode cX2_skipBlanks 16 = .ok (.getfield 28, 3) := by decide +kernel
theorem dX2_skipBlanks_19 : decode cX2_skipBlanks 19 = .ok (.iaload, 1) := by decide +kernel
theorem dX2_skipBlanks_20 : decode cX2_skipBlanks 20 = .ok (.bipush 32, 2) := by decide +kernel
