theorem dX5_perform_131 : decode cX5_perform 131 = .ok (.iconst 2, 1) := by decide +kernel
theorem dX5_perform_132 : decode cX5_perform 132 = .ok (.invokevirtual 73, 3) := by decide +kernel
theorem dX5_perform_135 : decode cX5_perform 135 = .ok (.invokevirtual 87, 3) := by decide +kernel
theorem dX5_perform_138 : decode cX5_perform 138 = .ok (.ireturn, 1) := by decide +kernel
theorem dX5_perform_139 : decode cX5_perform 139 = .ok (.aload_n 0, 1) := by decide +kernel
theorem dX5_perform_140 : decode cX5_perform 140 = .ok (.iload_n 3, 1) := by decide +kernel
theorem dX5_perform_141 : decode cX5_perform 141 = .ok (.invokevirtual 91, 3) := by decide +kernel
theorem dX5_perform_144 : decode cX5_perform 144 = .ok (.ireturn, 1) := by decide +kernel
theorem dX5_perform_145 : decode cX5_perform 145 = .ok (.aload_n 0, 1) := by decide +kernel
theorem dX5_perform_146 : decode cX5_perform 146 = .ok (.iload_n 3, 1) := by decide +kernel
theorem dX5_perform_147 : decode cX5_perform 147 = .ok (.invokevirtual 94, 3) := by decide +kernel
theorem dX5_perform_150 : decode cX5_perform 150 = .ok (.ireturn, 1) := by decide +kernel
theorem dX5_perform_151 : decode cX5_perform 151 = .ok (.aload_n 0, 1) := by decide +kernel
theorem dX5_perform_152 : decode cX5_perform 152 = .ok (.iload_n 3, 1) := by decide +kernel
theorem dX5_perform_153 : decode cX5_perform 153 = .ok (.iload 4, 2) := by decide +kernel
theorem dX5_perform_155 : decode cX5_perform 155 = .ok (.invokevirtual 97, 3) := by decide +kernel
theorem dX5_perform_158 : decode cX5_perform 158 = .ok (.ireturn, 1) := by decide +kernel
theorem dX5_perform_159 : decode cX5_perform 159 = .ok (.aload_n 0, 1) := by decide +kernel
theorem dX5_perform_160 : decode cX5_perform 160 = .ok (.iload_n 3, 1) := by decide +kernel
theorem dX5_perform_161 : decode cX5_perform 161 = .ok (.iload 4, 2) := by decide +kernel
theorem dX5_perform_163 : decode cX5_perform 163 = .ok (.invokevirtual 100, 3) := by decide +kernel
theorem dX5_perform_166 : decode cX5_perform 166 = .ok (.ireturn, 1) := by decide +kernel
theorem dX5_perform_167 : decode cX5_perform 167 = .ok (.aload_n 0, 1) := by decide +kernel
theorem dX5_perform_168 : decode cX5_perform 168 = .ok (.invokevirtual 103, 3) := by decide +kernel
theorem dX5_perform_171 : decode cX5_perform 171 = .ok (.ireturn, 1) := by decide +kernel
theorem dX5_wayOf_0 : decode cX5_wayOf 0 = .ok (.iload_n 0, 1) := by decide +kernel
theorem dX5_wayOf_1 : decode cX5_wayOf 1 = .ok (.ifCond .ne 5, 3) := by decide +kernel
theorem dX5_wayOf_4 : decode cX5_wayOf 4 = .ok (.iconst 1, 1) := by decide +kernel
theorem dX5_wayOf_5 : decode cX5_wayOf 5 = .ok (.ireturn, 1) := by decide +kernel
theorem dX5_wayOf_6 : decode cX5_wayOf 6 = .ok (.iload_n 0, 1) := by decide +kernel
theorem dX5_wayOf_7 : decode cX5_wayOf 7 = .ok (.iconst 1, 1) := by decide +kernel
theorem dX5_wayOf_8 : decode cX5_wayOf 8 = .ok (.if_icmp .ne 7, 3) := by decide +kernel
theorem dX5_wayOf_11 : decode cX5_wayOf 11 = .ok (.iconst (-1), 1) := by decide +kernel
theorem dX5_wayOf_12 : decode cX5_wayOf 12 = .ok (.goto 4, 3) := by decide +kernel
theorem dX5_wayOf_15 : decode cX5_wayOf 15 = .ok (.iconst 0, 1) := by decide +kernel
theorem dX5_wayOf_16 : decode cX5_wayOf 16 = .ok (.ireturn, 1) := by decide +kernel
set_option maxRecDepth 20000 in
theorem ggX6_init_X4_init : GoodIn wsX6_init wsX4_init := goodIn_r _ [33, 34, 2, 3, 35, 36, 37, 38, 39, 40, 41, 42, 43, 97, 98, 99, 100, 101, 102, 103, 104] (by decide +kernel) (by decide +kernel)
set_option maxRecDepth 20000 in
theorem gX6_init_X4_init : GoodIn wsX6_init (wsX4_init) := ggX6_init_X4_init
set_option maxRecDepth 20000 in
theorem ggX6_init_X3_init : GoodIn wsX6_init wsX3_init := goodIn_r _ [46, 47, 2, 3, 35, 48, 49, 50, 51, 114, 115, 116, 117] (by decide +kernel) (by decide +kernel)
set_option maxRecDepth 20000 in
theorem gX6_init_X3_init : GoodIn wsX6_init (wsX3_init) := ggX6_init_X3_init
set_option maxRecDepth 20000 in
theorem ggX6_init_X1_init : GoodIn wsX6_init wsX1_init := goodIn_r _ [54, 55, 2, 3, 35, 56, 57, 58, 59, 60, 61, 62, 63, 64, 65, 66, 67, 68, 69, 70, 71, 118, 119, 120, 121, 122, 123, 124, 125, 126, 127, 128, 129] (by decide +kernel) (by decide +kernel)
set_option maxRecDepth 20000 in
theorem gX6_init_X1_init : GoodIn wsX6_init (wsX1_init) := ggX6_init_X1_init
set_option maxRecDepth 20000 in
theorem ggX6_init_X5_init : GoodIn wsX6_init wsX5_init := goodIn_r _ [74, 75, 2, 3, 76, 77, 130, 131] (by decide +kernel) (by decide +kernel)
set_option maxRecDepth 20000 in
theorem gX6_init_X5_init : GoodIn wsX6_init (wsX5_init) := ggX6_init_X5_init
set_option maxRecDepth 20000 in
theorem ggX6_init_X0_init : GoodIn wsX6_init wsX0_init := goodIn_r _ [80, 81, 2, 3, 82, 83, 5, 6, 84, 85, 86, 32, 33, 34, 35, 36, 37, 38, 39, 40, 41, 42, 43, 132, 133, 134, 97, 98, 99, 100, 101, 102, 103, 104] (by decide +kernel) (by decide +kernel)
set_option maxRecDepth 20000 in
theorem gX6_init_X0_init : GoodIn wsX6_init (wsX0_init) := ggX6_init_X0_init
set_option maxRecDepth 20000 in
theorem ggX6_init_X2_init : GoodIn wsX6_init wsX2_init := goodIn_r _ [89, 90, 2, 3, 35, 91, 92, 93, 94, 95, 96, 135, 136, 137, 138, 139, 140] (by decide +kernel) (by decide +kernel)
set_option maxRecDepth 20000 in
theorem gX6_init_X2_init : GoodIn wsX6_init (wsX2_init) := ggX6_init_X2_init
theorem dX6_init_0 : decode cX6_init 0 = .ok (.aload_n 0, 1) := by decide +kernel
theorem dX6_init_1 : decode cX6_init 1 = .ok (.invokespecial 3, 3) := by decide +kernel
theorem dX6_init_4 : decode cX6_init 4 = .ok (.aload_n 0, 1) := by decide +kernel
theorem dX6_init_5 : decode cX6_init 5 = .ok (.new 9, 3) := by decide +kernel
theorem dX6_init_8 : decode cX6_init 8 = .ok (.dup, 1) := by decide +kernel
theorem dX6_init_9 : decode cX6_init 9 = .ok (.invokespecial 11, 3) := by decide +kernel
theorem dX6_init_12 : decode cX6_init 12 = .ok (.putfield 12, 3) := by decide +kernel
theorem dX6_init_15 : decode cX6_init 15 = .ok (.aload_n 0, 1) := by decide +kernel
theorem dX6_init_16 : decode cX6_init 16 = .ok (.new 16, 3) := by decide +kernel
theorem dX6_init_19 : decode cX6_init 19 = .ok (.dup, 1) := by decide +kernel
theorem dX6_init_20 : decode cX6_init 20 = .ok (.invokespecial 18, 3) := by decide +kernel
theorem dX6_init_23 : decode cX6_init 23 = .ok (.putfield 19, 3) := by decide +kernel
theorem dX6_init_26 : decode cX6_init 26 = .ok (.aload_n 0, 1) := by decide +kernel
theorem dX6_init_27 : decode cX6_init 27 = .ok (.new 23, 3) := by decide +kernel
theorem dX6_init_30 : decode cX6_init 30 = .ok (.dup, 1) := by decide +kernel
theorem dX6_init_31 : decode cX6_init 31 = .ok (.aload_n 0, 1) := by decide +kernel
theorem dX6_init_32 : decode cX6_init 32 = .ok (.getfield 12, 3) := by decide +kernel
theorem dX6_init_35 : decode cX6_init 35 = .ok (.aload_n 0, 1) := by decide +kernel
theorem dX6_init_36 : decode cX6_init 36 = .ok (.getfield 19, 3) := by decide +kernel
theorem dX6_init_39 : decode cX6_init 39 = .ok (.invokespecial 25, 3) := by decide +kernel
theorem dX6_init_42 : decode cX6_init 42 = .ok (.putfield 28, 3) := by decide +kernel
theorem dX6_init_45 : decode cX6_init 45 = .ok (.aload_n 0, 1) := by decide +kernel
theorem dX6_init_46 : decode cX6_init 46 = .ok (.new 32, 3) := by decide +kernel
theorem dX6_init_49 : decode cX6_init 49 = .ok (.dup, 1) := by decide +kernel
theorem dX6_init_50 : decode cX6_init 50 = .ok (.aload_n 0, 1) := by decide +kernel
theorem dX6_init_51 : decode cX6_init 51 = .ok (.getfield 12, 3) := by decide +kernel
theorem dX6_init_54 : decode cX6_init 54 = .ok (.aload_n 0, 1) := by decide +kernel
theorem dX6_init_55 : decode cX6_init 55 = .ok (.getfield 28, 3) := by decide +kernel
theorem dX6_init_58 : decode cX6_init 58 = .ok (.invokespecial 34, 3) := by decide +kernel
theorem dX6_init_61 : decode cX6_init 61 = .ok (.putfield 37, 3) := by decide +kernel
theorem dX6_init_64 : decode cX6_init 64 = .ok (.aload_n 0, 1) := by decide +kernel
theorem dX6_init_65 : decode cX6_init 65 = .ok (.new 41, 3) := by decide +kernel
theorem dX6_init_68 : decode cX6_init 68 = .ok (.dup, 1) := by decide +kernel
theorem dX6_init_69 : decode cX6_init 69 = .ok (.invokespecial 43, 3) := by decide +kernel
theorem dX6_init_72 : decode cX6_init 72 = .ok (.putfield 44, 3) := by decide +kernel
theorem dX6_init_75 : decode cX6_init 75 = .ok (.aload_n 0, 1) := by decide +kernel
theorem dX6_init_76 : decode cX6_init 76 = .ok (.new 48, 3) := by decide +kernel
theorem dX6_init_79 : decode cX6_init 79 = .ok (.dup, 1) := by decide +kernel
theorem dX6_init_80 : decode cX6_init 80 = .ok (.invokespecial 50, 3) := by decide +kernel
theorem dX6_init_83 : decode cX6_init 83 = .ok (.putfield 51, 3) := by decide +kernel
theorem dX6_init_86 : decode cX6_init 86 = .ok (.aload_n 0, 1) := by decide +kernel
theorem dX6_init_87 : decode cX6_init 87 = .ok (.iconst 0, 1) := by decide +kernel
theorem dX6_init_88 : decode cX6_init 88 = .ok (.putfield 55, 3) := by decide +kernel
theorem dX6_init_91 : decode cX6_init 91 = .ok (.aload_n 0, 1) := by decide +kernel
theorem dX6_init_92 : decode cX6_init 92 = .ok (.iconst 0, 1) := by decide +kernel
theorem dX6_init_93 : decode cX6_init 93 = .ok (.putfield 59, 3) := by decide +kernel
theorem dX6_init_96 : decode cX6_init 96 = .ok (.aload_n 0, 1) := by decide +kernel
theorem dX6_init_97 : decode cX6_init 97 = .ok (.iconst 0, 1) := by decide +kernel
theorem dX6_init_98 : decode cX6_init 98 = .ok (.putfield 62, 3) := by decide +kernel
theorem dX6_init_101 : decode cX6_init 101 = .ok (.return_, 1) := by decide +kernel
set_option maxRecDepth 20000 in
theorem ggX6_strip_X0_stage : GoodIn wsX6_strip wsX0_stage := goodIn_r _ [8, 9, 10, 11, 12, 13, 14, 15, 16, 17, 18, 19, 20, 21, 22, 23, 24, 25, 26, 27, 85, 86, 87, 88, 89, 90, 91, 92, 93, 94, 95] (by decide +kernel) (by decide +kernel)
set_option maxRecDepth 20000 in
theorem gX6_strip_X0_stage : GoodIn wsX6_strip (wsV RX6 65 RX0 yX0_stage wsX0_stage) := goodIn_app (goodIn_of _ (by decide +kernel)) ggX6_strip_X0_stage
set_option maxRecDepth 20000 in
theorem ggX6_strip_X5_newStrip : GoodIn wsX6_strip wsX5_newStrip := goodIn_r _ [32, 33, 34, 35, 36, 37, 38, 39, 40, 41, 42, 43, 44, 45, 46, 47, 48, 49, 50, 51, 52, 96, 97, 88, 89, 90, 91, 92, 93, 94, 95, 98, 99, 100, 101, 102, 103, 104, 105, 106, 107, 108, 109] (by decide +kernel) (by decide +kernel)
set_option maxRecDepth 20000 in
theorem gX6_strip_X5_newStrip : GoodIn wsX6_strip (wsV RX6 69 RX5 yX5_newStrip wsX5_newStrip) := goodIn_app (goodIn_of _ (by decide +kernel)) ggX6_strip_X5_newStrip
set_option maxRecDepth 20000 in
theorem ggX6_strip_X6_settled : GoodIn wsX6_strip wsX6_settled := goodIn_r _ [56, 1, 57, 58, 39, 59, 60, 61, 62, 63, 64, 65, 66, 67, 68, 69, 7, 70, 10, 71, 72, 73, 74, 75, 76, 77, 78, 79, 80, 81, 82, 83, 84, 85, 86, 87] (by decide +kernel) (by decide +kernel)
set_option maxRecDepth 20000 in
theorem gX6_strip_X6_settled : GoodIn wsX6_strip (wsV RX6 73 RX6 yX6_settled wsX6_settled) := goodIn_app (goodIn_of _ (by decide +kernel)) ggX6_strip_X6_settled
theorem dX6_strip_0 : decode cX6_strip 0 = .ok (.aload_n 0, 1) := by decide +kernel
theorem dX6_strip_1 : decode cX6_strip 1 = .ok (.getfield 44, 3) := by decide +kernel
theorem dX6_strip_4 : decode cX6_strip 4 = .ok (.aload_n 0, 1) := by decide +kernel
theorem dX6_strip_5 : decode cX6_strip 5 = .ok (.getfield 12, 3) := by decide +kernel
theorem dX6_strip_8 : decode cX6_strip 8 = .ok (.invokevirtual 65, 3) := by decide +kernel
theorem dX6_strip_11 : decode cX6_strip 11 = .ok (.aload_n 0, 1) := by decide +kernel
theorem dX6_strip_12 : decode cX6_strip 12 = .ok (.aload_n 0, 1) := by decide +kernel
theorem dX6_strip_13 : decode cX6_strip 13 = .ok (.getfield 37, 3) := by decide +kernel
theorem dX6_strip_16 : decode cX6_strip 16 = .ok (.iload_n 1, 1) := by decide +kernel
theorem dX6_strip_17 : decode cX6_strip 17 = .ok (.invokevirtual 69, 3) := by decide +kernel
theorem dX6_strip_20 : decode cX6_strip 20 = .ok (.invokevirtual 73, 3) := by decide +kernel
theorem dX6_strip_23 : decode cX6_strip 23 = .ok (.ireturn, 1) := by decide +kernel
set_option maxRecDepth 20000 in
theorem ggX6_bend_X0_stage : GoodIn wsX6_bend wsX0_stage := goodIn_r _ [8, 9, 10, 11, 12, 13, 14, 15, 16, 17, 18, 19, 20, 21, 22, 23, 24, 25, 26, 27, 86, 87, 88, 89, 90, 91, 92, 93, 94, 95, 96] (by decide +kernel) (by decide +kernel)
set_option maxRecDepth 20000 in
theorem gX6_bend_X0_stage : GoodIn wsX6_bend (wsV RX6 65 RX0 yX0_stage wsX0_stage) := goodIn_app (goodIn_of _ (by decide +kernel)) ggX6_bend_X0_stage
set_option maxRecDepth 20000 in
theorem ggX6_bend_X5_addBend : GoodIn wsX6_bend wsX5_addBend := goodIn_r _ [32, 33, 34, 35, 36, 37, 38, 39, 40, 41, 42, 43, 44, 45, 46, 47, 48, 49, 50, 51, 52, 53, 97, 98, 89, 90, 91, 92, 93, 94, 95, 96, 99, 100, 101, 102, 103, 104, 105, 106, 107, 108, 109, 110] (by decide +kernel) (by decide +kernel)
set_option maxRecDepth 20000 in
theorem gX6_bend_X5_addBend : GoodIn wsX6_bend (wsV RX6 76 RX5 yX5_addBend wsX5_addBend) := goodIn_app (goodIn_of _ (by decide +kernel)) ggX6_bend_X5_addBend
set_option maxRecDepth 20000 in
theorem ggX6_bend_X6_settled : GoodIn wsX6_bend wsX6_settled := goodIn_r _ [57, 1, 58, 59, 40, 60, 61, 62, 63, 64, 65, 66, 67, 68, 69, 70, 7, 71, 10, 72, 73, 74, 75, 76, 77, 78, 79, 80, 81, 82, 83, 84, 85, 86, 87, 88] (by decide +kernel) (by decide +kernel)
set_option maxRecDepth 20000 in
theorem gX6_bend_X6_settled : GoodIn wsX6_bend (wsV RX6 73 RX6 yX6_settled wsX6_settled) := goodIn_app (goodIn_of _ (by decide +kernel)) ggX6_bend_X6_settled
theorem dX6_bend_0 : decode cX6_bend 0 = .ok (.aload_n 0, 1) := by decide +kernel
theorem dX6_bend_1 : decode cX6_bend 1 = .ok (.getfield 44, 3) := by decide +kernel
theorem dX6_bend_4 : decode cX6_bend 4 = .ok (.aload_n 0, 1) := by decide +kernel
theorem dX6_bend_5 : decode cX6_bend 5 = .ok (.getfield 12, 3) := by decide +kernel
theorem dX6_bend_8 : decode cX6_bend 8 = .ok (.invokevirtual 65, 3) := by decide +kernel
theorem dX6_bend_11 : decode cX6_bend 11 = .ok (.aload_n 0, 1) := by decide +kernel
theorem dX6_bend_12 : decode cX6_bend 12 = .ok (.aload_n 0, 1) := by decide +kernel
theorem dX6_bend_13 : decode cX6_bend 13 = .ok (.getfield 37, 3) := by decide +kernel
theorem dX6_bend_16 : decode cX6_bend 16 = .ok (.iload_n 1, 1) := by decide +kernel
theorem dX6_bend_17 : decode cX6_bend 17 = .ok (.iload_n 2, 1) := by decide +kernel
theorem dX6_bend_18 : decode cX6_bend 18 = .ok (.iload_n 3, 1) := by decide +kernel
theorem dX6_bend_19 : decode cX6_bend 19 = .ok (.invokevirtual 76, 3) := by decide +kernel
theorem dX6_bend_22 : decode cX6_bend 22 = .ok (.invokevirtual 73, 3) := by decide +kernel
theorem dX6_bend_25 : decode cX6_bend 25 = .ok (.ireturn, 1) := by decide +kernel
set_option maxRecDepth 20000 in
theorem ggX6_press_X0_stage : GoodIn wsX6_press wsX0_stage := goodIn_r _ [8, 9, 10, 11, 12, 13, 14, 15, 16, 17, 18, 19, 20, 21, 22, 23, 24, 25, 26, 27, 84, 85, 86, 87, 88, 89, 90, 91, 92, 93, 94] (by decide +kernel) (by decide +kernel)
set_option maxRecDepth 20000 in
theorem gX6_press_X0_stage : GoodIn wsX6_press (wsV RX6 65 RX0 yX0_stage wsX0_stage) := goodIn_app (goodIn_of _ (by decide +kernel)) ggX6_press_X0_stage
set_option maxRecDepth 20000 in
theorem ggX6_press_X5_setPress : GoodIn wsX6_press wsX5_setPress := goodIn_r _ [32, 33, 34, 35, 36, 37, 38, 39, 40, 41, 42, 43, 44, 45, 46, 47, 48, 49, 50, 51, 95, 96, 87, 88, 89, 90, 91, 92, 93, 94, 97, 98, 99, 100, 101, 102, 103, 104, 105, 106, 107, 108] (by decide +kernel) (by decide +kernel)
set_option maxRecDepth 20000 in
theorem gX6_press_X5_setPress : GoodIn wsX6_press (wsV RX6 80 RX5 yX5_setPress wsX5_setPress) := goodIn_app (goodIn_of _ (by decide +kernel)) ggX6_press_X5_setPress
set_option maxRecDepth 20000 in
theorem ggX6_press_X6_settled : GoodIn wsX6_press wsX6_settled := goodIn_r _ [55, 1, 56, 57, 38, 58, 59, 60, 61, 62, 63, 64, 65, 66, 67, 68, 7, 69, 10, 70, 71, 72, 73, 74, 75, 76, 77, 78, 79, 80, 81, 82, 83, 84, 85, 86] (by decide +kernel) (by decide +kernel)
set_option maxRecDepth 20000 in
theorem gX6_press_X6_settled : GoodIn wsX6_press (wsV RX6 73 RX6 yX6_settled wsX6_settled) := goodIn_app (goodIn_of _ (by decide +kernel)) ggX6_press_X6_settled
theorem dX6_press_0 : decode cX6_press 0 = .ok (.aload_n 0, 1) := by decide +kernel
theorem dX6_press_1 : decode cX6_press 1 = .ok (.getfield 44, 3) := by decide +kernel
theorem dX6_press_4 : decode cX6_press 4 = .ok (.aload_n 0, 1) := by decide +kernel
theorem dX6_press_5 : decode cX6_press 5 = .ok (.getfield 12, 3) := by decide +kernel
theorem dX6_press_8 : decode cX6_press 8 = .ok (.invokevirtual 65, 3) := by decide +kernel
theorem dX6_press_11 : decode cX6_press 11 = .ok (.aload_n 0, 1) := by decide +kernel
theorem dX6_press_12 : decode cX6_press 12 = .ok (.aload_n 0, 1) := by decide +kernel
theorem dX6_press_13 : decode cX6_press 13 = .ok (.getfield 37, 3) := by decide +kernel
theorem dX6_press_16 : decode cX6_press 16 = .ok (.iload_n 1, 1) := by decide +kernel
theorem dX6_press_17 : decode cX6_press 17 = .ok (.iload_n 2, 1) := by decide +kernel
theorem dX6_press_18 : decode cX6_press 18 = .ok (.invokevirtual 80, 3) := by decide +kernel
theorem dX6_press_21 : decode cX6_press 21 = .ok (.invokevirtual 73, 3) := by decide +kernel
theorem dX6_press_24 : decode cX6_press 24 = .ok (.ireturn, 1) := by decide +kernel
set_option maxRecDepth 20000 in
theorem ggX6_takes_X0_stage : GoodIn wsX6_takes wsX0_stage := goodIn_r _ [8, 9, 10, 11, 12, 13, 14, 15, 16, 17, 18, 19, 20, 21, 22, 23, 24, 25, 26, 27, 70, 71, 72, 73, 74, 75, 76, 77, 78, 79, 80] (by decide +kernel) (by decide +kernel)
set_option maxRecDepth 20000 in
theorem gX6_takes_X0_stage : GoodIn wsX6_takes (wsV RX6 65 RX0 yX0_stage wsX0_stage) := goodIn_app (goodIn_of _ (by decide +kernel)) ggX6_takes_X0_stage
set_option maxRecDepth 20000 in
theorem ggX6_takes_X5_setTaken : GoodIn wsX6_takes wsX5_setTaken := goodIn_r _ [32, 33, 34, 35, 36, 37, 81, 82, 73, 74, 75, 76, 77, 78, 79, 80] (by decide +kernel) (by decide +kernel)
set_option maxRecDepth 20000 in
theorem gX6_takes_X5_setTaken : GoodIn wsX6_takes (wsV RX6 84 RX5 yX5_setTaken wsX5_setTaken) := goodIn_app (goodIn_of _ (by decide +kernel)) ggX6_takes_X5_setTaken
set_option maxRecDepth 20000 in
theorem ggX6_takes_X6_settled : GoodIn wsX6_takes wsX6_settled := goodIn_r _ [41, 1, 42, 43, 36, 44, 45, 46, 47, 48, 49, 50, 51, 52, 53, 54, 7, 55, 10, 56, 57, 58, 59, 60, 61, 62, 63, 64, 65, 66, 67, 68, 69, 70, 71, 72] (by decide +kernel) (by decide +kernel)
set_option maxRecDepth 20000 in
theorem gX6_takes_X6_settled : GoodIn wsX6_takes (wsV RX6 73 RX6 yX6_settled wsX6_settled) := goodIn_app (goodIn_of _ (by decide +kernel)) ggX6_takes_X6_settled
theorem dX6_takes_0 : decode cX6_takes 0 = .ok (.aload_n 0, 1) := by decide +kernel
theorem dX6_takes_1 : decode cX6_takes 1 = .ok (.getfield 44, 3) := by decide +kernel
theorem dX6_takes_4 : decode cX6_takes 4 = .ok (.aload_n 0, 1) := by decide +kernel
theorem dX6_takes_5 : decode cX6_takes 5 = .ok (.getfield 12, 3) := by decide +kernel
theorem dX6_takes_8 : decode cX6_takes 8 = .ok (.invokevirtual 65, 3) := by decide +kernel
theorem dX6_takes_11 : decode cX6_takes 11 = .ok (.aload_n 0, 1) := by decide +kernel
theorem dX6_takes_12 : decode cX6_takes 12 = .ok (.aload_n 0, 1) := by decide +kernel
theorem dX6_takes_13 : decode cX6_takes 13 = .ok (.getfield 37, 3) := by decide +kernel
theorem dX6_takes_16 : decode cX6_takes 16 = .ok (.iload_n 1, 1) := by decide +kernel
theorem dX6_takes_17 : decode cX6_takes 17 = .ok (.iload_n 2, 1) := by decide +kernel
theorem dX6_takes_18 : decode cX6_takes 18 = .ok (.invokevirtual 84, 3) := by decide +kernel
theorem dX6_takes_21 : decode cX6_takes 21 = .ok (.invokevirtual 73, 3) := by decide +kernel
theorem dX6_takes_24 : decode cX6_takes 24 = .ok (.ireturn, 1) := by decide +kernel
set_option maxRecDepth 20000 in
theorem ggX6_makes_X0_stage : GoodIn wsX6_makes wsX0_stage := goodIn_r _ [8, 9, 10, 11, 12, 13, 14, 15, 16, 17, 18, 19, 20, 21, 22, 23, 24, 25, 26, 27, 127, 128, 129, 130, 131, 132, 133, 134, 135, 136, 137] (by decide +kernel) (by decide +kernel)
set_option maxRecDepth 20000 in
theorem gX6_makes_X0_stage : GoodIn wsX6_makes (wsV RX6 65 RX0 yX0_stage wsX0_stage) := goodIn_app (goodIn_of _ (by decide +kernel)) ggX6_makes_X0_stage
set_option maxRecDepth 20000 in
theorem ggX6_makes_X5_makeBend : GoodIn wsX6_makes wsX5_makeBend := goodIn_r _ [32, 33, 34, 35, 36, 37, 38, 14, 39, 24, 40, 41, 42, 43, 25, 44, 45, 46, 47, 48, 49, 50, 51, 52, 53, 54, 55, 56, 57, 58, 59, 60, 61, 62, 63, 64, 65, 66, 67, 68, 69, 70, 71, 72, 73, 74, 75, 76, 77, 78, 79, 80, 81, 82, 83, 84, 85, 86, 87, 88, 89, 90, 91, 92, 93, 94, 95, 96, 138, 139, 130, 131, 132, 133, 134, 135, 136, 137, 140, 141, 142, 143, 144, 145, 146, 147, 148, 149, 150, 151, 152, 153, 154, 155] (by decide +kernel) (by decide +kernel)
set_option maxRecDepth 20000 in
theorem gX6_makes_X5_makeBend : GoodIn wsX6_makes (wsV RX6 87 RX5 yX5_makeBend wsX5_makeBend) := goodIn_app (goodIn_of _ (by decide +kernel)) ggX6_makes_X5_makeBend
set_option maxRecDepth 20000 in
theorem ggX6_makes_X6_settled : GoodIn wsX6_makes wsX6_settled := goodIn_r _ [101, 1, 102, 103, 100, 104, 105, 106, 107, 108, 109, 110, 111, 112, 113, 114, 7, 115, 10, 116, 117, 70, 71, 72, 118, 119, 120, 121, 122, 123, 124, 125, 126, 127, 128, 129] (by decide +kernel) (by decide +kernel)
set_option maxRecDepth 20000 in
theorem gX6_makes_X6_settled : GoodIn wsX6_makes (wsV RX6 73 RX6 yX6_settled wsX6_settled) := goodIn_app (goodIn_of _ (by decide +kernel)) ggX6_makes_X6_settled
theorem dX6_makes_0 : decode cX6_makes 0 = .ok (.aload_n 0, 1) := by decide +kernel
theorem dX6_makes_1 : decode cX6_makes 1 = .ok (.getfield 44, 3) := by decide +kernel
theorem dX6_makes_4 : decode cX6_makes 4 = .ok (.aload_n 0, 1) := by decide +kernel
theorem dX6_makes_5 : decode cX6_makes 5 = .ok (.getfield 12, 3) := by decide +kernel
theorem dX6_makes_8 : decode cX6_makes 8 = .ok (.invokevirtual 65, 3) := by decide +kernel
theorem dX6_makes_11 : decode cX6_makes 11 = .ok (.aload_n 0, 1) := by decide +kernel
theorem dX6_makes_12 : decode cX6_makes 12 = .ok (.aload_n 0, 1) := by decide +kernel
theorem dX6_makes_13 : decode cX6_makes 13 = .ok (.getfield 37, 3) := by decide +kernel
theorem dX6_makes_16 : decode cX6_makes 16 = .ok (.iload_n 1, 1) := by decide +kernel
theorem dX6_makes_17 : decode cX6_makes 17 = .ok (.invokevirtual 87, 3) := by decide +kernel
theorem dX6_makes_20 : decode cX6_makes 20 = .ok (.invokevirtual 73, 3) := by decide +kernel
theorem dX6_makes_23 : decode cX6_makes 23 = .ok (.ireturn, 1) := by decide +kernel
set_option maxRecDepth 20000 in
theorem ggX6_unmakes_X0_stage : GoodIn wsX6_unmakes wsX0_stage := goodIn_r _ [8, 9, 10, 11, 12, 13, 14, 15, 16, 17, 18, 19, 20, 21, 22, 23, 24, 25, 26, 27, 83, 84, 85, 86, 87, 88, 89, 90, 91, 92, 93] (by decide +kernel) (by decide +kernel)
set_option maxRecDepth 20000 in
theorem gX6_unmakes_X0_stage : GoodIn wsX6_unmakes (wsV RX6 65 RX0 yX0_stage wsX0_stage) := goodIn_app (goodIn_of _ (by decide +kernel)) ggX6_unmakes_X0_stage
set_option maxRecDepth 20000 in
theorem ggX6_unmakes_X5_unmakeBend : GoodIn wsX6_unmakes wsX5_unmakeBend := goodIn_r _ [32, 33, 34, 35, 36, 37, 14, 38, 24, 39, 40, 41, 42, 25, 43, 44, 45, 46, 47, 48, 49, 94, 95, 86, 87, 88, 89, 90, 91, 92, 93] (by decide +kernel) (by decide +kernel)
set_option maxRecDepth 20000 in
theorem gX6_unmakes_X5_unmakeBend : GoodIn wsX6_unmakes (wsV RX6 90 RX5 yX5_unmakeBend wsX5_unmakeBend) := goodIn_app (goodIn_of _ (by decide +kernel)) ggX6_unmakes_X5_unmakeBend
set_option maxRecDepth 20000 in
theorem ggX6_unmakes_X6_settled : GoodIn wsX6_unmakes wsX6_settled := goodIn_r _ [54, 1, 55, 56, 53, 57, 58, 59, 60, 61, 62, 63, 64, 65, 66, 67, 7, 68, 10, 69, 70, 71, 72, 73, 74, 75, 76, 77, 78, 79, 80, 81, 82, 83, 84, 85] (by decide +kernel) (by decide +kernel)
set_option maxRecDepth 20000 in
theorem gX6_unmakes_X6_settled : GoodIn wsX6_unmakes (wsV RX6 73 RX6 yX6_settled wsX6_settled) := goodIn_app (goodIn_of _ (by decide +kernel)) ggX6_unmakes_X6_settled
theorem dX6_unmakes_0 : decode cX6_unmakes 0 = .ok (.aload_n 0, 1) := by decide +kernel
theorem dX6_unmakes_1 : decode cX6_unmakes 1 = .ok (.getfield 44, 3) := by decide +kernel
theorem dX6_unmakes_4 : decode cX6_unmakes 4 = .ok (.aload_n 0, 1) := by decide +kernel
theorem dX6_unmakes_5 : decode cX6_unmakes 5 = .ok (.getfield 12, 3) := by decide +kernel
theorem dX6_unmakes_8 : decode cX6_unmakes 8 = .ok (.invokevirtual 65, 3) := by decide +kernel
theorem dX6_unmakes_11 : decode cX6_unmakes 11 = .ok (.aload_n 0, 1) := by decide +kernel
theorem dX6_unmakes_12 : decode cX6_unmakes 12 = .ok (.aload_n 0, 1) := by decide +kernel
theorem dX6_unmakes_13 : decode cX6_unmakes 13 = .ok (.getfield 37, 3) := by decide +kernel
theorem dX6_unmakes_16 : decode cX6_unmakes 16 = .ok (.iload_n 1, 1) := by decide +kernel
theorem dX6_unmakes_17 : decode cX6_unmakes 17 = .ok (.invokevirtual 90, 3) := by decide +kernel
theorem dX6_unmakes_20 : decode cX6_unmakes 20 = .ok (.invokevirtual 73, 3) := by decide +kernel
theorem dX6_unmakes_23 : decode cX6_unmakes 23 = .ok (.ireturn, 1) := by decide +kernel
set_option maxRecDepth 20000 in
theorem ggX6_again_X0_stage : GoodIn wsX6_again wsX0_stage := goodIn_r _ [8, 9, 10, 11, 12, 13, 14, 15, 16, 17, 18, 19, 20, 21, 22, 23, 24, 25, 26, 27, 75, 76, 77, 78, 79, 80, 81, 82, 83, 84, 85] (by decide +kernel) (by decide +kernel)
set_option maxRecDepth 20000 in
theorem gX6_again_X0_stage : GoodIn wsX6_again (wsV RX6 65 RX0 yX0_stage wsX0_stage) := goodIn_app (goodIn_of _ (by decide +kernel)) ggX6_again_X0_stage
set_option maxRecDepth 20000 in
theorem ggX6_again_X5_unmakeAll : GoodIn wsX6_again wsX5_unmakeAll := goodIn_r _ [32, 33, 34, 35, 36, 37, 38, 39, 40, 41, 86, 87, 78, 79, 80, 81, 82, 83, 84, 85] (by decide +kernel) (by decide +kernel)
set_option maxRecDepth 20000 in
theorem gX6_again_X5_unmakeAll : GoodIn wsX6_again (wsV RX6 93 RX5 yX5_unmakeAll wsX5_unmakeAll) := goodIn_app (goodIn_of _ (by decide +kernel)) ggX6_again_X5_unmakeAll
set_option maxRecDepth 20000 in
theorem ggX6_again_X6_settled : GoodIn wsX6_again wsX6_settled := goodIn_r _ [46, 1, 47, 48, 45, 49, 50, 51, 52, 53, 54, 55, 56, 57, 58, 59, 7, 60, 10, 61, 62, 63, 64, 65, 66, 67, 68, 69, 70, 71, 72, 73, 74, 75, 76, 77] (by decide +kernel) (by decide +kernel)
set_option maxRecDepth 20000 in
theorem gX6_again_X6_settled : GoodIn wsX6_again (wsV RX6 73 RX6 yX6_settled wsX6_settled) := goodIn_app (goodIn_of _ (by decide +kernel)) ggX6_again_X6_settled
theorem dX6_again_0 : decode cX6_again 0 = .ok (.aload_n 0, 1) := by decide +kernel
theorem dX6_again_1 : decode cX6_again 1 = .ok (.getfield 44, 3) := by decide +kernel
theorem dX6_again_4 : decode cX6_again 4 = .ok (.aload_n 0, 1) := by decide +kernel
theorem dX6_again_5 : decode cX6_again 5 = .ok (.getfield 12, 3) := by decide +kernel
theorem dX6_again_8 : decode cX6_again 8 = .ok (.invokevirtual 65, 3) := by decide +kernel
theorem dX6_again_11 : decode cX6_again 11 = .ok (.aload_n 0, 1) := by decide +kernel
theorem dX6_again_12 : decode cX6_again 12 = .ok (.aload_n 0, 1) := by decide +kernel
theorem dX6_again_13 : decode cX6_again 13 = .ok (.getfield 37, 3) := by decide +kernel
theorem dX6_again_16 : decode cX6_again 16 = .ok (.invokevirtual 93, 3) := by decide +kernel
theorem dX6_again_19 : decode cX6_again 19 = .ok (.invokevirtual 73, 3) := by decide +kernel
theorem dX6_again_22 : decode cX6_again 22 = .ok (.ireturn, 1) := by decide +kernel
set_option maxRecDepth 20000 in
theorem ggX6_of_X4_hasBend : GoodIn wsX6_of wsX4_hasBend := goodIn_r _ [9, 10, 33, 34, 35, 36, 37, 38, 39, 40] (by decide +kernel) (by decide +kernel)
set_option maxRecDepth 20000 in
theorem gX6_of_X4_hasBend : GoodIn wsX6_of (wsV RX6 97 RX4 yX4_hasBend wsX4_hasBend) := goodIn_app (goodIn_of _ (by decide +kernel)) ggX6_of_X4_hasBend
set_option maxRecDepth 20000 in
theorem ggX6_of_X6_refused : GoodIn wsX6_of wsX6_refused := goodIn_r _ [15, 16, 17, 18, 24, 25, 26, 27, 28, 29, 30, 31, 32] (by decide +kernel) (by decide +kernel)
set_option maxRecDepth 20000 in
theorem gX6_of_X6_refused : GoodIn wsX6_of (wsV RX6 101 RX6 yX6_refused wsX6_refused) := goodIn_app (goodIn_of _ (by decide +kernel)) ggX6_of_X6_refused
set_option maxRecDepth 20000 in
theorem ggX6_of_X4_isMade : GoodIn wsX6_of wsX4_isMade := goodIn_r _ [22, 23, 33, 34, 35, 36, 37, 38, 39, 40] (by decide +kernel) (by decide +kernel)
set_option maxRecDepth 20000 in
theorem gX6_of_X4_isMade : GoodIn wsX6_of (wsV RX6 114 RX4 yX4_isMade wsX4_isMade) := goodIn_app (goodIn_of _ (by decide +kernel)) ggX6_of_X4_isMade
theorem dX6_of_0 : decode cX6_of 0 = .ok (.aload_n 0, 1) := by decide +kernel
theorem dX6_of_1 : decode cX6_of 1 = .ok (.getfield 12, 3) := by decide +kernel
theorem dX6_of_4 : decode cX6_of 4 = .ok (.iload_n 1, 1) := by decide +kernel
theorem dX6_of_5 : decode cX6_of 5 = .ok (.invokevirtual 97, 3) := by decide +kernel
theorem dX6_of_8 : decode cX6_of 8 = .ok (.ifCond .ne 11, 3) := by decide +kernel
theorem dX6_of_11 : decode cX6_of 11 = .ok (.aload_n 0, 1) := by decide +kernel
theorem dX6_of_12 : decode cX6_of 12 = .ok (.sipush (-1001), 3) := by decide +kernel
theorem dX6_of_15 : decode cX6_of 15 = .ok (.invokevirtual 101, 3) := by decide +kernel
theorem dX6_of_18 : decode cX6_of 18 = .ok (.ireturn, 1) := by decide +kernel
theorem dX6_of_19 : decode cX6_of 19 = .ok (.iload_n 2, 1) := by decide +kernel
theorem dX6_of_20 : decode cX6_of 20 = .ok (.tableswitch 81 0 3 #[32, 44, 54, 64], 32) := by decide +kernel
theorem dX6_of_52 : decode cX6_of 52 = .ok (.aload_n 0, 1) := by decide +kernel
theorem dX6_of_53 : decode cX6_of 53 = .ok (.getfield 12, 3) := by decide +kernel
theorem dX6_of_56 : decode cX6_of 56 = .ok (.getfield 104, 3) := by decide +kernel
theorem dX6_of_59 : decode cX6_of 59 = .ok (.iload_n 1, 1) := by decide +kernel
theorem dX6_of_60 : decode cX6_of 60 = .ok (.iconst 1, 1) := by decide +kernel
theorem dX6_of_61 : decode cX6_of 61 = .ok (.iadd, 1) := by decide +kernel
theorem dX6_of_62 : decode cX6_of 62 = .ok (.iaload, 1) := by decide +kernel
theorem dX6_of_63 : decode cX6_of 63 = .ok (.ireturn, 1) := by decide +kernel
theorem dX6_of_64 : decode cX6_of 64 = .ok (.aload_n 0, 1) := by decide +kernel
theorem dX6_of_65 : decode cX6_of 65 = .ok (.getfield 12, 3) := by decide +kernel
theorem dX6_of_68 : decode cX6_of 68 = .ok (.getfield 108, 3) := by decide +kernel
theorem dX6_of_71 : decode cX6_of 71 = .ok (.iload_n 1, 1) := by decide +kernel
theorem dX6_of_72 : decode cX6_of 72 = .ok (.iaload, 1) := by decide +kernel
theorem dX6_of_73 : decode cX6_of 73 = .ok (.ireturn, 1) := by decide +kernel
theorem dX6_of_74 : decode cX6_of 74 = .ok (.aload_n 0, 1) := by decide +kernel
theorem dX6_of_75 : decode cX6_of 75 = .ok (.getfield 12, 3) := by decide +kernel
theorem dX6_of_78 : decode cX6_of 78 = .ok (.getfield 111, 3) := by decide +kernel
theorem dX6_of_81 : decode cX6_of 81 = .ok (.iload_n 1, 1) := by decide +kernel
theorem dX6_of_82 : decode cX6_of 82 = .ok (.iaload, 1) := by decide +kernel
theorem dX6_of_83 : decode cX6_of 83 = .ok (.ireturn, 1) := by decide +kernel
theorem dX6_of_84 : decode cX6_of 84 = .ok (.aload_n 0, 1) := by decide +kernel
theorem dX6_of_85 : decode cX6_of 85 = .ok (.getfield 12, 3) := by decide +kernel
theorem dX6_of_88 : decode cX6_of 88 = .ok (.iload_n 1, 1) := by decide +kernel
theorem dX6_of_89 : decode cX6_of 89 = .ok (.invokevirtual 114, 3) := by decide +kernel
theorem dX6_of_92 : decode cX6_of 92 = .ok (.ifCond .eq 7, 3) := by decide +kernel
theorem dX6_of_95 : decode cX6_of 95 = .ok (.iconst 1, 1) := by decide +kernel
theorem dX6_of_96 : decode cX6_of 96 = .ok (.goto 4, 3) := by decide +kernel
theorem dX6_of_99 : decode cX6_of 99 = .ok (.iconst 0, 1) := by decide +kernel
theorem dX6_of_100 : decode cX6_of 100 = .ok (.ireturn, 1) := by decide +kernel
theorem dX6_of_101 : decode cX6_of 101 = .ok (.aload_n 0, 1) := by decide +kernel
theorem dX6_of_102 : decode cX6_of 102 = .ok (.sipush (-1001), 3) := by decide +kernel
theorem dX6_of_105 : decode cX6_of 105 = .ok (.invokevirtual 101, 3) := by decide +kernel
theorem dX6_of_108 : decode cX6_of 108 = .ok (.ireturn, 1) := by decide +kernel
set_option maxRecDepth 20000 in
theorem ggX6_joint_X6_isWithin : GoodIn wsX6_joint wsX6_isWithin := goodIn_r _ [10] (by decide +kernel) (by decide +kernel)
set_option maxRecDepth 20000 in
theorem gX6_joint_X6_isWithin : GoodIn wsX6_joint (va_wsS RX6 120 yX6_isWithin wsX6_isWithin) := goodIn_app (goodIn_of _ (by decide +kernel)) ggX6_joint_X6_isWithin
set_option maxRecDepth 20000 in
theorem ggX6_joint_X6_refused : GoodIn wsX6_joint wsX6_refused := goodIn_r _ [14, 15, 16, 17, 32, 33, 34, 35, 36, 37, 38, 39, 40] (by decide +kernel) (by decide +kernel)
set_option maxRecDepth 20000 in
theorem gX6_joint_X6_refused : GoodIn wsX6_joint (wsV RX6 101 RX6 yX6_refused wsX6_refused) := goodIn_app (goodIn_of _ (by decide +kernel)) ggX6_joint_X6_refused
set_option maxRecDepth 20000 in
theorem ggX6_joint_X3_trace : GoodIn wsX6_joint wsX3_trace := goodIn_r _ [22, 23, 24, 25, 26, 27, 28, 29, 30, 31, 41, 42, 43, 44, 45, 46, 47, 48, 49, 50, 51, 52] (by decide +kernel) (by decide +kernel)
set_option maxRecDepth 20000 in
theorem gX6_joint_X3_trace : GoodIn wsX6_joint (wsV RX6 127 RX3 yX3_trace wsX3_trace) := goodIn_app (goodIn_of _ (by decide +kernel)) ggX6_joint_X3_trace
theorem dX6_joint_0 : decode cX6_joint 0 = .ok (.iload_n 1, 1) := by decide +kernel
theorem dX6_joint_1 : decode cX6_joint 1 = .ok (.iconst 0, 1) := by decide +kernel
theorem dX6_joint_2 : decode cX6_joint 2 = .ok (.aload_n 0, 1) := by decide +kernel
theorem dX6_joint_3 : decode cX6_joint 3 = .ok (.getfield 12, 3) := by decide +kernel
theorem dX6_joint_6 : decode cX6_joint 6 = .ok (.getfield 117, 3) := by decide +kernel
theorem dX6_joint_9 : decode cX6_joint 9 = .ok (.iconst 1, 1) := by decide +kernel
theorem dX6_joint_10 : decode cX6_joint 10 = .ok (.iadd, 1) := by decide +kernel
theorem dX6_joint_11 : decode cX6_joint 11 = .ok (.invokestatic 120, 3) := by decide +kernel
theorem dX6_joint_14 : decode cX6_joint 14 = .ok (.ifCond .eq 12, 3) := by decide +kernel
theorem dX6_joint_17 : decode cX6_joint 17 = .ok (.iload_n 2, 1) := by decide +kernel
theorem dX6_joint_18 : decode cX6_joint 18 = .ok (.iconst 0, 1) := by decide +kernel
theorem dX6_joint_19 : decode cX6_joint 19 = .ok (.iconst 1, 1) := by decide +kernel
theorem dX6_joint_20 : decode cX6_joint 20 = .ok (.invokestatic 120, 3) := by decide +kernel
theorem dX6_joint_23 : decode cX6_joint 23 = .ok (.ifCond .ne 11, 3) := by decide +kernel
theorem dX6_joint_26 : decode cX6_joint 26 = .ok (.aload_n 0, 1) := by decide +kernel
theorem dX6_joint_27 : decode cX6_joint 27 = .ok (.sipush (-1001), 3) := by decide +kernel
theorem dX6_joint_30 : decode cX6_joint 30 = .ok (.invokevirtual 101, 3) := by decide +kernel
theorem dX6_joint_33 : decode cX6_joint 33 = .ok (.ireturn, 1) := by decide +kernel
theorem dX6_joint_34 : decode cX6_joint 34 = .ok (.aload_n 0, 1) := by decide +kernel
theorem dX6_joint_35 : decode cX6_joint 35 = .ok (.getfield 19, 3) := by decide +kernel
theorem dX6_joint_38 : decode cX6_joint 38 = .ok (.aload_n 0, 1) := by decide +kernel
theorem dX6_joint_39 : decode cX6_joint 39 = .ok (.getfield 12, 3) := by decide +kernel
theorem dX6_joint_42 : decode cX6_joint 42 = .ok (.aload_n 0, 1) := by decide +kernel
theorem dX6_joint_43 : decode cX6_joint 43 = .ok (.getfield 12, 3) := by decide +kernel
theorem dX6_joint_46 : decode cX6_joint 46 = .ok (.getfield 124, 3) := by decide +kernel
theorem dX6_joint_49 : decode cX6_joint 49 = .ok (.invokevirtual 127, 3) := by decide +kernel
theorem dX6_joint_52 : decode cX6_joint 52 = .ok (.iload_n 2, 1) := by decide +kernel
theorem dX6_joint_53 : decode cX6_joint 53 = .ok (.ifCond .ne 15, 3) := by decide +kernel
theorem dX6_joint_56 : decode cX6_joint 56 = .ok (.aload_n 0, 1) := by decide +kernel
theorem dX6_joint_57 : decode cX6_joint 57 = .ok (.getfield 19, 3) := by decide +kernel
theorem dX6_joint_60 : decode cX6_joint 60 = .ok (.getfield 131, 3) := by decide +kernel
theorem dX6_joint_63 : decode cX6_joint 63 = .ok (.iload_n 1, 1) := by decide +kernel
theorem dX6_joint_64 : decode cX6_joint 64 = .ok (.iaload, 1) := by decide +kernel
theorem dX6_joint_65 : decode cX6_joint 65 = .ok (.goto 12, 3) := by decide +kernel
theorem dX6_joint_68 : decode cX6_joint 68 = .ok (.aload_n 0, 1) := by decide +kernel
theorem dX6_joint_69 : decode cX6_joint 69 = .ok (.getfield 19, 3) := by decide +kernel
theorem dX6_joint_72 : decode cX6_joint 72 = .ok (.getfield 134, 3) := by decide +kernel
theorem dX6_joint_75 : decode cX6_joint 75 = .ok (.iload_n 1, 1) := by decide +kernel
theorem dX6_joint_76 : decode cX6_joint 76 = .ok (.iaload, 1) := by decide +kernel
theorem dX6_joint_77 : decode cX6_joint 77 = .ok (.ireturn, 1) := by decide +kernel
set_option maxRecDepth 20000 in
theorem ggX6_box_X6_isWithin : GoodIn wsX6_box wsX6_isWithin := goodIn_r _ [9] (by decide +kernel) (by decide +kernel)
set_option maxRecDepth 20000 in
theorem gX6_box_X6_isWithin : GoodIn wsX6_box (va_wsS RX6 120 yX6_isWithin wsX6_isWithin) := goodIn_app (goodIn_of _ (by decide +kernel)) ggX6_box_X6_isWithin
set_option maxRecDepth 20000 in
theorem ggX6_box_X6_refused : GoodIn wsX6_box wsX6_refused := goodIn_r _ [13, 14, 15, 16, 46, 47, 48, 49, 50, 51, 52, 53, 54] (by decide +kernel) (by decide +kernel)
set_option maxRecDepth 20000 in
theorem gX6_box_X6_refused : GoodIn wsX6_box (wsV RX6 101 RX6 yX6_refused wsX6_refused) := goodIn_app (goodIn_of _ (by decide +kernel)) ggX6_box_X6_refused
set_option maxRecDepth 20000 in
theorem ggX6_box_X3_trace : GoodIn wsX6_box wsX3_trace := goodIn_r _ [21, 22, 23, 24, 25, 26, 27, 28, 29, 30, 55, 56, 57, 58, 59, 60, 61, 62, 63, 64, 65, 66] (by decide +kernel) (by decide +kernel)
set_option maxRecDepth 20000 in
theorem gX6_box_X3_trace : GoodIn wsX6_box (wsV RX6 127 RX3 yX3_trace wsX3_trace) := goodIn_app (goodIn_of _ (by decide +kernel)) ggX6_box_X3_trace
set_option maxRecDepth 20000 in
theorem ggX6_box_X3_least : GoodIn wsX6_box wsX3_least := goodIn_r _ [34, 23, 35, 36, 37, 38, 63, 64, 65, 66] (by decide +kernel) (by decide +kernel)
set_option maxRecDepth 20000 in
theorem gX6_box_X3_least : GoodIn wsX6_box (wsV RX6 137 RX3 yX3_least wsX3_least) := goodIn_app (goodIn_of _ (by decide +kernel)) ggX6_box_X3_least
set_option maxRecDepth 20000 in
theorem ggX6_box_X3_greatest : GoodIn wsX6_box wsX3_greatest := goodIn_r _ [42, 23, 43, 44, 37, 45, 63, 64, 65, 66] (by decide +kernel) (by decide +kernel)
set_option maxRecDepth 20000 in
theorem gX6_box_X3_greatest : GoodIn wsX6_box (wsV RX6 141 RX3 yX3_greatest wsX3_greatest) := goodIn_app (goodIn_of _ (by decide +kernel)) ggX6_box_X3_greatest
theorem dX6_box_0 : decode cX6_box 0 = .ok (.iload_n 1, 1) := by decide +kernel
theorem dX6_box_1 : decode cX6_box 1 = .ok (.iconst 0, 1) := by decide +kernel
theorem dX6_box_2 : decode cX6_box 2 = .ok (.iconst 3, 1) := by decide +kernel
theorem dX6_box_3 : decode cX6_box 3 = .ok (.invokestatic 120, 3) := by decide +kernel
theorem dX6_box_6 : decode cX6_box 6 = .ok (.ifCond .ne 11, 3) := by decide +kernel
theorem dX6_box_9 : decode cX6_box 9 = .ok (.aload_n 0, 1) := by decide +kernel
theorem dX6_box_10 : decode cX6_box 10 = .ok (.sipush (-1001), 3) := by decide +kernel
theorem dX6_box_13 : decode cX6_box 13 = .ok (.invokevirtual 101, 3) := by decide +kernel
theorem dX6_box_16 : decode cX6_box 16 = .ok (.ireturn, 1) := by decide +kernel
theorem dX6_box_17 : decode cX6_box 17 = .ok (.aload_n 0, 1) := by decide +kernel
theorem dX6_box_18 : decode cX6_box 18 = .ok (.getfield 19, 3) := by decide +kernel
theorem dX6_box_21 : decode cX6_box 21 = .ok (.aload_n 0, 1) := by decide +kernel
theorem dX6_box_22 : decode cX6_box 22 = .ok (.getfield 12, 3) := by decide +kernel
theorem dX6_box_25 : decode cX6_box 25 = .ok (.aload_n 0, 1) := by decide +kernel
theorem dX6_box_26 : decode cX6_box 26 = .ok (.getfield 12, 3) := by decide +kernel
theorem dX6_box_29 : decode cX6_box 29 = .ok (.getfield 124, 3) := by decide +kernel
theorem dX6_box_32 : decode cX6_box 32 = .ok (.invokevirtual 127, 3) := by decide +kernel
theorem dX6_box_35 : decode cX6_box 35 = .ok (.iload_n 1, 1) := by decide +kernel
theorem dX6_box_36 : decode cX6_box 36 = .ok (.iconst 2, 1) := by decide +kernel
theorem dX6_box_37 : decode cX6_box 37 = .ok (.irem, 1) := by decide +kernel
theorem dX6_box_38 : decode cX6_box 38 = .ok (.ifCond .ne 13, 3) := by decide +kernel
theorem dX6_box_41 : decode cX6_box 41 = .ok (.aload_n 0, 1) := by decide +kernel
theorem dX6_box_42 : decode cX6_box 42 = .ok (.getfield 19, 3) := by decide +kernel
theorem dX6_box_45 : decode cX6_box 45 = .ok (.getfield 131, 3) := by decide +kernel
theorem dX6_box_48 : decode cX6_box 48 = .ok (.goto 10, 3) := by decide +kernel
theorem dX6_box_51 : decode cX6_box 51 = .ok (.aload_n 0, 1) := by decide +kernel
theorem dX6_box_52 : decode cX6_box 52 = .ok (.getfield 19, 3) := by decide +kernel
theorem dX6_box_55 : decode cX6_box 55 = .ok (.getfield 134, 3) := by decide +kernel
theorem dX6_box_58 : decode cX6_box 58 = .ok (.astore_n 2, 1) := by decide +kernel
theorem dX6_box_59 : decode cX6_box 59 = .ok (.iload_n 1, 1) := by decide +kernel
theorem dX6_box_60 : decode cX6_box 60 = .ok (.iconst 2, 1) := by decide +kernel
theorem dX6_box_61 : decode cX6_box 61 = .ok (.if_icmp .ge 14, 3) := by decide +kernel
theorem dX6_box_64 : decode cX6_box 64 = .ok (.aload_n 0, 1) := by decide +kernel
theorem dX6_box_65 : decode cX6_box 65 = .ok (.getfield 19, 3) := by decide +kernel
theorem dX6_box_68 : decode cX6_box 68 = .ok (.aload_n 2, 1) := by decide +kernel
theorem dX6_box_69 : decode cX6_box 69 = .ok (.invokevirtual 137, 3) := by decide +kernel
theorem dX6_box_72 : decode cX6_box 72 = .ok (.goto 11, 3) := by decide +kernel
theorem dX6_box_75 : decode cX6_box 75 = .ok (.aload_n 0, 1) := by decide +kernel
theorem dX6_box_76 : decode cX6_box 76 = .ok (.getfield 19, 3) := by decide +kernel
theorem dX6_box_79 : decode cX6_box 79 = .ok (.aload_n 2, 1) := by decide +kernel
theorem dX6_box_80 : decode cX6_box 80 = .ok (.invokevirtual 141, 3) := by decide +kernel
theorem dX6_box_83 : decode cX6_box 83 = .ok (.ireturn, 1) := by decide +kernel
set_option maxRecDepth 20000 in
theorem ggX6_hits_X4_hasBend : GoodIn wsX6_hits wsX4_hasBend := goodIn_r _ [8, 9, 78, 79, 80, 81, 82, 83, 84, 85] (by decide +kernel) (by decide +kernel)
set_option maxRecDepth 20000 in
theorem gX6_hits_X4_hasBend : GoodIn wsX6_hits (wsV RX6 97 RX4 yX4_hasBend wsX4_hasBend) := goodIn_app (goodIn_of _ (by decide +kernel)) ggX6_hits_X4_hasBend
set_option maxRecDepth 20000 in
theorem ggX6_hits_X6_refused : GoodIn wsX6_hits wsX6_refused := goodIn_r _ [14, 15, 16, 17, 69, 70, 71, 72, 73, 74, 75, 76, 77] (by decide +kernel) (by decide +kernel)
set_option maxRecDepth 20000 in
theorem gX6_hits_X6_refused : GoodIn wsX6_hits (wsV RX6 101 RX6 yX6_refused wsX6_refused) := goodIn_app (goodIn_of _ (by decide +kernel)) ggX6_hits_X6_refused
set_option maxRecDepth 20000 in
theorem ggX6_hits_X4_isMade : GoodIn wsX6_hits wsX4_isMade := goodIn_r _ [21, 22, 78, 79, 80, 81, 82, 83, 84, 85] (by decide +kernel) (by decide +kernel)
set_option maxRecDepth 20000 in
theorem gX6_hits_X4_isMade : GoodIn wsX6_hits (wsV RX6 114 RX4 yX4_isMade wsX4_isMade) := goodIn_app (goodIn_of _ (by decide +kernel)) ggX6_hits_X4_isMade
set_option maxRecDepth 20000 in
theorem ggX6_hits_X1_hitOf : GoodIn wsX6_hits wsX1_hitOf := goodIn_r _ [27, 28, 29, 30, 31, 32, 33, 34, 35, 36, 37, 38, 39, 40, 41, 42, 43, 44, 45, 46, 47, 48, 49, 50, 51, 52, 53, 54, 55, 56, 57, 58, 59, 26, 60, 61, 62, 63, 64, 65, 66, 67, 68, 86, 87, 88, 89, 90, 91, 92, 93, 94, 95, 96, 97, 78, 79, 80, 81, 82, 83, 84, 85, 98, 99, 100, 101] (by decide +kernel) (by decide +kernel)
set_option maxRecDepth 20000 in
theorem gX6_hits_X1_hitOf : GoodIn wsX6_hits (wsV RX6 144 RX1 yX1_hitOf wsX1_hitOf) := goodIn_app (goodIn_of _ (by decide +kernel)) ggX6_hits_X1_hitOf
theorem dX6_hits_0 : decode cX6_hits 0 = .ok (.aload_n 0, 1) := by decide +kernel
theorem dX6_hits_1 : decode cX6_hits 1 = .ok (.getfield 12, 3) := by decide +kernel
theorem dX6_hits_4 : decode cX6_hits 4 = .ok (.iload_n 1, 1) := by decide +kernel
theorem dX6_hits_5 : decode cX6_hits 5 = .ok (.invokevirtual 97, 3) := by decide +kernel
theorem dX6_hits_8 : decode cX6_hits 8 = .ok (.ifCond .ne 11, 3) := by decide +kernel
theorem dX6_hits_11 : decode cX6_hits 11 = .ok (.aload_n 0, 1) := by decide +kernel
theorem dX6_hits_12 : decode cX6_hits 12 = .ok (.sipush (-1001), 3) := by decide +kernel
theorem dX6_hits_15 : decode cX6_hits 15 = .ok (.invokevirtual 101, 3) := by decide +kernel
theorem dX6_hits_18 : decode cX6_hits 18 = .ok (.ireturn, 1) := by decide +kernel
theorem dX6_hits_19 : decode cX6_hits 19 = .ok (.aload_n 0, 1) := by decide +kernel
theorem dX6_hits_20 : decode cX6_hits 20 = .ok (.getfield 12, 3) := by decide +kernel
theorem dX6_hits_23 : decode cX6_hits 23 = .ok (.iload_n 1, 1) := by decide +kernel
theorem dX6_hits_24 : decode cX6_hits 24 = .ok (.invokevirtual 114, 3) := by decide +kernel
theorem dX6_hits_27 : decode cX6_hits 27 = .ok (.ifCond .eq 11, 3) := by decide +kernel
theorem dX6_hits_30 : decode cX6_hits 30 = .ok (.aload_n 0, 1) := by decide +kernel
theorem dX6_hits_31 : decode cX6_hits 31 = .ok (.sipush (-1002), 3) := by decide +kernel
theorem dX6_hits_34 : decode cX6_hits 34 = .ok (.invokevirtual 101, 3) := by decide +kernel
theorem dX6_hits_37 : decode cX6_hits 37 = .ok (.ireturn, 1) := by decide +kernel
theorem dX6_hits_38 : decode cX6_hits 38 = .ok (.aload_n 0, 1) := by decide +kernel
theorem dX6_hits_39 : decode cX6_hits 39 = .ok (.getfield 28, 3) := by decide +kernel
theorem dX6_hits_42 : decode cX6_hits 42 = .ok (.aload_n 0, 1) := by decide +kernel
theorem dX6_hits_43 : decode cX6_hits 43 = .ok (.getfield 12, 3) := by decide +kernel
theorem dX6_hits_46 : decode cX6_hits 46 = .ok (.getfield 124, 3) := by decide +kernel
theorem dX6_hits_49 : decode cX6_hits 49 = .ok (.iload_n 1, 1) := by decide +kernel
theorem dX6_hits_50 : decode cX6_hits 50 = .ok (.invokevirtual 144, 3) := by decide +kernel
theorem dX6_hits_53 : decode cX6_hits 53 = .ok (.ireturn, 1) := by decide +kernel
set_option maxRecDepth 20000 in
theorem ggX6_free_X1_freeAt : GoodIn wsX6_free wsX1_freeAt := goodIn_r _ [8, 9, 10, 11, 12, 13, 14, 15, 16, 17, 18, 19, 20, 21, 22, 23, 24, 25, 26, 27, 28, 29, 30, 31, 32, 33, 34, 35, 36, 37, 38, 39, 40, 41, 42, 7, 43, 44, 45, 46, 47, 48, 49, 50, 51, 69, 70, 71, 72, 73, 74, 75, 76, 77, 78, 79, 80, 61, 62, 63, 64, 65, 66, 67, 68, 81, 82, 83, 84] (by decide +kernel) (by decide +kernel)
set_option maxRecDepth 20000 in
theorem gX6_free_X1_freeAt : GoodIn wsX6_free (wsV RX6 147 RX1 yX1_freeAt wsX1_freeAt) := goodIn_app (goodIn_of _ (by decide +kernel)) ggX6_free_X1_freeAt
theorem dX6_free_0 : decode cX6_free 0 = .ok (.aload_n 0, 1) := by decide +kernel
theorem dX6_free_1 : decode cX6_free 1 = .ok (.getfield 28, 3) := by decide +kernel
theorem dX6_free_4 : decode cX6_free 4 = .ok (.aload_n 0, 1) := by decide +kernel
theorem dX6_free_5 : decode cX6_free 5 = .ok (.getfield 12, 3) := by decide +kernel
theorem dX6_free_8 : decode cX6_free 8 = .ok (.getfield 124, 3) := by decide +kernel
theorem dX6_free_11 : decode cX6_free 11 = .ok (.invokevirtual 147, 3) := by decide +kernel
theorem dX6_free_14 : decode cX6_free 14 = .ok (.ireturn, 1) := by decide +kernel
set_option maxRecDepth 20000 in
theorem ggX6_orders_X1_plan : GoodIn wsX6_orders wsX1_plan := goodIn_r _ [7, 8, 9, 10, 11, 12, 13, 14, 15, 16, 6, 17, 18, 19, 20, 21, 22, 23, 24, 25, 26, 27, 28, 29, 30, 31, 32, 33, 34, 35, 36, 37, 38, 39, 40, 41, 42, 43, 44, 45, 46, 47, 48, 49, 50, 51, 52, 53, 54, 55, 56, 57, 58, 59, 60, 61, 62, 63, 64, 65, 66, 67, 68, 69, 70, 71, 72, 73, 74, 75, 76, 77, 78, 79, 80, 81, 82, 83, 84, 85, 86, 87, 88, 89, 90, 91, 92, 93, 94, 95, 96, 97, 98, 99, 100, 101, 111, 112, 113, 114, 115, 116, 117, 118, 119, 120, 121, 122, 123, 124, 125, 126, 127, 128, 129, 130, 131, 132, 133, 134] (by decide +kernel) (by decide +kernel)
set_option maxRecDepth 20000 in
theorem gX6_orders_X1_plan : GoodIn wsX6_orders (wsV RX6 150 RX1 yX1_plan wsX1_plan) := goodIn_app (goodIn_of _ (by decide +kernel)) ggX6_orders_X1_plan
theorem dX6_orders_0 : decode cX6_orders 0 = .ok (.aload_n 0, 1) := by decide +kernel
theorem dX6_orders_1 : decode cX6_orders 1 = .ok (.getfield 28, 3) := by decide +kernel
theorem dX6_orders_4 : decode cX6_orders 4 = .ok (.invokevirtual 150, 3) := by decide +kernel
theorem dX6_orders_7 : decode cX6_orders 7 = .ok (.aload_n 0, 1) := by decide +kernel
theorem dX6_orders_8 : decode cX6_orders 8 = .ok (.getfield 28, 3) := by decide +kernel
theorem dX6_orders_11 : decode cX6_orders 11 = .ok (.getfield 153, 3) := by decide +kernel
theorem dX6_orders_14 : decode cX6_orders 14 = .ok (.ireturn, 1) := by decide +kernel
set_option maxRecDepth 20000 in
theorem ggX6_order_X4_hasBend : GoodIn wsX6_order wsX4_hasBend := goodIn_r _ [9, 10, 140, 141, 142, 143, 144, 145, 146, 147] (by decide +kernel) (by decide +kernel)
set_option maxRecDepth 20000 in
theorem gX6_order_X4_hasBend : GoodIn wsX6_order (wsV RX6 97 RX4 yX4_hasBend wsX4_hasBend) := goodIn_app (goodIn_of _ (by decide +kernel)) ggX6_order_X4_hasBend
set_option maxRecDepth 20000 in
theorem ggX6_order_X6_isWithin : GoodIn wsX6_order wsX6_isWithin := goodIn_r _ [14] (by decide +kernel) (by decide +kernel)
set_option maxRecDepth 20000 in
theorem gX6_order_X6_isWithin : GoodIn wsX6_order (va_wsS RX6 120 yX6_isWithin wsX6_isWithin) := goodIn_app (goodIn_of _ (by decide +kernel)) ggX6_order_X6_isWithin
set_option maxRecDepth 20000 in
theorem ggX6_order_X6_refused : GoodIn wsX6_order wsX6_refused := goodIn_r _ [18, 19, 20, 21, 119, 120, 121, 122, 123, 124, 125, 126, 127] (by decide +kernel) (by decide +kernel)
set_option maxRecDepth 20000 in
theorem gX6_order_X6_refused : GoodIn wsX6_order (wsV RX6 101 RX6 yX6_refused wsX6_refused) := goodIn_app (goodIn_of _ (by decide +kernel)) ggX6_order_X6_refused
set_option maxRecDepth 20000 in
theorem ggX6_order_X1_plan : GoodIn wsX6_order wsX1_plan := goodIn_r _ [26, 27, 28, 29, 30, 31, 32, 33, 34, 35, 25, 36, 37, 38, 39, 40, 41, 42, 8, 43, 10, 44, 45, 46, 47, 48, 49, 50, 51, 52, 53, 54, 55, 56, 57, 58, 59, 60, 61, 62, 63, 64, 65, 66, 67, 68, 69, 70, 71, 72, 73, 74, 75, 76, 77, 78, 79, 80, 81, 82, 83, 84, 85, 86, 87, 88, 89, 90, 91, 92, 93, 94, 95, 96, 97, 98, 99, 100, 101, 102, 103, 104, 105, 106, 107, 108, 109, 110, 111, 112, 113, 114, 115, 116, 117, 118, 128, 129, 130, 131, 132, 133, 134, 135, 136, 137, 138, 139, 140, 141, 142, 143, 144, 145, 146, 147, 148, 149, 150, 151] (by decide +kernel) (by decide +kernel)
set_option maxRecDepth 20000 in
theorem gX6_order_X1_plan : GoodIn wsX6_order (wsV RX6 150 RX1 yX1_plan wsX1_plan) := goodIn_app (goodIn_of _ (by decide +kernel)) ggX6_order_X1_plan
theorem dX6_order_0 : decode cX6_order 0 = .ok (.aload_n 0, 1) := by decide +kernel
theorem dX6_order_1 : decode cX6_order 1 = .ok (.getfield 12, 3) := by decide +kernel
theorem dX6_order_4 : decode cX6_order 4 = .ok (.iload_n 1, 1) := by decide +kernel
theorem dX6_order_5 : decode cX6_order 5 = .ok (.invokevirtual 97, 3) := by decide +kernel
theorem dX6_order_8 : decode cX6_order 8 = .ok (.ifCond .eq 12, 3) := by decide +kernel
theorem dX6_order_11 : decode cX6_order 11 = .ok (.iload_n 2, 1) := by decide +kernel
theorem dX6_order_12 : decode cX6_order 12 = .ok (.iconst 0, 1) := by decide +kernel
theorem dX6_order_13 : decode cX6_order 13 = .ok (.iconst 1, 1) := by decide +kernel
theorem dX6_order_14 : decode cX6_order 14 = .ok (.invokestatic 120, 3) := by decide +kernel
theorem dX6_order_17 : decode cX6_order 17 = .ok (.ifCond .ne 11, 3) := by decide +kernel
theorem dX6_order_20 : decode cX6_order 20 = .ok (.aload_n 0, 1) := by decide +kernel
theorem dX6_order_21 : decode cX6_order 21 = .ok (.sipush (-1001), 3) := by decide +kernel
theorem dX6_order_24 : decode cX6_order 24 = .ok (.invokevirtual 101, 3) := by decide +kernel
theorem dX6_order_27 : decode cX6_order 27 = .ok (.ireturn, 1) := by decide +kernel
theorem dX6_order_28 : decode cX6_order 28 = .ok (.aload_n 0, 1) := by decide +kernel
theorem dX6_order_29 : decode cX6_order 29 = .ok (.getfield 28, 3) := by decide +kernel
theorem dX6_order_32 : decode cX6_order 32 = .ok (.invokevirtual 150, 3) := by decide +kernel
theorem dX6_order_35 : decode cX6_order 35 = .ok (.iload_n 2, 1) := by decide +kernel
theorem dX6_order_36 : decode cX6_order 36 = .ok (.ifCond .ne 15, 3) := by decide +kernel
theorem dX6_order_39 : decode cX6_order 39 = .ok (.aload_n 0, 1) := by decide +kernel
theorem dX6_order_40 : decode cX6_order 40 = .ok (.getfield 28, 3) := by decide +kernel
theorem dX6_order_43 : decode cX6_order 43 = .ok (.getfield 156, 3) := by decide +kernel
theorem dX6_order_46 : decode cX6_order 46 = .ok (.iload_n 1, 1) := by decide +kernel
theorem dX6_order_47 : decode cX6_order 47 = .ok (.iaload, 1) := by decide +kernel
theorem dX6_order_48 : decode cX6_order 48 = .ok (.goto 12, 3) := by decide +kernel
theorem dX6_order_51 : decode cX6_order 51 = .ok (.aload_n 0, 1) := by decide +kernel
theorem dX6_order_52 : decode cX6_order 52 = .ok (.getfield 28, 3) := by decide +kernel
theorem dX6_order_55 : decode cX6_order 55 = .ok (.getfield 159, 3) := by decide +kernel
theorem dX6_order_58 : decode cX6_order 58 = .ok (.iload_n 1, 1) := by decide +kernel
theorem dX6_order_59 : decode cX6_order 59 = .ok (.iaload, 1) := by decide +kernel
theorem dX6_order_60 : decode cX6_order 60 = .ok (.ireturn, 1) := by decide +kernel
set_option maxRecDepth 20000 in
theorem ggX6_changes_X6_isWithin : GoodIn wsX6_changes wsX6_isWithin := goodIn_r _ [7] (by decide +kernel) (by decide +kernel)
set_option maxRecDepth 20000 in
theorem gX6_changes_X6_isWithin : GoodIn wsX6_changes (va_wsS RX6 120 yX6_isWithin wsX6_isWithin) := goodIn_app (goodIn_of _ (by decide +kernel)) ggX6_changes_X6_isWithin
set_option maxRecDepth 20000 in
theorem ggX6_changes_X6_refused : GoodIn wsX6_changes wsX6_refused := goodIn_r _ [11, 12, 13, 14, 114, 115, 116, 117, 118, 119, 120, 121, 122] (by decide +kernel) (by decide +kernel)
set_option maxRecDepth 20000 in
theorem gX6_changes_X6_refused : GoodIn wsX6_changes (wsV RX6 101 RX6 yX6_refused wsX6_refused) := goodIn_app (goodIn_of _ (by decide +kernel)) ggX6_changes_X6_refused
set_option maxRecDepth 20000 in
theorem ggX6_changes_X1_plan : GoodIn wsX6_changes wsX1_plan := goodIn_r _ [19, 20, 21, 22, 23, 24, 25, 26, 27, 28, 18, 29, 30, 31, 32, 33, 34, 35, 36, 37, 38, 39, 40, 41, 42, 43, 44, 45, 46, 47, 48, 49, 50, 51, 52, 53, 54, 55, 56, 57, 58, 59, 60, 61, 62, 63, 64, 65, 66, 67, 68, 69, 70, 71, 72, 73, 74, 75, 76, 77, 78, 79, 80, 81, 82, 83, 84, 85, 86, 87, 88, 89, 90, 91, 92, 93, 94, 95, 96, 97, 98, 99, 100, 101, 102, 103, 104, 105, 106, 107, 108, 109, 110, 111, 112, 113, 123, 124, 125, 126, 127, 128, 129, 130, 131, 132, 133, 134, 135, 136, 137, 138, 139, 140, 141, 142, 143, 144, 145, 146] (by decide +kernel) (by decide +kernel)
set_option maxRecDepth 20000 in
theorem gX6_changes_X1_plan : GoodIn wsX6_changes (wsV RX6 150 RX1 yX1_plan wsX1_plan) := goodIn_app (goodIn_of _ (by decide +kernel)) ggX6_changes_X1_plan
theorem dX6_changes_0 : decode cX6_changes 0 = .ok (.iload_n 1, 1) := by decide +kernel
theorem dX6_changes_1 : decode cX6_changes 1 = .ok (.iconst 0, 1) := by decide +kernel
theorem dX6_changes_2 : decode cX6_changes 2 = .ok (.iconst 1, 1) := by decide +kernel
theorem dX6_changes_3 : decode cX6_changes 3 = .ok (.invokestatic 120, 3) := by decide +kernel
theorem dX6_changes_6 : decode cX6_changes 6 = .ok (.ifCond .ne 11, 3) := by decide +kernel
theorem dX6_changes_9 : decode cX6_changes 9 = .ok (.aload_n 0, 1) := by decide +kernel
theorem dX6_changes_10 : decode cX6_changes 10 = .ok (.sipush (-1001), 3) := by decide +kernel
theorem dX6_changes_13 : decode cX6_changes 13 = .ok (.invokevirtual 101, 3) := by decide +kernel
theorem dX6_changes_16 : decode cX6_changes 16 = .ok (.ireturn, 1) := by decide +kernel
theorem dX6_changes_17 : decode cX6_changes 17 = .ok (.aload_n 0, 1) := by decide +kernel
theorem dX6_changes_18 : decode cX6_changes 18 = .ok (.getfield 28, 3) := by decide +kernel
theorem dX6_changes_21 : decode cX6_changes 21 = .ok (.invokevirtual 150, 3) := by decide +kernel
theorem dX6_changes_24 : decode cX6_changes 24 = .ok (.iload_n 1, 1) := by decide +kernel
theorem dX6_changes_25 : decode cX6_changes 25 = .ok (.ifCond .ne 13, 3) := by decide +kernel
theorem dX6_changes_28 : decode cX6_changes 28 = .ok (.aload_n 0, 1) := by decide +kernel
theorem dX6_changes_29 : decode cX6_changes 29 = .ok (.getfield 28, 3) := by decide +kernel
theorem dX6_changes_32 : decode cX6_changes 32 = .ok (.getfield 162, 3) := by decide +kernel
theorem dX6_changes_35 : decode cX6_changes 35 = .ok (.goto 10, 3) := by decide +kernel
theorem dX6_changes_38 : decode cX6_changes 38 = .ok (.aload_n 0, 1) := by decide +kernel
theorem dX6_changes_39 : decode cX6_changes 39 = .ok (.getfield 28, 3) := by decide +kernel
theorem dX6_changes_42 : decode cX6_changes 42 = .ok (.getfield 165, 3) := by decide +kernel
theorem dX6_changes_45 : decode cX6_changes 45 = .ok (.ireturn, 1) := by decide +kernel
set_option maxRecDepth 20000 in
theorem ggX6_ways_X1_pathsFrom : GoodIn wsX6_ways wsX1_pathsFrom := goodIn_r _ [8, 9, 10, 11, 12, 13, 14, 15, 16, 17, 18, 19, 20, 21, 22, 23, 24, 7, 25, 26, 27, 28, 29, 30, 31, 32, 33, 34, 35, 36, 37, 38, 39, 40, 41, 42, 43, 44, 45, 46, 47, 48, 49, 50, 51, 52, 53, 54, 55, 56, 57, 58, 59, 60, 61, 62, 63, 64, 65, 66, 84, 85, 86, 87, 88, 89, 90, 91, 92, 93, 94, 95, 76, 77, 78, 79, 80, 81, 82, 83, 96, 97, 98, 99] (by decide +kernel) (by decide +kernel)
set_option maxRecDepth 20000 in
theorem gX6_ways_X1_pathsFrom : GoodIn wsX6_ways (wsV RX6 168 RX1 yX1_pathsFrom wsX1_pathsFrom) := goodIn_app (goodIn_of _ (by decide +kernel)) ggX6_ways_X1_pathsFrom
theorem dX6_ways_0 : decode cX6_ways 0 = .ok (.aload_n 0, 1) := by decide +kernel
theorem dX6_ways_1 : decode cX6_ways 1 = .ok (.getfield 28, 3) := by decide +kernel
theorem dX6_ways_4 : decode cX6_ways 4 = .ok (.aload_n 0, 1) := by decide +kernel
theorem dX6_ways_5 : decode cX6_ways 5 = .ok (.getfield 12, 3) := by decide +kernel
theorem dX6_ways_8 : decode cX6_ways 8 = .ok (.getfield 124, 3) := by decide +kernel
theorem dX6_ways_11 : decode cX6_ways 11 = .ok (.invokevirtual 168, 3) := by decide +kernel
theorem dX6_ways_14 : decode cX6_ways 14 = .ok (.ireturn, 1) := by decide +kernel
set_option maxRecDepth 20000 in
theorem ggX6_count_J6_bitCount_0f7a4 : GoodIn wsX6_count wsJ6_bitCount_0f7a4 := goodIn_r _ [10, 11, 12, 13] (by decide +kernel) (by decide +kernel)
set_option maxRecDepth 20000 in
theorem gX6_count_J6_bitCount_0f7a4 : GoodIn wsX6_count (va_wsS RX6 171 yJ6_bitCount_0f7a4 wsJ6_bitCount_0f7a4) := goodIn_app (goodIn_of _ (by decide +kernel)) ggX6_count_J6_bitCount_0f7a4
set_option maxRecDepth 20000 in
theorem ggX6_count_X4_allBends : GoodIn wsX6_count wsX4_allBends := goodIn_r _ [18, 19, 49, 50, 51, 52, 53, 54, 55, 56] (by decide +kernel) (by decide +kernel)
set_option maxRecDepth 20000 in
theorem gX6_count_X4_allBends : GoodIn wsX6_count (wsV RX6 185 RX4 yX4_allBends wsX4_allBends) := goodIn_app (goodIn_of _ (by decide +kernel)) ggX6_count_X4_allBends
set_option maxRecDepth 20000 in
theorem ggX6_count_X4_lengthLess : GoodIn wsX6_count wsX4_lengthLess := goodIn_r _ [23, 19, 24, 25, 26, 27, 28, 17, 29, 30, 49, 50, 51, 52, 53, 54, 55, 56] (by decide +kernel) (by decide +kernel)
set_option maxRecDepth 20000 in
theorem gX6_count_X4_lengthLess : GoodIn wsX6_count (wsV RX6 188 RX4 yX4_lengthLess wsX4_lengthLess) := goodIn_app (goodIn_of _ (by decide +kernel)) ggX6_count_X4_lengthLess
set_option maxRecDepth 20000 in
theorem ggX6_count_X4_allLengths : GoodIn wsX6_count wsX4_allLengths := goodIn_r _ [29, 19, 30, 49, 50, 51, 52, 53, 54, 55, 56] (by decide +kernel) (by decide +kernel)
set_option maxRecDepth 20000 in
theorem gX6_count_X4_allLengths : GoodIn wsX6_count (wsV RX6 191 RX4 yX4_allLengths wsX4_allLengths) := goodIn_app (goodIn_of _ (by decide +kernel)) ggX6_count_X4_allLengths
set_option maxRecDepth 20000 in
theorem ggX6_count_X6_refused : GoodIn wsX6_count wsX6_refused := goodIn_r _ [36, 37, 38, 39, 40, 41, 42, 43, 44, 45, 46, 47, 48] (by decide +kernel) (by decide +kernel)
set_option maxRecDepth 20000 in
theorem gX6_count_X6_refused : GoodIn wsX6_count (wsV RX6 101 RX6 yX6_refused wsX6_refused) := goodIn_app (goodIn_of _ (by decide +kernel)) ggX6_count_X6_refused
theorem dX6_count_0 : decode cX6_count 0 = .ok (.iload_n 1, 1) := by decide +kernel
theorem dX6_count_1 : decode cX6_count 1 = .ok (.tableswitch 170 0 10 #[59, 67, 78, 86, 94, 102, 112, 122, 132, 147, 162], 59) := by decide +kernel
theorem dX6_count_60 : decode cX6_count 60 = .ok (.aload_n 0, 1) := by decide +kernel
theorem dX6_count_61 : decode cX6_count 61 = .ok (.getfield 12, 3) := by decide +kernel
theorem dX6_count_64 : decode cX6_count 64 = .ok (.getfield 117, 3) := by decide +kernel
theorem dX6_count_67 : decode cX6_count 67 = .ok (.ireturn, 1) := by decide +kernel
theorem dX6_count_68 : decode cX6_count 68 = .ok (.aload_n 0, 1) := by decide +kernel
theorem dX6_count_69 : decode cX6_count 69 = .ok (.getfield 12, 3) := by decide +kernel
theorem dX6_count_72 : decode cX6_count 72 = .ok (.getfield 124, 3) := by decide +kernel
theorem dX6_count_75 : decode cX6_count 75 = .ok (.invokestatic 171, 3) := by decide +kernel
theorem dX6_count_78 : decode cX6_count 78 = .ok (.ireturn, 1) := by decide +kernel
theorem dX6_count_79 : decode cX6_count 79 = .ok (.aload_n 0, 1) := by decide +kernel
theorem dX6_count_80 : decode cX6_count 80 = .ok (.getfield 12, 3) := by decide +kernel
theorem dX6_count_83 : decode cX6_count 83 = .ok (.getfield 124, 3) := by decide +kernel
theorem dX6_count_86 : decode cX6_count 86 = .ok (.ireturn, 1) := by decide +kernel
theorem dX6_count_87 : decode cX6_count 87 = .ok (.aload_n 0, 1) := by decide +kernel
theorem dX6_count_88 : decode cX6_count 88 = .ok (.getfield 12, 3) := by decide +kernel
theorem dX6_count_91 : decode cX6_count 91 = .ok (.getfield 176, 3) := by decide +kernel
theorem dX6_count_94 : decode cX6_count 94 = .ok (.ireturn, 1) := by decide +kernel
theorem dX6_count_95 : decode cX6_count 95 = .ok (.aload_n 0, 1) := by decide +kernel
theorem dX6_count_96 : decode cX6_count 96 = .ok (.getfield 12, 3) := by decide +kernel
theorem dX6_count_99 : decode cX6_count 99 = .ok (.getfield 179, 3) := by decide +kernel
theorem dX6_count_102 : decode cX6_count 102 = .ok (.ireturn, 1) := by decide +kernel
theorem dX6_count_103 : decode cX6_count 103 = .ok (.aload_n 0, 1) := by decide +kernel
theorem dX6_count_104 : decode cX6_count 104 = .ok (.getfield 12, 3) := by decide +kernel
theorem dX6_count_107 : decode cX6_count 107 = .ok (.getfield 182, 3) := by decide +kernel
theorem dX6_count_110 : decode cX6_count 110 = .ok (.iconst 0, 1) := by decide +kernel
theorem dX6_count_111 : decode cX6_count 111 = .ok (.iaload, 1) := by decide +kernel
theorem dX6_count_112 : decode cX6_count 112 = .ok (.ireturn, 1) := by decide +kernel
theorem dX6_count_113 : decode cX6_count 113 = .ok (.aload_n 0, 1) := by decide +kernel
theorem dX6_count_114 : decode cX6_count 114 = .ok (.getfield 12, 3) := by decide +kernel
theorem dX6_count_117 : decode cX6_count 117 = .ok (.getfield 182, 3) := by decide +kernel
theorem dX6_count_120 : decode cX6_count 120 = .ok (.iconst 1, 1) := by decide +kernel
theorem dX6_count_121 : decode cX6_count 121 = .ok (.iaload, 1) := by decide +kernel
theorem dX6_count_122 : decode cX6_count 122 = .ok (.ireturn, 1) := by decide +kernel
theorem dX6_count_123 : decode cX6_count 123 = .ok (.aload_n 0, 1) := by decide +kernel
theorem dX6_count_124 : decode cX6_count 124 = .ok (.getfield 12, 3) := by decide +kernel
theorem dX6_count_127 : decode cX6_count 127 = .ok (.getfield 182, 3) := by decide +kernel
theorem dX6_count_130 : decode cX6_count 130 = .ok (.iconst 2, 1) := by decide +kernel
theorem dX6_count_131 : decode cX6_count 131 = .ok (.iaload, 1) := by decide +kernel
theorem dX6_count_132 : decode cX6_count 132 = .ok (.ireturn, 1) := by decide +kernel
theorem dX6_count_133 : decode cX6_count 133 = .ok (.aload_n 0, 1) := by decide +kernel
theorem dX6_count_134 : decode cX6_count 134 = .ok (.getfield 12, 3) := by decide +kernel
theorem dX6_count_137 : decode cX6_count 137 = .ok (.aload_n 0, 1) := by decide +kernel
theorem dX6_count_138 : decode cX6_count 138 = .ok (.getfield 12, 3) := by decide +kernel
theorem dX6_count_141 : decode cX6_count 141 = .ok (.invokevirtual 185, 3) := by decide +kernel
theorem dX6_count_144 : decode cX6_count 144 = .ok (.invokevirtual 188, 3) := by decide +kernel
theorem dX6_count_147 : decode cX6_count 147 = .ok (.ireturn, 1) := by decide +kernel
theorem dX6_count_148 : decode cX6_count 148 = .ok (.aload_n 0, 1) := by decide +kernel
theorem dX6_count_149 : decode cX6_count 149 = .ok (.getfield 12, 3) := by decide +kernel
theorem dX6_count_152 : decode cX6_count 152 = .ok (.aload_n 0, 1) := by decide +kernel
theorem dX6_count_153 : decode cX6_count 153 = .ok (.getfield 12, 3) := by decide +kernel
theorem dX6_count_156 : decode cX6_count 156 = .ok (.getfield 124, 3) := by decide +kernel
theorem dX6_count_159 : decode cX6_count 159 = .ok (.invokevirtual 188, 3) := by decide +kernel
theorem dX6_count_162 : decode cX6_count 162 = .ok (.ireturn, 1) := by decide +kernel
theorem dX6_count_163 : decode cX6_count 163 = .ok (.aload_n 0, 1) := by decide +kernel
theorem dX6_count_164 : decode cX6_count 164 = .ok (.getfield 12, 3) := by decide +kernel
theorem dX6_count_167 : decode cX6_count 167 = .ok (.invokevirtual 191, 3) := by decide +kernel
theorem dX6_count_170 : decode cX6_count 170 = .ok (.ireturn, 1) := by decide +kernel
theorem dX6_count_171 : decode cX6_count 171 = .ok (.aload_n 0, 1) := by decide +kernel
theorem dX6_count_172 : decode cX6_count 172 = .ok (.sipush (-1001), 3) := by decide +kernel
theorem dX6_count_175 : decode cX6_count 175 = .ok (.invokevirtual 101, 3) := by decide +kernel
theorem dX6_count_178 : decode cX6_count 178 = .ok (.ireturn, 1) := by decide +kernel
set_option maxRecDepth 20000 in
theorem ggX6_type_X6_isWithin : GoodIn wsX6_type wsX6_isWithin := goodIn_r _ [6] (by decide +kernel) (by decide +kernel)
set_option maxRecDepth 20000 in
theorem gX6_type_X6_isWithin : GoodIn wsX6_type (va_wsS RX6 120 yX6_isWithin wsX6_isWithin) := goodIn_app (goodIn_of _ (by decide +kernel)) ggX6_type_X6_isWithin
set_option maxRecDepth 20000 in
theorem ggX6_type_X6_refused : GoodIn wsX6_type wsX6_refused := goodIn_r _ [10, 11, 12, 13, 21, 22, 23, 24, 25, 26, 27, 28, 29] (by decide +kernel) (by decide +kernel)
set_option maxRecDepth 20000 in
theorem gX6_type_X6_refused : GoodIn wsX6_type (wsV RX6 101 RX6 yX6_refused wsX6_refused) := goodIn_app (goodIn_of _ (by decide +kernel)) ggX6_type_X6_refused
set_option maxRecDepth 20000 in
theorem ggX6_type_X2_append : GoodIn wsX6_type wsX2_append := goodIn_r _ [18, 19, 20, 30, 31, 32, 33, 34, 35] (by decide +kernel) (by decide +kernel)
set_option maxRecDepth 20000 in
theorem gX6_type_X2_append : GoodIn wsX6_type (wsV RX6 197 RX2 yX2_append wsX2_append) := goodIn_app (goodIn_of _ (by decide +kernel)) ggX6_type_X2_append
theorem dX6_type_0 : decode cX6_type 0 = .ok (.iload_n 1, 1) := by decide +kernel
theorem dX6_type_1 : decode cX6_type 1 = .ok (.iconst 0, 1) := by decide +kernel
theorem dX6_type_2 : decode cX6_type 2 = .ok (.bipush 127, 2) := by decide +kernel
theorem dX6_type_4 : decode cX6_type 4 = .ok (.invokestatic 120, 3) := by decide +kernel
theorem dX6_type_7 : decode cX6_type 7 = .ok (.ifCond .ne 11, 3) := by decide +kernel
theorem dX6_type_10 : decode cX6_type 10 = .ok (.aload_n 0, 1) := by decide +kernel
theorem dX6_type_11 : decode cX6_type 11 = .ok (.sipush (-1001), 3) := by decide +kernel
theorem dX6_type_14 : decode cX6_type 14 = .ok (.invokevirtual 101, 3) := by decide +kernel
theorem dX6_type_17 : decode cX6_type 17 = .ok (.ireturn, 1) := by decide +kernel
theorem dX6_type_18 : decode cX6_type 18 = .ok (.aload_n 0, 1) := by decide +kernel
theorem dX6_type_19 : decode cX6_type 19 = .ok (.getfield 51, 3) := by decide +kernel
theorem dX6_type_22 : decode cX6_type 22 = .ok (.getfield 194, 3) := by decide +kernel
theorem dX6_type_25 : decode cX6_type 25 = .ok (.bipush 120, 2) := by decide +kernel
theorem dX6_type_27 : decode cX6_type 27 = .ok (.if_icmp .lt 11, 3) := by decide +kernel
theorem dX6_type_30 : decode cX6_type 30 = .ok (.aload_n 0, 1) := by decide +kernel
theorem dX6_type_31 : decode cX6_type 31 = .ok (.sipush (-1003), 3) := by decide +kernel
theorem dX6_type_34 : decode cX6_type 34 = .ok (.invokevirtual 101, 3) := by decide +kernel
theorem dX6_type_37 : decode cX6_type 37 = .ok (.ireturn, 1) := by decide +kernel
theorem dX6_type_38 : decode cX6_type 38 = .ok (.aload_n 0, 1) := by decide +kernel
theorem dX6_type_39 : decode cX6_type 39 = .ok (.getfield 51, 3) := by decide +kernel
theorem dX6_type_42 : decode cX6_type 42 = .ok (.iload_n 1, 1) := by decide +kernel
theorem dX6_type_43 : decode cX6_type 43 = .ok (.invokevirtual 197, 3) := by decide +kernel
theorem dX6_type_46 : decode cX6_type 46 = .ok (.aload_n 0, 1) := by decide +kernel
theorem dX6_type_47 : decode cX6_type 47 = .ok (.getfield 51, 3) := by decide +kernel
theorem dX6_type_50 : decode cX6_type 50 = .ok (.getfield 194, 3) := by decide +kernel
theorem dX6_type_53 : decode cX6_type 53 = .ok (.ireturn, 1) := by decide +kernel
theorem dX6_clear_0 : decode cX6_clear 0 = .ok (.aload_n 0, 1) := by decide +kernel
theorem dX6_clear_1 : decode cX6_clear 1 = .ok (.getfield 51, 3) := by decide +kernel
theorem dX6_clear_4 : decode cX6_clear 4 = .ok (.getfield 194, 3) := by decide +kernel
theorem dX6_clear_7 : decode cX6_clear 7 = .ok (.istore_n 1, 1) := by decide +kernel
theorem dX6_clear_8 : decode cX6_clear 8 = .ok (.aload_n 0, 1) := by decide +kernel
theorem dX6_clear_9 : decode cX6_clear 9 = .ok (.getfield 51, 3) := by decide +kernel
theorem dX6_clear_12 : decode cX6_clear 12 = .ok (.iconst 0, 1) := by decide +kernel
theorem dX6_clear_13 : decode cX6_clear 13 = .ok (.putfield 194, 3) := by decide +kernel
theorem dX6_clear_16 : decode cX6_clear 16 = .ok (.iload_n 1, 1) := by decide +kernel
theorem dX6_clear_17 : decode cX6_clear 17 = .ok (.ireturn, 1) := by decide +kernel
set_option maxRecDepth 20000 in
theorem ggX6_does_X2_read : GoodIn wsX6_does wsX2_read := goodIn_r _ [11, 12, 13, 14, 15, 16, 17, 10, 18, 19, 20, 21, 22, 23, 24, 25, 26, 27, 28, 29, 30, 31, 32, 33, 34, 35, 36, 209, 210, 211, 212, 213, 214] (by decide +kernel) (by decide +kernel)
set_option maxRecDepth 20000 in
theorem gX6_does_X2_read : GoodIn wsX6_does (wsV RX6 201 RX2 yX2_read wsX2_read) := goodIn_app (goodIn_of _ (by decide +kernel)) ggX6_does_X2_read
set_option maxRecDepth 20000 in
theorem ggX6_does_X0_stage : GoodIn wsX6_does wsX0_stage := goodIn_r _ [41, 42, 43, 44, 45, 46, 47, 48, 49, 50, 51, 52, 53, 54, 55, 56, 57, 58, 59, 60, 215, 216, 217, 218, 219, 220, 221, 222, 223, 224, 225] (by decide +kernel) (by decide +kernel)
set_option maxRecDepth 20000 in
theorem gX6_does_X0_stage : GoodIn wsX6_does (wsV RX6 65 RX0 yX0_stage wsX0_stage) := goodIn_app (goodIn_of _ (by decide +kernel)) ggX6_does_X0_stage
set_option maxRecDepth 20000 in
theorem ggX6_does_X5_perform : GoodIn wsX6_does wsX5_perform := goodIn_r _ [65, 66, 67, 68, 69, 10, 70, 32, 71, 72, 73, 64, 74, 75, 76, 77, 78, 79, 80, 81, 82, 83, 84, 85, 86, 87, 88, 89, 90, 91, 92, 93, 94, 95, 96, 97, 98, 99, 100, 101, 102, 103, 104, 105, 106, 107, 108, 109, 110, 47, 111, 57, 112, 113, 114, 115, 58, 116, 117, 118, 119, 120, 121, 122, 123, 124, 125, 126, 127, 128, 129, 130, 131, 132, 133, 134, 135, 136, 137, 138, 139, 140, 141, 142, 143, 144, 145, 146, 147, 148, 149, 150, 151, 152, 153, 154, 155, 156, 157, 158, 159, 160, 161, 162, 163, 164, 165, 166, 167, 168, 169, 170, 171, 172, 173, 174, 175, 176, 177, 178, 179, 180, 181, 182, 183, 184, 185, 209, 210, 211, 212, 213, 214, 226, 227, 218, 219, 220, 221, 222, 223, 224, 225, 228, 229, 230, 231, 232, 233, 234, 235, 236, 237, 238, 239, 240, 241, 242, 243] (by decide +kernel) (by decide +kernel)
set_option maxRecDepth 20000 in
theorem gX6_does_X5_perform : GoodIn wsX6_does (wsV RX6 205 RX5 yX5_perform wsX5_perform) := goodIn_app (goodIn_of _ (by decide +kernel)) ggX6_does_X5_perform
set_option maxRecDepth 20000 in
theorem ggX6_does_X6_isRefusal : GoodIn wsX6_does wsX6_isRefusal := goodIn_r _ [188] (by decide +kernel) (by decide +kernel)
set_option maxRecDepth 20000 in
theorem gX6_does_X6_isRefusal : GoodIn wsX6_does (va_wsS RX6 209 yX6_isRefusal wsX6_isRefusal) := goodIn_app (goodIn_of _ (by decide +kernel)) ggX6_does_X6_isRefusal
set_option maxRecDepth 20000 in
theorem ggX6_does_X0_restoreStaged : GoodIn wsX6_does wsX0_restoreStaged := goodIn_r _ [192, 42, 43, 44, 45, 46, 47, 48, 49, 50, 51, 52, 53, 54, 55, 56, 57, 58, 59, 60, 215, 216, 217, 218, 219, 220, 221, 222, 223, 224, 225] (by decide +kernel) (by decide +kernel)
set_option maxRecDepth 20000 in
theorem gX6_does_X0_restoreStaged : GoodIn wsX6_does (wsV RX6 212 RX0 yX0_restoreStaged wsX0_restoreStaged) := goodIn_app (goodIn_of _ (by decide +kernel)) ggX6_does_X0_restoreStaged
set_option maxRecDepth 20000 in
theorem ggX6_does_X1_forget : GoodIn wsX6_does wsX1_forget := goodIn_r _ [87, 88, 89, 90, 91, 92, 93, 94, 228, 229, 230, 231, 232, 233, 234, 235, 236, 237, 238, 239] (by decide +kernel) (by decide +kernel)
set_option maxRecDepth 20000 in
theorem gX6_does_X1_forget : GoodIn wsX6_does (wsV RX6 215 RX1 yX1_forget wsX1_forget) := goodIn_app (goodIn_of _ (by decide +kernel)) ggX6_does_X1_forget
set_option maxRecDepth 20000 in
theorem ggX6_does_X0_keepStaged : GoodIn wsX6_does wsX0_keepStaged := goodIn_r _ [197, 43, 198, 199, 141, 142, 143, 215, 216, 217] (by decide +kernel) (by decide +kernel)
set_option maxRecDepth 20000 in
theorem gX6_does_X0_keepStaged : GoodIn wsX6_does (wsV RX6 218 RX0 yX0_keepStaged wsX0_keepStaged) := goodIn_app (goodIn_of _ (by decide +kernel)) ggX6_does_X0_keepStaged
theorem dX6_does_0 : decode cX6_does 0 = .ok (.aload_n 0, 1) := by decide +kernel
theorem dX6_does_1 : decode cX6_does 1 = .ok (.getfield 51, 3) := by decide +kernel
theorem dX6_does_4 : decode cX6_does 4 = .ok (.invokevirtual 201, 3) := by decide +kernel
theorem dX6_does_7 : decode cX6_does 7 = .ok (.istore_n 1, 1) := by decide +kernel
theorem dX6_does_8 : decode cX6_does 8 = .ok (.iload_n 1, 1) := by decide +kernel
theorem dX6_does_9 : decode cX6_does 9 = .ok (.iconst (-1), 1) := by decide +kernel
theorem dX6_does_10 : decode cX6_does 10 = .ok (.if_icmp .eq 8, 3) := by decide +kernel
theorem dX6_does_13 : decode cX6_does 13 = .ok (.bipush (-10), 2) := by decide +kernel
theorem dX6_does_15 : decode cX6_does 15 = .ok (.iload_n 1, 1) := by decide +kernel
theorem dX6_does_16 : decode cX6_does 16 = .ok (.isub, 1) := by decide +kernel
theorem dX6_does_17 : decode cX6_does 17 = .ok (.ireturn, 1) := by decide +kernel
theorem dX6_does_18 : decode cX6_does 18 = .ok (.aload_n 0, 1) := by decide +kernel
theorem dX6_does_19 : decode cX6_does 19 = .ok (.getfield 44, 3) := by decide +kernel
theorem dX6_does_22 : decode cX6_does 22 = .ok (.aload_n 0, 1) := by decide +kernel
theorem dX6_does_23 : decode cX6_does 23 = .ok (.getfield 12, 3) := by decide +kernel
theorem dX6_does_26 : decode cX6_does 26 = .ok (.invokevirtual 65, 3) := by decide +kernel
theorem dX6_does_29 : decode cX6_does 29 = .ok (.iconst 0, 1) := by decide +kernel
theorem dX6_does_30 : decode cX6_does 30 = .ok (.istore_n 2, 1) := by decide +kernel
theorem dX6_does_31 : decode cX6_does 31 = .ok (.iload_n 2, 1) := by decide +kernel
theorem dX6_does_32 : decode cX6_does 32 = .ok (.aload_n 0, 1) := by decide +kernel
theorem dX6_does_33 : decode cX6_does 33 = .ok (.getfield 51, 3) := by decide +kernel
theorem dX6_does_36 : decode cX6_does 36 = .ok (.getfield 204, 3) := by decide +kernel
theorem dX6_does_39 : decode cX6_does 39 = .ok (.if_icmp .ge 51, 3) := by decide +kernel
theorem dX6_does_42 : decode cX6_does 42 = .ok (.aload_n 0, 1) := by decide +kernel
theorem dX6_does_43 : decode cX6_does 43 = .ok (.getfield 37, 3) := by decide +kernel
theorem dX6_does_46 : decode cX6_does 46 = .ok (.aload_n 0, 1) := by decide +kernel
theorem dX6_does_47 : decode cX6_does 47 = .ok (.getfield 51, 3) := by decide +kernel
theorem dX6_does_50 : decode cX6_does 50 = .ok (.iload_n 2, 1) := by decide +kernel
theorem dX6_does_51 : decode cX6_does 51 = .ok (.invokevirtual 205, 3) := by decide +kernel
theorem dX6_does_54 : decode cX6_does 54 = .ok (.invokestatic 209, 3) := by decide +kernel
theorem dX6_does_57 : decode cX6_does 57 = .ok (.ifCond .eq 27, 3) := by decide +kernel
theorem dX6_does_60 : decode cX6_does 60 = .ok (.aload_n 0, 1) := by decide +kernel
theorem dX6_does_61 : decode cX6_does 61 = .ok (.getfield 44, 3) := by decide +kernel
theorem dX6_does_64 : decode cX6_does 64 = .ok (.aload_n 0, 1) := by decide +kernel
theorem dX6_does_65 : decode cX6_does 65 = .ok (.getfield 12, 3) := by decide +kernel
theorem dX6_does_68 : decode cX6_does 68 = .ok (.invokevirtual 212, 3) := by decide +kernel
theorem dX6_does_71 : decode cX6_does 71 = .ok (.aload_n 0, 1) := by decide +kernel
theorem dX6_does_72 : decode cX6_does 72 = .ok (.getfield 28, 3) := by decide +kernel
theorem dX6_does_75 : decode cX6_does 75 = .ok (.invokevirtual 215, 3) := by decide +kernel
theorem dX6_does_78 : decode cX6_does 78 = .ok (.sipush (-2000), 3) := by decide +kernel
theorem dX6_does_81 : decode cX6_does 81 = .ok (.iload_n 2, 1) := by decide +kernel
theorem dX6_does_82 : decode cX6_does 82 = .ok (.isub, 1) := by decide +kernel
theorem dX6_does_83 : decode cX6_does 83 = .ok (.ireturn, 1) := by decide +kernel
theorem dX6_does_84 : decode cX6_does 84 = .ok (.iinc 2 1, 3) := by decide +kernel
theorem dX6_does_87 : decode cX6_does 87 = .ok (.goto (-56), 3) := by decide +kernel
theorem dX6_does_90 : decode cX6_does 90 = .ok (.aload_n 0, 1) := by decide +kernel
theorem dX6_does_91 : decode cX6_does 91 = .ok (.getfield 44, 3) := by decide +kernel
theorem dX6_does_94 : decode cX6_does 94 = .ok (.invokevirtual 218, 3) := by decide +kernel
theorem dX6_does_97 : decode cX6_does 97 = .ok (.aload_n 0, 1) := by decide +kernel
theorem dX6_does_98 : decode cX6_does 98 = .ok (.getfield 51, 3) := by decide +kernel
theorem dX6_does_101 : decode cX6_does 101 = .ok (.getfield 204, 3) := by decide +kernel
theorem dX6_does_104 : decode cX6_does 104 = .ok (.ireturn, 1) := by decide +kernel
set_option maxRecDepth 20000 in
theorem ggX6_back_X6_refused : GoodIn wsX6_back wsX6_refused := goodIn_r _ [9, 10, 11, 12, 50, 51, 52, 53, 54, 55, 56, 57, 58] (by decide +kernel) (by decide +kernel)
set_option maxRecDepth 20000 in
theorem gX6_back_X6_refused : GoodIn wsX6_back (wsV RX6 101 RX6 yX6_refused wsX6_refused) := goodIn_app (goodIn_of _ (by decide +kernel)) ggX6_back_X6_refused
set_option maxRecDepth 20000 in
theorem ggX6_back_X0_restoreLast : GoodIn wsX6_back wsX0_restoreLast := goodIn_r _ [17, 18, 19, 20, 21, 22, 23, 24, 25, 26, 27, 28, 29, 30, 31, 32, 33, 34, 35, 36, 37, 59, 60, 61, 62, 63, 64, 65, 66, 67, 68, 69] (by decide +kernel) (by decide +kernel)
set_option maxRecDepth 20000 in
theorem gX6_back_X0_restoreLast : GoodIn wsX6_back (wsV RX6 224 RX0 yX0_restoreLast wsX0_restoreLast) := goodIn_app (goodIn_of _ (by decide +kernel)) ggX6_back_X0_restoreLast
set_option maxRecDepth 20000 in
theorem ggX6_back_X1_forget : GoodIn wsX6_back wsX1_forget := goodIn_r _ [42, 43, 44, 45, 46, 47, 48, 49, 70, 71, 72, 73, 74, 75, 76, 77, 78, 79, 80, 81] (by decide +kernel) (by decide +kernel)
set_option maxRecDepth 20000 in
theorem gX6_back_X1_forget : GoodIn wsX6_back (wsV RX6 215 RX1 yX1_forget wsX1_forget) := goodIn_app (goodIn_of _ (by decide +kernel)) ggX6_back_X1_forget
theorem dX6_back_0 : decode cX6_back 0 = .ok (.aload_n 0, 1) := by decide +kernel
theorem dX6_back_1 : decode cX6_back 1 = .ok (.getfield 44, 3) := by decide +kernel
theorem dX6_back_4 : decode cX6_back 4 = .ok (.getfield 221, 3) := by decide +kernel
theorem dX6_back_7 : decode cX6_back 7 = .ok (.ifCond .ne 11, 3) := by decide +kernel
theorem dX6_back_10 : decode cX6_back 10 = .ok (.aload_n 0, 1) := by decide +kernel
theorem dX6_back_11 : decode cX6_back 11 = .ok (.sipush (-1002), 3) := by decide +kernel
theorem dX6_back_14 : decode cX6_back 14 = .ok (.invokevirtual 101, 3) := by decide +kernel
theorem dX6_back_17 : decode cX6_back 17 = .ok (.ireturn, 1) := by decide +kernel
theorem dX6_back_18 : decode cX6_back 18 = .ok (.aload_n 0, 1) := by decide +kernel
theorem dX6_back_19 : decode cX6_back 19 = .ok (.getfield 44, 3) := by decide +kernel
theorem dX6_back_22 : decode cX6_back 22 = .ok (.aload_n 0, 1) := by decide +kernel
theorem dX6_back_23 : decode cX6_back 23 = .ok (.getfield 12, 3) := by decide +kernel
theorem dX6_back_26 : decode cX6_back 26 = .ok (.invokevirtual 224, 3) := by decide +kernel
theorem dX6_back_29 : decode cX6_back 29 = .ok (.aload_n 0, 1) := by decide +kernel
theorem dX6_back_30 : decode cX6_back 30 = .ok (.getfield 28, 3) := by decide +kernel
theorem dX6_back_33 : decode cX6_back 33 = .ok (.invokevirtual 215, 3) := by decide +kernel
theorem dX6_back_36 : decode cX6_back 36 = .ok (.aload_n 0, 1) := by decide +kernel
theorem dX6_back_37 : decode cX6_back 37 = .ok (.getfield 44, 3) := by decide +kernel
theorem dX6_back_40 : decode cX6_back 40 = .ok (.getfield 221, 3) := by decide +kernel
theorem dX6_back_43 : decode cX6_back 43 = .ok (.ireturn, 1) := by decide +kernel
set_option maxRecDepth 20000 in
theorem ggX6_told_X6_refused : GoodIn wsX6_told wsX6_refused := goodIn_r _ [12, 1, 2, 3, 13, 14, 15, 16, 17, 18, 19, 20, 21] (by decide +kernel) (by decide +kernel)
set_option maxRecDepth 20000 in
theorem gX6_told_X6_refused : GoodIn wsX6_told (wsV RX6 101 RX6 yX6_refused wsX6_refused) := goodIn_app (goodIn_of _ (by decide +kernel)) ggX6_told_X6_refused
theorem dX6_told_0 : decode cX6_told 0 = .ok (.iload_n 1, 1) := by decide +kernel
theorem dX6_told_1 : decode cX6_told 1 = .ok (.tableswitch 66 0 4 #[35, 40, 45, 50, 58], 35) := by decide +kernel
theorem dX6_told_36 : decode cX6_told 36 = .ok (.aload_n 0, 1) := by decide +kernel
theorem dX6_told_37 : decode cX6_told 37 = .ok (.getfield 55, 3) := by decide +kernel
theorem dX6_told_40 : decode cX6_told 40 = .ok (.ireturn, 1) := by decide +kernel
theorem dX6_told_41 : decode cX6_told 41 = .ok (.aload_n 0, 1) := by decide +kernel
theorem dX6_told_42 : decode cX6_told 42 = .ok (.getfield 59, 3) := by decide +kernel
theorem dX6_told_45 : decode cX6_told 45 = .ok (.ireturn, 1) := by decide +kernel
theorem dX6_told_46 : decode cX6_told 46 = .ok (.aload_n 0, 1) := by decide +kernel
theorem dX6_told_47 : decode cX6_told 47 = .ok (.getfield 62, 3) := by decide +kernel
theorem dX6_told_50 : decode cX6_told 50 = .ok (.ireturn, 1) := by decide +kernel
theorem dX6_told_51 : decode cX6_told 51 = .ok (.aload_n 0, 1) := by decide +kernel
theorem dX6_told_52 : decode cX6_told 52 = .ok (.getfield 51, 3) := by decide +kernel
theorem dX6_told_55 : decode cX6_told 55 = .ok (.getfield 194, 3) := by decide +kernel
theorem dX6_told_58 : decode cX6_told 58 = .ok (.ireturn, 1) := by decide +kernel
theorem dX6_told_59 : decode cX6_told 59 = .ok (.aload_n 0, 1) := by decide +kernel
theorem dX6_told_60 : decode cX6_told 60 = .ok (.getfield 44, 3) := by decide +kernel
theorem dX6_told_63 : decode cX6_told 63 = .ok (.getfield 221, 3) := by decide +kernel
theorem dX6_told_66 : decode cX6_told 66 = .ok (.ireturn, 1) := by decide +kernel
theorem dX6_told_67 : decode cX6_told 67 = .ok (.aload_n 0, 1) := by decide +kernel
theorem dX6_told_68 : decode cX6_told 68 = .ok (.sipush (-1001), 3) := by decide +kernel
theorem dX6_told_71 : decode cX6_told 71 = .ok (.invokevirtual 101, 3) := by decide +kernel
theorem dX6_told_74 : decode cX6_told 74 = .ok (.ireturn, 1) := by decide +kernel
set_option maxRecDepth 20000 in
theorem ggX6_digest_X6_told : GoodIn wsX6_digest wsX6_told := goodIn_r _ [15, 16, 17, 18, 19, 20, 21, 22, 23, 24, 25, 14, 26, 193, 194, 195, 196, 197, 198, 199, 200, 201, 222, 223, 224, 225, 226, 227, 228, 229, 230] (by decide +kernel) (by decide +kernel)
set_option maxRecDepth 20000 in
theorem gX6_digest_X6_told : GoodIn wsX6_digest (wsV RX6 231 RX6 yX6_told wsX6_told) := goodIn_app (goodIn_of _ (by decide +kernel)) ggX6_digest_X6_told
set_option maxRecDepth 20000 in
theorem ggX6_digest_X6_count : GoodIn wsX6_digest wsX6_count := goodIn_r _ [30, 3, 5, 7, 31, 32, 33, 34, 35, 36, 37, 38, 39, 40, 41, 42, 43, 44, 45, 46, 47, 48, 49, 50, 51, 52, 53, 54, 55, 56, 57, 58, 23, 24, 25, 14, 26, 16, 17, 18, 193, 194, 195, 196, 197, 198, 199, 200, 201, 202, 203, 204, 205, 206, 207, 208, 209] (by decide +kernel) (by decide +kernel)
set_option maxRecDepth 20000 in
theorem gX6_digest_X6_count : GoodIn wsX6_digest (wsV RX6 234 RX6 yX6_count wsX6_count) := goodIn_app (goodIn_of _ (by decide +kernel)) ggX6_digest_X6_count
set_option maxRecDepth 20000 in
theorem ggX6_digest_X6_of : GoodIn wsX6_digest wsX6_of := goodIn_r _ [62, 3, 4, 63, 64, 65, 66, 67, 44, 68, 46, 23, 24, 25, 14, 26, 16, 17, 18, 69, 70, 71, 72, 73, 193, 194, 195, 196, 197, 198, 199, 200, 201, 202, 203, 204, 205, 206, 207, 208, 209] (by decide +kernel) (by decide +kernel)
set_option maxRecDepth 20000 in
theorem gX6_digest_X6_of : GoodIn wsX6_digest (wsV RX6 237 RX6 yX6_of wsX6_of) := goodIn_app (goodIn_of _ (by decide +kernel)) ggX6_digest_X6_of
set_option maxRecDepth 20000 in
theorem ggX6_digest_X6_joint : GoodIn wsX6_digest wsX6_joint := goodIn_r _ [77, 3, 5, 78, 7, 79, 80, 81, 82, 14, 83, 23, 24, 25, 26, 16, 17, 18, 84, 85, 86, 87, 88, 89, 90, 91, 92, 93, 94, 95, 96, 97, 193, 194, 195, 196, 197, 198, 199, 200, 201, 202, 203, 204, 205, 206, 207, 208, 209, 231, 232, 233, 234] (by decide +kernel) (by decide +kernel)
set_option maxRecDepth 20000 in
theorem gX6_digest_X6_joint : GoodIn wsX6_digest (wsV RX6 240 RX6 yX6_joint wsX6_joint) := goodIn_app (goodIn_of _ (by decide +kernel)) ggX6_digest_X6_joint
set_option maxRecDepth 20000 in
theorem ggX6_digest_X6_box : GoodIn wsX6_digest wsX6_box := goodIn_r _ [101, 78, 3, 7, 79, 80, 81, 82, 14, 83, 23, 24, 25, 26, 16, 17, 18, 84, 85, 86, 87, 88, 89, 90, 91, 92, 93, 94, 95, 96, 97, 102, 103, 104, 105, 106, 107, 108, 109, 110, 111, 112, 113, 114, 115, 116, 193, 194, 195, 196, 197, 198, 199, 200, 201, 202, 203, 204, 205, 206, 207, 208, 209, 231, 232, 233, 234] (by decide +kernel) (by decide +kernel)
set_option maxRecDepth 20000 in
theorem gX6_digest_X6_box : GoodIn wsX6_digest (wsV RX6 243 RX6 yX6_box wsX6_box) := goodIn_app (goodIn_of _ (by decide +kernel)) ggX6_digest_X6_box
set_option maxRecDepth 20000 in
theorem ggX6_digest_X1_plan : GoodIn wsX6_digest wsX1_plan := goodIn_r _ [121, 122, 123, 124, 125, 126, 127, 128, 129, 130, 120, 131, 132, 133, 134, 135, 42, 43, 44, 45, 46, 136, 137, 138, 139, 140, 141, 142, 143, 144, 145, 146, 85, 86, 87, 88, 89, 90, 91, 92, 93, 94, 95, 96, 97, 147, 148, 149, 150, 106, 107, 108, 109, 151, 152, 153, 154, 155, 156, 157, 158, 159, 160, 161, 162, 163, 164, 114, 115, 116, 165, 166, 167, 168, 169, 170, 171, 172, 173, 174, 175, 176, 177, 178, 179, 180, 181, 182, 183, 184, 185, 186, 187, 188, 189, 190, 210, 211, 212, 213, 214, 215, 216, 217, 218, 219, 220, 221, 202, 203, 204, 205, 206, 207, 208, 209, 231, 232, 233, 234] (by decide +kernel) (by decide +kernel)
set_option maxRecDepth 20000 in
theorem gX6_digest_X1_plan : GoodIn wsX6_digest (wsV RX6 150 RX1 yX1_plan wsX1_plan) := goodIn_app (goodIn_of _ (by decide +kernel)) ggX6_digest_X1_plan
set_option maxRecDepth 20000 in
theorem ggX6_digest_X1_freeAt : GoodIn wsX6_digest wsX1_freeAt := goodIn_r _ [143, 144, 145, 132, 134, 146, 85, 86, 87, 88, 89, 90, 91, 92, 93, 94, 95, 96, 97, 147, 148, 149, 150, 106, 107, 108, 109, 151, 152, 153, 154, 155, 156, 157, 158, 120, 159, 160, 161, 162, 163, 164, 114, 115, 116, 210, 211, 212, 213, 214, 215, 216, 217, 218, 219, 220, 221, 202, 203, 204, 205, 206, 207, 208, 209, 231, 232, 233, 234] (by decide +kernel) (by decide +kernel)
set_option maxRecDepth 20000 in
theorem gX6_digest_X1_freeAt : GoodIn wsX6_digest (wsV RX6 147 RX1 yX1_freeAt wsX1_freeAt) := goodIn_app (goodIn_of _ (by decide +kernel)) ggX6_digest_X1_freeAt
set_option maxRecDepth 20000 in
theorem ggX6_digest_X1_pathsFrom : GoodIn wsX6_digest wsX1_pathsFrom := goodIn_r _ [131, 132, 133, 134, 135, 42, 43, 44, 45, 46, 136, 137, 138, 139, 140, 141, 142, 120, 143, 144, 145, 146, 85, 86, 87, 88, 89, 90, 91, 92, 93, 94, 95, 96, 97, 147, 148, 149, 150, 106, 107, 108, 109, 151, 152, 153, 154, 155, 156, 157, 158, 159, 160, 161, 162, 163, 164, 114, 115, 116, 210, 211, 212, 213, 214, 215, 216, 217, 218, 219, 220, 221, 202, 203, 204, 205, 206, 207, 208, 209, 231, 232, 233, 234] (by decide +kernel) (by decide +kernel)
set_option maxRecDepth 20000 in
theorem gX6_digest_X1_pathsFrom : GoodIn wsX6_digest (wsV RX6 168 RX1 yX1_pathsFrom wsX1_pathsFrom) := goodIn_app (goodIn_of _ (by decide +kernel)) ggX6_digest_X1_pathsFrom
theorem dX6_digest_0 : decode cX6_digest 0 = .ok (.ldc2_w 227, 3) := by decide +kernel
theorem dX6_digest_3 : decode cX6_digest 3 = .ok (.lstore_n 1, 1) := by decide +kernel
theorem dX6_digest_4 : decode cX6_digest 4 = .ok (.iconst 0, 1) := by decide +kernel
theorem dX6_digest_5 : decode cX6_digest 5 = .ok (.istore_n 3, 1) := by decide +kernel
theorem dX6_digest_6 : decode cX6_digest 6 = .ok (.iload_n 3, 1) := by decide +kernel
theorem dX6_digest_7 : decode cX6_digest 7 = .ok (.iconst 4, 1) := by decide +kernel
theorem dX6_digest_8 : decode cX6_digest 8 = .ok (.if_icmp .gt 22, 3) := by decide +kernel
theorem dX6_digest_11 : decode cX6_digest 11 = .ok (.ldc2_w 229, 3) := by decide +kernel
theorem dX6_digest_14 : decode cX6_digest 14 = .ok (.lload_n 1, 1) := by decide +kernel
theorem dX6_digest_15 : decode cX6_digest 15 = .ok (.lmul, 1) := by decide +kernel
theorem dX6_digest_16 : decode cX6_digest 16 = .ok (.aload_n 0, 1) := by decide +kernel
theorem dX6_digest_17 : decode cX6_digest 17 = .ok (.iload_n 3, 1) := by decide +kernel
theorem dX6_digest_18 : decode cX6_digest 18 = .ok (.invokevirtual 231, 3) := by decide +kernel
theorem dX6_digest_21 : decode cX6_digest 21 = .ok (.i2l, 1) := by decide +kernel
theorem dX6_digest_22 : decode cX6_digest 22 = .ok (.ladd, 1) := by decide +kernel
theorem dX6_digest_23 : decode cX6_digest 23 = .ok (.lstore_n 1, 1) := by decide +kernel
theorem dX6_digest_24 : decode cX6_digest 24 = .ok (.iinc 3 1, 3) := by decide +kernel
theorem dX6_digest_27 : decode cX6_digest 27 = .ok (.goto (-21), 3) := by decide +kernel
theorem dX6_digest_30 : decode cX6_digest 30 = .ok (.iconst 0, 1) := by decide +kernel
theorem dX6_digest_31 : decode cX6_digest 31 = .ok (.istore_n 3, 1) := by decide +kernel
theorem dX6_digest_32 : decode cX6_digest 32 = .ok (.iload_n 3, 1) := by decide +kernel
theorem dX6_digest_33 : decode cX6_digest 33 = .ok (.bipush 10, 2) := by decide +kernel
theorem dX6_digest_35 : decode cX6_digest 35 = .ok (.if_icmp .gt 22, 3) := by decide +kernel
theorem dX6_digest_38 : decode cX6_digest 38 = .ok (.ldc2_w 229, 3) := by decide +kernel
theorem dX6_digest_41 : decode cX6_digest 41 = .ok (.lload_n 1, 1) := by decide +kernel
theorem dX6_digest_42 : decode cX6_digest 42 = .ok (.lmul, 1) := by decide +kernel
theorem dX6_digest_43 : decode cX6_digest 43 = .ok (.aload_n 0, 1) := by decide +kernel
theorem dX6_digest_44 : decode cX6_digest 44 = .ok (.iload_n 3, 1) := by decide +kernel
theorem dX6_digest_45 : decode cX6_digest 45 = .ok (.invokevirtual 234, 3) := by decide +kernel
theorem dX6_digest_48 : decode cX6_digest 48 = .ok (.i2l, 1) := by decide +kernel
theorem dX6_digest_49 : decode cX6_digest 49 = .ok (.ladd, 1) := by decide +kernel
theorem dX6_digest_50 : decode cX6_digest 50 = .ok (.lstore_n 1, 1) := by decide +kernel
theorem dX6_digest_51 : decode cX6_digest 51 = .ok (.iinc 3 1, 3) := by decide +kernel
theorem dX6_digest_54 : decode cX6_digest 54 = .ok (.goto (-22), 3) := by decide +kernel
theorem dX6_digest_57 : decode cX6_digest 57 = .ok (.ldc2_w 229, 3) := by decide +kernel
theorem dX6_digest_60 : decode cX6_digest 60 = .ok (.lload_n 1, 1) := by decide +kernel
theorem dX6_digest_61 : decode cX6_digest 61 = .ok (.lmul, 1) := by decide +kernel
theorem dX6_digest_62 : decode cX6_digest 62 = .ok (.aload_n 0, 1) := by decide +kernel
theorem dX6_digest_63 : decode cX6_digest 63 = .ok (.getfield 12, 3) := by decide +kernel
theorem dX6_digest_66 : decode cX6_digest 66 = .ok (.getfield 104, 3) := by decide +kernel
theorem dX6_digest_69 : decode cX6_digest 69 = .ok (.iconst 0, 1) := by decide +kernel
theorem dX6_digest_70 : decode cX6_digest 70 = .ok (.iaload, 1) := by decide +kernel
theorem dX6_digest_71 : decode cX6_digest 71 = .ok (.i2l, 1) := by decide +kernel
theorem dX6_digest_72 : decode cX6_digest 72 = .ok (.ladd, 1) := by decide +kernel
theorem dX6_digest_73 : decode cX6_digest 73 = .ok (.lstore_n 1, 1) := by decide +kernel
theorem dX6_digest_74 : decode cX6_digest 74 = .ok (.iconst 0, 1) := by decide +kernel
theorem dX6_digest_75 : decode cX6_digest 75 = .ok (.istore_n 3, 1) := by decide +kernel
theorem dX6_digest_76 : decode cX6_digest 76 = .ok (.iload_n 3, 1) := by decide +kernel
theorem dX6_digest_77 : decode cX6_digest 77 = .ok (.aload_n 0, 1) := by decide +kernel
theorem dX6_digest_78 : decode cX6_digest 78 = .ok (.getfield 12, 3) := by decide +kernel
theorem dX6_digest_81 : decode cX6_digest 81 = .ok (.getfield 117, 3) := by decide +kernel
theorem dX6_digest_84 : decode cX6_digest 84 = .ok (.if_icmp .ge 39, 3) := by decide +kernel
theorem dX6_digest_87 : decode cX6_digest 87 = .ok (.iconst 0, 1) := by decide +kernel
theorem dX6_digest_88 : decode cX6_digest 88 = .ok (.istore 4, 2) := by decide +kernel
theorem dX6_digest_90 : decode cX6_digest 90 = .ok (.iload 4, 2) := by decide +kernel
theorem dX6_digest_92 : decode cX6_digest 92 = .ok (.iconst 3, 1) := by decide +kernel
theorem dX6_digest_93 : decode cX6_digest 93 = .ok (.if_icmp .gt 24, 3) := by decide +kernel
theorem dX6_digest_96 : decode cX6_digest 96 = .ok (.ldc2_w 229, 3) := by decide +kernel
theorem dX6_digest_99 : decode cX6_digest 99 = .ok (.lload_n 1, 1) := by decide +kernel
theorem dX6_digest_100 : decode cX6_digest 100 = .ok (.lmul, 1) := by decide +kernel
theorem dX6_digest_101 : decode cX6_digest 101 = .ok (.aload_n 0, 1) := by decide +kernel
theorem dX6_digest_102 : decode cX6_digest 102 = .ok (.iload_n 3, 1) := by decide +kernel
theorem dX6_digest_103 : decode cX6_digest 103 = .ok (.iload 4, 2) := by decide +kernel
theorem dX6_digest_105 : decode cX6_digest 105 = .ok (.invokevirtual 237, 3) := by decide +kernel
theorem dX6_digest_108 : decode cX6_digest 108 = .ok (.i2l, 1) := by decide +kernel
theorem dX6_digest_109 : decode cX6_digest 109 = .ok (.ladd, 1) := by decide +kernel
theorem dX6_digest_110 : decode cX6_digest 110 = .ok (.lstore_n 1, 1) := by decide +kernel
theorem dX6_digest_111 : decode cX6_digest 111 = .ok (.iinc 4 1, 3) := by decide +kernel
theorem dX6_digest_114 : decode cX6_digest 114 = .ok (.goto (-24), 3) := by decide +kernel
theorem dX6_digest_117 : decode cX6_digest 117 = .ok (.iinc 3 1, 3) := by decide +kernel
theorem dX6_digest_120 : decode cX6_digest 120 = .ok (.goto (-44), 3) := by decide +kernel
theorem dX6_digest_123 : decode cX6_digest 123 = .ok (.iconst 0, 1) := by decide +kernel
theorem dX6_digest_124 : decode cX6_digest 124 = .ok (.istore_n 3, 1) := by decide +kernel
theorem dX6_digest_125 : decode cX6_digest 125 = .ok (.iload_n 3, 1) := by decide +kernel
theorem dX6_digest_126 : decode cX6_digest 126 = .ok (.aload_n 0, 1) := by decide +kernel
theorem dX6_digest_127 : decode cX6_digest 127 = .ok (.getfield 12, 3) := by decide +kernel
theorem dX6_digest_130 : decode cX6_digest 130 = .ok (.getfield 117, 3) := by decide +kernel
theorem dX6_digest_133 : decode cX6_digest 133 = .ok (.iconst 1, 1) := by decide +kernel
theorem dX6_digest_134 : decode cX6_digest 134 = .ok (.iadd, 1) := by decide +kernel
theorem dX6_digest_135 : decode cX6_digest 135 = .ok (.if_icmp .gt 37, 3) := by decide +kernel
theorem dX6_digest_138 : decode cX6_digest 138 = .ok (.ldc2_w 229, 3) := by decide +kernel
theorem dX6_digest_141 : decode cX6_digest 141 = .ok (.lload_n 1, 1) := by decide +kernel
theorem dX6_digest_142 : decode cX6_digest 142 = .ok (.lmul, 1) := by decide +kernel
theorem dX6_digest_143 : decode cX6_digest 143 = .ok (.aload_n 0, 1) := by decide +kernel
theorem dX6_digest_144 : decode cX6_digest 144 = .ok (.iload_n 3, 1) := by decide +kernel
theorem dX6_digest_145 : decode cX6_digest 145 = .ok (.iconst 0, 1) := by decide +kernel
theorem dX6_digest_146 : decode cX6_digest 146 = .ok (.invokevirtual 240, 3) := by decide +kernel
theorem dX6_digest_149 : decode cX6_digest 149 = .ok (.i2l, 1) := by decide +kernel
theorem dX6_digest_150 : decode cX6_digest 150 = .ok (.ladd, 1) := by decide +kernel
theorem dX6_digest_151 : decode cX6_digest 151 = .ok (.lstore_n 1, 1) := by decide +kernel
theorem dX6_digest_152 : decode cX6_digest 152 = .ok (.ldc2_w 229, 3) := by decide +kernel
theorem dX6_digest_155 : decode cX6_digest 155 = .ok (.lload_n 1, 1) := by decide +kernel
theorem dX6_digest_156 : decode cX6_digest 156 = .ok (.lmul, 1) := by decide +kernel
theorem dX6_digest_157 : decode cX6_digest 157 = .ok (.aload_n 0, 1) := by decide +kernel
theorem dX6_digest_158 : decode cX6_digest 158 = .ok (.iload_n 3, 1) := by decide +kernel
theorem dX6_digest_159 : decode cX6_digest 159 = .ok (.iconst 1, 1) := by decide +kernel
theorem dX6_digest_160 : decode cX6_digest 160 = .ok (.invokevirtual 240, 3) := by decide +kernel
theorem dX6_digest_163 : decode cX6_digest 163 = .ok (.i2l, 1) := by decide +kernel
theorem dX6_digest_164 : decode cX6_digest 164 = .ok (.ladd, 1) := by decide +kernel
theorem dX6_digest_165 : decode cX6_digest 165 = .ok (.lstore_n 1, 1) := by decide +kernel
theorem dX6_digest_166 : decode cX6_digest 166 = .ok (.iinc 3 1, 3) := by decide +kernel
theorem dX6_digest_169 : decode cX6_digest 169 = .ok (.goto (-44), 3) := by decide +kernel
theorem dX6_digest_172 : decode cX6_digest 172 = .ok (.iconst 0, 1) := by decide +kernel
theorem dX6_digest_173 : decode cX6_digest 173 = .ok (.istore_n 3, 1) := by decide +kernel
theorem dX6_digest_174 : decode cX6_digest 174 = .ok (.iload_n 3, 1) := by decide +kernel
theorem dX6_digest_175 : decode cX6_digest 175 = .ok (.iconst 3, 1) := by decide +kernel
theorem dX6_digest_176 : decode cX6_digest 176 = .ok (.if_icmp .gt 22, 3) := by decide +kernel
theorem dX6_digest_179 : decode cX6_digest 179 = .ok (.ldc2_w 229, 3) := by decide +kernel
theorem dX6_digest_182 : decode cX6_digest 182 = .ok (.lload_n 1, 1) := by decide +kernel
theorem dX6_digest_183 : decode cX6_digest 183 = .ok (.lmul, 1) := by decide +kernel
theorem dX6_digest_184 : decode cX6_digest 184 = .ok (.aload_n 0, 1) := by decide +kernel
theorem dX6_digest_185 : decode cX6_digest 185 = .ok (.iload_n 3, 1) := by decide +kernel
theorem dX6_digest_186 : decode cX6_digest 186 = .ok (.invokevirtual 243, 3) := by decide +kernel
theorem dX6_digest_189 : decode cX6_digest 189 = .ok (.i2l, 1) := by decide +kernel
theorem dX6_digest_190 : decode cX6_digest 190 = .ok (.ladd, 1) := by decide +kernel
theorem dX6_digest_191 : decode cX6_digest 191 = .ok (.lstore_n 1, 1) := by decide +kernel
theorem dX6_digest_192 : decode cX6_digest 192 = .ok (.iinc 3 1, 3) := by decide +kernel
theorem dX6_digest_195 : decode cX6_digest 195 = .ok (.goto (-21), 3) := by decide +kernel
theorem dX6_digest_198 : decode cX6_digest 198 = .ok (.aload_n 0, 1) := by decide +kernel
theorem dX6_digest_199 : decode cX6_digest 199 = .ok (.getfield 28, 3) := by decide +kernel
theorem dX6_digest_202 : decode cX6_digest 202 = .ok (.invokevirtual 150, 3) := by decide +kernel
theorem dX6_digest_205 : decode cX6_digest 205 = .ok (.ldc2_w 229, 3) := by decide +kernel
theorem dX6_digest_208 : decode cX6_digest 208 = .ok (.lload_n 1, 1) := by decide +kernel
theorem dX6_digest_209 : decode cX6_digest 209 = .ok (.lmul, 1) := by decide +kernel
theorem dX6_digest_210 : decode cX6_digest 210 = .ok (.aload_n 0, 1) := by decide +kernel
theorem dX6_digest_211 : decode cX6_digest 211 = .ok (.getfield 28, 3) := by decide +kernel
theorem dX6_digest_214 : decode cX6_digest 214 = .ok (.aload_n 0, 1) := by decide +kernel
theorem dX6_digest_215 : decode cX6_digest 215 = .ok (.getfield 12, 3) := by decide +kernel
theorem dX6_digest_218 : decode cX6_digest 218 = .ok (.getfield 124, 3) := by decide +kernel
theorem dX6_digest_221 : decode cX6_digest 221 = .ok (.invokevirtual 147, 3) := by decide +kernel
theorem dX6_digest_224 : decode cX6_digest 224 = .ok (.i2l, 1) := by decide +kernel
theorem dX6_digest_225 : decode cX6_digest 225 = .ok (.ladd, 1) := by decide +kernel
theorem dX6_digest_226 : decode cX6_digest 226 = .ok (.lstore_n 1, 1) := by decide +kernel
theorem dX6_digest_227 : decode cX6_digest 227 = .ok (.ldc2_w 229, 3) := by decide +kernel
theorem dX6_digest_230 : decode cX6_digest 230 = .ok (.lload_n 1, 1) := by decide +kernel
theorem dX6_digest_231 : decode cX6_digest 231 = .ok (.lmul, 1) := by decide +kernel
theorem dX6_digest_232 : decode cX6_digest 232 = .ok (.aload_n 0, 1) := by decide +kernel
theorem dX6_digest_233 : decode cX6_digest 233 = .ok (.getfield 28, 3) := by decide +kernel
theorem dX6_digest_236 : decode cX6_digest 236 = .ok (.getfield 153, 3) := by decide +kernel
theorem dX6_digest_239 : decode cX6_digest 239 = .ok (.i2l, 1) := by decide +kernel
theorem dX6_digest_240 : decode cX6_digest 240 = .ok (.ladd, 1) := by decide +kernel
