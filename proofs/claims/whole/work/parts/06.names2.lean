theorem dX2_skipBlanks_22 : decode cX2_skipBlanks 22 = .ok (.if_icmp .ne 16, 3) := by decide +kernel
theorem dX2_skipBlanks_25 : decode cX2_skipBlanks 25 = .ok (.aload_n 0, 1) := by decide +kernel
theorem dX2_skipBlanks_26 : decode cX2_skipBlanks 26 = .ok (.dup, 1) := by decide +kernel
theorem dX2_skipBlanks_27 : decode cX2_skipBlanks 27 = .ok (.getfield 28, 3) := by decide +kernel
theorem dX2_skipBlanks_30 : decode cX2_skipBlanks 30 = .ok (.iconst 1, 1) := by decide +kernel
theorem dX2_skipBlanks_31 : decode cX2_skipBlanks 31 = .ok (.iadd, 1) := by decide +kernel
theorem dX2_skipBlanks_32 : decode cX2_skipBlanks 32 = .ok (.putfield 28, 3) := by decide +kernel
theorem dX2_skipBlanks_35 : decode cX2_skipBlanks 35 = .ok (.goto (-35), 3) := by decide +kernel
theorem dX2_skipBlanks_38 : decode cX2_skipBlanks 38 = .ok (.return_, 1) := by decide +kernel
theorem dX2_numbersBehind_0 : decode cX2_numbersBehind 0 = .ok (.iload_n 0, 1) := by decide +kernel
theorem dX2_numbersBehind_1 : decode cX2_numbersBehind 1 = .ok (.tableswitch 107 97 117 #[99, 105, 107, 107, 107, 107, 107, 107, 107, 107, 103, 107, 101, 107, 107, 103, 107, 107, 101, 107, 101], 99) := by decide +kernel
theorem dX2_numbersBehind_100 : decode cX2_numbersBehind 100 = .ok (.iconst 0, 1) := by decide +kernel
theorem dX2_numbersBehind_101 : decode cX2_numbersBehind 101 = .ok (.ireturn, 1) := by decide +kernel
theorem dX2_numbersBehind_102 : decode cX2_numbersBehind 102 = .ok (.iconst 1, 1) := by decide +kernel
theorem dX2_numbersBehind_103 : decode cX2_numbersBehind 103 = .ok (.ireturn, 1) := by decide +kernel
theorem dX2_numbersBehind_104 : decode cX2_numbersBehind 104 = .ok (.iconst 2, 1) := by decide +kernel
theorem dX2_numbersBehind_105 : decode cX2_numbersBehind 105 = .ok (.ireturn, 1) := by decide +kernel
theorem dX2_numbersBehind_106 : decode cX2_numbersBehind 106 = .ok (.iconst 3, 1) := by decide +kernel
theorem dX2_numbersBehind_107 : decode cX2_numbersBehind 107 = .ok (.ireturn, 1) := by decide +kernel
theorem dX2_numbersBehind_108 : decode cX2_numbersBehind 108 = .ok (.iconst (-1), 1) := by decide +kernel
theorem dX2_numbersBehind_109 : decode cX2_numbersBehind 109 = .ok (.ireturn, 1) := by decide +kernel
theorem dX3_init_0 : decode cX3_init 0 = .ok (.aload_n 0, 1) := by decide +kernel
theorem dX3_init_1 : decode cX3_init 1 = .ok (.invokespecial 3, 3) := by decide +kernel
theorem dX3_init_4 : decode cX3_init 4 = .ok (.aload_n 0, 1) := by decide +kernel
theorem dX3_init_5 : decode cX3_init 5 = .ok (.bipush 8, 2) := by decide +kernel
theorem dX3_init_7 : decode cX3_init 7 = .ok (.newarray .int, 2) := by decide +kernel
theorem dX3_init_9 : decode cX3_init 9 = .ok (.putfield 9, 3) := by decide +kernel
theorem dX3_init_12 : decode cX3_init 12 = .ok (.aload_n 0, 1) := by decide +kernel
theorem dX3_init_13 : decode cX3_init 13 = .ok (.bipush 8, 2) := by decide +kernel
theorem dX3_init_15 : decode cX3_init 15 = .ok (.newarray .int, 2) := by decide +kernel
theorem dX3_init_17 : decode cX3_init 17 = .ok (.putfield 15, 3) := by decide +kernel
theorem dX3_init_20 : decode cX3_init 20 = .ok (.aload_n 0, 1) := by decide +kernel
theorem dX3_init_21 : decode cX3_init 21 = .ok (.bipush 7, 2) := by decide +kernel
theorem dX3_init_23 : decode cX3_init 23 = .ok (.newarray .int, 2) := by decide +kernel
theorem dX3_init_25 : decode cX3_init 25 = .ok (.putfield 18, 3) := by decide +kernel
theorem dX3_init_28 : decode cX3_init 28 = .ok (.aload_n 0, 1) := by decide +kernel
theorem dX3_init_29 : decode cX3_init 29 = .ok (.iconst 0, 1) := by decide +kernel
theorem dX3_init_30 : decode cX3_init 30 = .ok (.putfield 21, 3) := by decide +kernel
theorem dX3_init_33 : decode cX3_init 33 = .ok (.return_, 1) := by decide +kernel
theorem dX3_trace_0 : decode cX3_trace 0 = .ok (.aload_n 0, 1) := by decide +kernel
theorem dX3_trace_1 : decode cX3_trace 1 = .ok (.aload_n 1, 1) := by decide +kernel
theorem dX3_trace_2 : decode cX3_trace 2 = .ok (.getfield 25, 3) := by decide +kernel
theorem dX3_trace_5 : decode cX3_trace 5 = .ok (.iconst 1, 1) := by decide +kernel
theorem dX3_trace_6 : decode cX3_trace 6 = .ok (.iadd, 1) := by decide +kernel
theorem dX3_trace_7 : decode cX3_trace 7 = .ok (.putfield 21, 3) := by decide +kernel
theorem dX3_trace_10 : decode cX3_trace 10 = .ok (.iconst 0, 1) := by decide +kernel
theorem dX3_trace_11 : decode cX3_trace 11 = .ok (.istore_n 3, 1) := by decide +kernel
theorem dX3_trace_12 : decode cX3_trace 12 = .ok (.iconst 0, 1) := by decide +kernel
theorem dX3_trace_13 : decode cX3_trace 13 = .ok (.istore 4, 2) := by decide +kernel
theorem dX3_trace_15 : decode cX3_trace 15 = .ok (.iload 4, 2) := by decide +kernel
theorem dX3_trace_17 : decode cX3_trace 17 = .ok (.aload_n 0, 1) := by decide +kernel
theorem dX3_trace_18 : decode cX3_trace 18 = .ok (.getfield 21, 3) := by decide +kernel
theorem dX3_trace_21 : decode cX3_trace 21 = .ok (.if_icmp .ge 108, 3) := by decide +kernel
theorem dX3_trace_24 : decode cX3_trace 24 = .ok (.aload_n 0, 1) := by decide +kernel
theorem dX3_trace_25 : decode cX3_trace 25 = .ok (.getfield 18, 3) := by decide +kernel
theorem dX3_trace_28 : decode cX3_trace 28 = .ok (.iload 4, 2) := by decide +kernel
theorem dX3_trace_30 : decode cX3_trace 30 = .ok (.iload_n 3, 1) := by decide +kernel
theorem dX3_trace_31 : decode cX3_trace 31 = .ok (.iastore, 1) := by decide +kernel
theorem dX3_trace_32 : decode cX3_trace 32 = .ok (.aload_n 0, 1) := by decide +kernel
theorem dX3_trace_33 : decode cX3_trace 33 = .ok (.getfield 9, 3) := by decide +kernel
theorem dX3_trace_36 : decode cX3_trace 36 = .ok (.iload 4, 2) := by decide +kernel
theorem dX3_trace_38 : decode cX3_trace 38 = .ok (.iconst 1, 1) := by decide +kernel
theorem dX3_trace_39 : decode cX3_trace 39 = .ok (.iadd, 1) := by decide +kernel
theorem dX3_trace_40 : decode cX3_trace 40 = .ok (.aload_n 0, 1) := by decide +kernel
theorem dX3_trace_41 : decode cX3_trace 41 = .ok (.getfield 9, 3) := by decide +kernel
theorem dX3_trace_44 : decode cX3_trace 44 = .ok (.iload 4, 2) := by decide +kernel
theorem dX3_trace_46 : decode cX3_trace 46 = .ok (.iaload, 1) := by decide +kernel
theorem dX3_trace_47 : decode cX3_trace 47 = .ok (.aload_n 1, 1) := by decide +kernel
theorem dX3_trace_48 : decode cX3_trace 48 = .ok (.getfield 30, 3) := by decide +kernel
theorem dX3_trace_51 : decode cX3_trace 51 = .ok (.iload 4, 2) := by decide +kernel
theorem dX3_trace_53 : decode cX3_trace 53 = .ok (.iaload, 1) := by decide +kernel
theorem dX3_trace_54 : decode cX3_trace 54 = .ok (.getstatic 33, 3) := by decide +kernel
theorem dX3_trace_57 : decode cX3_trace 57 = .ok (.iload_n 3, 1) := by decide +kernel
theorem dX3_trace_58 : decode cX3_trace 58 = .ok (.iaload, 1) := by decide +kernel
theorem dX3_trace_59 : decode cX3_trace 59 = .ok (.imul, 1) := by decide +kernel
theorem dX3_trace_60 : decode cX3_trace 60 = .ok (.iadd, 1) := by decide +kernel
theorem dX3_trace_61 : decode cX3_trace 61 = .ok (.iastore, 1) := by decide +kernel
theorem dX3_trace_62 : decode cX3_trace 62 = .ok (.aload_n 0, 1) := by decide +kernel
theorem dX3_trace_63 : decode cX3_trace 63 = .ok (.getfield 15, 3) := by decide +kernel
theorem dX3_trace_66 : decode cX3_trace 66 = .ok (.iload 4, 2) := by decide +kernel
theorem dX3_trace_68 : decode cX3_trace 68 = .ok (.iconst 1, 1) := by decide +kernel
theorem dX3_trace_69 : decode cX3_trace 69 = .ok (.iadd, 1) := by decide +kernel
theorem dX3_trace_70 : decode cX3_trace 70 = .ok (.aload_n 0, 1) := by decide +kernel
theorem dX3_trace_71 : decode cX3_trace 71 = .ok (.getfield 15, 3) := by decide +kernel
theorem dX3_trace_74 : decode cX3_trace 74 = .ok (.iload 4, 2) := by decide +kernel
theorem dX3_trace_76 : decode cX3_trace 76 = .ok (.iaload, 1) := by decide +kernel
theorem dX3_trace_77 : decode cX3_trace 77 = .ok (.aload_n 1, 1) := by decide +kernel
theorem dX3_trace_78 : decode cX3_trace 78 = .ok (.getfield 30, 3) := by decide +kernel
theorem dX3_trace_81 : decode cX3_trace 81 = .ok (.iload 4, 2) := by decide +kernel
theorem dX3_trace_83 : decode cX3_trace 83 = .ok (.iaload, 1) := by decide +kernel
theorem dX3_trace_84 : decode cX3_trace 84 = .ok (.getstatic 36, 3) := by decide +kernel
theorem dX3_trace_87 : decode cX3_trace 87 = .ok (.iload_n 3, 1) := by decide +kernel
theorem dX3_trace_88 : decode cX3_trace 88 = .ok (.iaload, 1) := by decide +kernel
theorem dX3_trace_89 : decode cX3_trace 89 = .ok (.imul, 1) := by decide +kernel
theorem dX3_trace_90 : decode cX3_trace 90 = .ok (.iadd, 1) := by decide +kernel
theorem dX3_trace_91 : decode cX3_trace 91 = .ok (.iastore, 1) := by decide +kernel
theorem dX3_trace_92 : decode cX3_trace 92 = .ok (.iload 4, 2) := by decide +kernel
theorem dX3_trace_94 : decode cX3_trace 94 = .ok (.aload_n 1, 1) := by decide +kernel
theorem dX3_trace_95 : decode cX3_trace 95 = .ok (.getfield 25, 3) := by decide +kernel
theorem dX3_trace_98 : decode cX3_trace 98 = .ok (.if_icmp .ge 25, 3) := by decide +kernel
theorem dX3_trace_101 : decode cX3_trace 101 = .ok (.iload_n 2, 1) := by decide +kernel
theorem dX3_trace_102 : decode cX3_trace 102 = .ok (.iload 4, 2) := by decide +kernel
theorem dX3_trace_104 : decode cX3_trace 104 = .ok (.ishr, 1) := by decide +kernel
theorem dX3_trace_105 : decode cX3_trace 105 = .ok (.iconst 1, 1) := by decide +kernel
theorem dX3_trace_106 : decode cX3_trace 106 = .ok (.iand, 1) := by decide +kernel
theorem dX3_trace_107 : decode cX3_trace 107 = .ok (.iconst 1, 1) := by decide +kernel
theorem dX3_trace_108 : decode cX3_trace 108 = .ok (.if_icmp .ne 15, 3) := by decide +kernel
theorem dX3_trace_111 : decode cX3_trace 111 = .ok (.iload_n 3, 1) := by decide +kernel
theorem dX3_trace_112 : decode cX3_trace 112 = .ok (.aload_n 1, 1) := by decide +kernel
theorem dX3_trace_113 : decode cX3_trace 113 = .ok (.getfield 39, 3) := by decide +kernel
theorem dX3_trace_116 : decode cX3_trace 116 = .ok (.iload 4, 2) := by decide +kernel
theorem dX3_trace_118 : decode cX3_trace 118 = .ok (.iaload, 1) := by decide +kernel
theorem dX3_trace_119 : decode cX3_trace 119 = .ok (.iadd, 1) := by decide +kernel
theorem dX3_trace_120 : decode cX3_trace 120 = .ok (.iconst 3, 1) := by decide +kernel
theorem dX3_trace_121 : decode cX3_trace 121 = .ok (.iand, 1) := by decide +kernel
theorem dX3_trace_122 : decode cX3_trace 122 = .ok (.istore_n 3, 1) := by decide +kernel
theorem dX3_trace_123 : decode cX3_trace 123 = .ok (.iinc 4 1, 3) := by decide +kernel
theorem dX3_trace_126 : decode cX3_trace 126 = .ok (.goto (-111), 3) := by decide +kernel
theorem dX3_trace_129 : decode cX3_trace 129 = .ok (.return_, 1) := by decide +kernel
theorem dX3_least_0 : decode cX3_least 0 = .ok (.aload_n 1, 1) := by decide +kernel
theorem dX3_least_1 : decode cX3_least 1 = .ok (.iconst 0, 1) := by decide +kernel
theorem dX3_least_2 : decode cX3_least 2 = .ok (.iaload, 1) := by decide +kernel
theorem dX3_least_3 : decode cX3_least 3 = .ok (.istore_n 2, 1) := by decide +kernel
theorem dX3_least_4 : decode cX3_least 4 = .ok (.iconst 1, 1) := by decide +kernel
theorem dX3_least_5 : decode cX3_least 5 = .ok (.istore_n 3, 1) := by decide +kernel
theorem dX3_least_6 : decode cX3_least 6 = .ok (.iload_n 3, 1) := by decide +kernel
theorem dX3_least_7 : decode cX3_least 7 = .ok (.aload_n 0, 1) := by decide +kernel
theorem dX3_least_8 : decode cX3_least 8 = .ok (.getfield 21, 3) := by decide +kernel
theorem dX3_least_11 : decode cX3_least 11 = .ok (.if_icmp .gt 17, 3) := by decide +kernel
theorem dX3_least_14 : decode cX3_least 14 = .ok (.iload_n 2, 1) := by decide +kernel
theorem dX3_least_15 : decode cX3_least 15 = .ok (.aload_n 1, 1) := by decide +kernel
theorem dX3_least_16 : decode cX3_least 16 = .ok (.iload_n 3, 1) := by decide +kernel
theorem dX3_least_17 : decode cX3_least 17 = .ok (.iaload, 1) := by decide +kernel
theorem dX3_least_18 : decode cX3_least 18 = .ok (.invokestatic 42, 3) := by decide +kernel
theorem dX3_least_21 : decode cX3_least 21 = .ok (.istore_n 2, 1) := by decide +kernel
theorem dX3_least_22 : decode cX3_least 22 = .ok (.iinc 3 1, 3) := by decide +kernel
theorem dX3_least_25 : decode cX3_least 25 = .ok (.goto (-19), 3) := by decide +kernel
theorem dX3_least_28 : decode cX3_least 28 = .ok (.iload_n 2, 1) := by decide +kernel
theorem dX3_least_29 : decode cX3_least 29 = .ok (.ireturn, 1) := by decide +kernel
theorem dX3_greatest_0 : decode cX3_greatest 0 = .ok (.aload_n 1, 1) := by decide +kernel
theorem dX3_greatest_1 : decode cX3_greatest 1 = .ok (.iconst 0, 1) := by decide +kernel
theorem dX3_greatest_2 : decode cX3_greatest 2 = .ok (.iaload, 1) := by decide +kernel
theorem dX3_greatest_3 : decode cX3_greatest 3 = .ok (.istore_n 2, 1) := by decide +kernel
theorem dX3_greatest_4 : decode cX3_greatest 4 = .ok (.iconst 1, 1) := by decide +kernel
theorem dX3_greatest_5 : decode cX3_greatest 5 = .ok (.istore_n 3, 1) := by decide +kernel
theorem dX3_greatest_6 : decode cX3_greatest 6 = .ok (.iload_n 3, 1) := by decide +kernel
theorem dX3_greatest_7 : decode cX3_greatest 7 = .ok (.aload_n 0, 1) := by decide +kernel
theorem dX3_greatest_8 : decode cX3_greatest 8 = .ok (.getfield 21, 3) := by decide +kernel
theorem dX3_greatest_11 : decode cX3_greatest 11 = .ok (.if_icmp .gt 17, 3) := by decide +kernel
theorem dX3_greatest_14 : decode cX3_greatest 14 = .ok (.iload_n 2, 1) := by decide +kernel
theorem dX3_greatest_15 : decode cX3_greatest 15 = .ok (.aload_n 1, 1) := by decide +kernel
theorem dX3_greatest_16 : decode cX3_greatest 16 = .ok (.iload_n 3, 1) := by decide +kernel
theorem dX3_greatest_17 : decode cX3_greatest 17 = .ok (.iaload, 1) := by decide +kernel
theorem dX3_greatest_18 : decode cX3_greatest 18 = .ok (.invokestatic 48, 3) := by decide +kernel
theorem dX3_greatest_21 : decode cX3_greatest 21 = .ok (.istore_n 2, 1) := by decide +kernel
theorem dX3_greatest_22 : decode cX3_greatest 22 = .ok (.iinc 3 1, 3) := by decide +kernel
theorem dX3_greatest_25 : decode cX3_greatest 25 = .ok (.goto (-19), 3) := by decide +kernel
theorem dX3_greatest_28 : decode cX3_greatest 28 = .ok (.iload_n 2, 1) := by decide +kernel
theorem dX3_greatest_29 : decode cX3_greatest 29 = .ok (.ireturn, 1) := by decide +kernel
set_option maxRecDepth 20000 in
theorem ggX3_crossesItself_X3_reaches : GoodIn wsX3_crossesItself wsX3_reaches := goodIn_r _ [14] (by decide +kernel) (by decide +kernel)
set_option maxRecDepth 20000 in
theorem gX3_crossesItself_X3_reaches : GoodIn wsX3_crossesItself (va_wsS RX3 51 yX3_reaches wsX3_reaches) := goodIn_app (goodIn_of _ (by decide +kernel)) ggX3_crossesItself_X3_reaches
theorem dX3_crossesItself_0 : decode cX3_crossesItself 0 = .ok (.iconst 0, 1) := by decide +kernel
theorem dX3_crossesItself_1 : decode cX3_crossesItself 1 = .ok (.istore_n 1, 1) := by decide +kernel
theorem dX3_crossesItself_2 : decode cX3_crossesItself 2 = .ok (.iload_n 1, 1) := by decide +kernel
theorem dX3_crossesItself_3 : decode cX3_crossesItself 3 = .ok (.aload_n 0, 1) := by decide +kernel
theorem dX3_crossesItself_4 : decode cX3_crossesItself 4 = .ok (.getfield 21, 3) := by decide +kernel
theorem dX3_crossesItself_7 : decode cX3_crossesItself 7 = .ok (.if_icmp .ge 155, 3) := by decide +kernel
theorem dX3_crossesItself_10 : decode cX3_crossesItself 10 = .ok (.aload_n 0, 1) := by decide +kernel
theorem dX3_crossesItself_11 : decode cX3_crossesItself 11 = .ok (.getfield 9, 3) := by decide +kernel
theorem dX3_crossesItself_14 : decode cX3_crossesItself 14 = .ok (.iload_n 1, 1) := by decide +kernel
theorem dX3_crossesItself_15 : decode cX3_crossesItself 15 = .ok (.iaload, 1) := by decide +kernel
theorem dX3_crossesItself_16 : decode cX3_crossesItself 16 = .ok (.aload_n 0, 1) := by decide +kernel
theorem dX3_crossesItself_17 : decode cX3_crossesItself 17 = .ok (.getfield 9, 3) := by decide +kernel
theorem dX3_crossesItself_20 : decode cX3_crossesItself 20 = .ok (.iload_n 1, 1) := by decide +kernel
theorem dX3_crossesItself_21 : decode cX3_crossesItself 21 = .ok (.iconst 1, 1) := by decide +kernel
theorem dX3_crossesItself_22 : decode cX3_crossesItself 22 = .ok (.iadd, 1) := by decide +kernel
theorem dX3_crossesItself_23 : decode cX3_crossesItself 23 = .ok (.iaload, 1) := by decide +kernel
theorem dX3_crossesItself_24 : decode cX3_crossesItself 24 = .ok (.invokestatic 42, 3) := by decide +kernel
theorem dX3_crossesItself_27 : decode cX3_crossesItself 27 = .ok (.istore_n 2, 1) := by decide +kernel
theorem dX3_crossesItself_28 : decode cX3_crossesItself 28 = .ok (.aload_n 0, 1) := by decide +kernel
theorem dX3_crossesItself_29 : decode cX3_crossesItself 29 = .ok (.getfield 9, 3) := by decide +kernel
theorem dX3_crossesItself_32 : decode cX3_crossesItself 32 = .ok (.iload_n 1, 1) := by decide +kernel
theorem dX3_crossesItself_33 : decode cX3_crossesItself 33 = .ok (.iaload, 1) := by decide +kernel
theorem dX3_crossesItself_34 : decode cX3_crossesItself 34 = .ok (.aload_n 0, 1) := by decide +kernel
theorem dX3_crossesItself_35 : decode cX3_crossesItself 35 = .ok (.getfield 9, 3) := by decide +kernel
theorem dX3_crossesItself_38 : decode cX3_crossesItself 38 = .ok (.iload_n 1, 1) := by decide +kernel
theorem dX3_crossesItself_39 : decode cX3_crossesItself 39 = .ok (.iconst 1, 1) := by decide +kernel
theorem dX3_crossesItself_40 : decode cX3_crossesItself 40 = .ok (.iadd, 1) := by decide +kernel
theorem dX3_crossesItself_41 : decode cX3_crossesItself 41 = .ok (.iaload, 1) := by decide +kernel
theorem dX3_crossesItself_42 : decode cX3_crossesItself 42 = .ok (.invokestatic 48, 3) := by decide +kernel
theorem dX3_crossesItself_45 : decode cX3_crossesItself 45 = .ok (.istore_n 3, 1) := by decide +kernel
theorem dX3_crossesItself_46 : decode cX3_crossesItself 46 = .ok (.aload_n 0, 1) := by decide +kernel
theorem dX3_crossesItself_47 : decode cX3_crossesItself 47 = .ok (.getfield 15, 3) := by decide +kernel
theorem dX3_crossesItself_50 : decode cX3_crossesItself 50 = .ok (.iload_n 1, 1) := by decide +kernel
theorem dX3_crossesItself_51 : decode cX3_crossesItself 51 = .ok (.iaload, 1) := by decide +kernel
theorem dX3_crossesItself_52 : decode cX3_crossesItself 52 = .ok (.aload_n 0, 1) := by decide +kernel
theorem dX3_crossesItself_53 : decode cX3_crossesItself 53 = .ok (.getfield 15, 3) := by decide +kernel
theorem dX3_crossesItself_56 : decode cX3_crossesItself 56 = .ok (.iload_n 1, 1) := by decide +kernel
theorem dX3_crossesItself_57 : decode cX3_crossesItself 57 = .ok (.iconst 1, 1) := by decide +kernel
theorem dX3_crossesItself_58 : decode cX3_crossesItself 58 = .ok (.iadd, 1) := by decide +kernel
theorem dX3_crossesItself_59 : decode cX3_crossesItself 59 = .ok (.iaload, 1) := by decide +kernel
theorem dX3_crossesItself_60 : decode cX3_crossesItself 60 = .ok (.invokestatic 42, 3) := by decide +kernel
theorem dX3_crossesItself_63 : decode cX3_crossesItself 63 = .ok (.istore 4, 2) := by decide +kernel
theorem dX3_crossesItself_65 : decode cX3_crossesItself 65 = .ok (.aload_n 0, 1) := by decide +kernel
theorem dX3_crossesItself_66 : decode cX3_crossesItself 66 = .ok (.getfield 15, 3) := by decide +kernel
theorem dX3_crossesItself_69 : decode cX3_crossesItself 69 = .ok (.iload_n 1, 1) := by decide +kernel
theorem dX3_crossesItself_70 : decode cX3_crossesItself 70 = .ok (.iaload, 1) := by decide +kernel
theorem dX3_crossesItself_71 : decode cX3_crossesItself 71 = .ok (.aload_n 0, 1) := by decide +kernel
theorem dX3_crossesItself_72 : decode cX3_crossesItself 72 = .ok (.getfield 15, 3) := by decide +kernel
theorem dX3_crossesItself_75 : decode cX3_crossesItself 75 = .ok (.iload_n 1, 1) := by decide +kernel
theorem dX3_crossesItself_76 : decode cX3_crossesItself 76 = .ok (.iconst 1, 1) := by decide +kernel
theorem dX3_crossesItself_77 : decode cX3_crossesItself 77 = .ok (.iadd, 1) := by decide +kernel
theorem dX3_crossesItself_78 : decode cX3_crossesItself 78 = .ok (.iaload, 1) := by decide +kernel
theorem dX3_crossesItself_79 : decode cX3_crossesItself 79 = .ok (.invokestatic 48, 3) := by decide +kernel
theorem dX3_crossesItself_82 : decode cX3_crossesItself 82 = .ok (.istore 5, 2) := by decide +kernel
theorem dX3_crossesItself_84 : decode cX3_crossesItself 84 = .ok (.iload_n 1, 1) := by decide +kernel
theorem dX3_crossesItself_85 : decode cX3_crossesItself 85 = .ok (.iconst 3, 1) := by decide +kernel
theorem dX3_crossesItself_86 : decode cX3_crossesItself 86 = .ok (.iadd, 1) := by decide +kernel
theorem dX3_crossesItself_87 : decode cX3_crossesItself 87 = .ok (.istore 6, 2) := by decide +kernel
theorem dX3_crossesItself_89 : decode cX3_crossesItself 89 = .ok (.iload 6, 2) := by decide +kernel
theorem dX3_crossesItself_91 : decode cX3_crossesItself 91 = .ok (.aload_n 0, 1) := by decide +kernel
theorem dX3_crossesItself_92 : decode cX3_crossesItself 92 = .ok (.getfield 21, 3) := by decide +kernel
theorem dX3_crossesItself_95 : decode cX3_crossesItself 95 = .ok (.if_icmp .ge 61, 3) := by decide +kernel
theorem dX3_crossesItself_98 : decode cX3_crossesItself 98 = .ok (.aload_n 0, 1) := by decide +kernel
theorem dX3_crossesItself_99 : decode cX3_crossesItself 99 = .ok (.getfield 9, 3) := by decide +kernel
theorem dX3_crossesItself_102 : decode cX3_crossesItself 102 = .ok (.iload 6, 2) := by decide +kernel
theorem dX3_crossesItself_104 : decode cX3_crossesItself 104 = .ok (.iaload, 1) := by decide +kernel
theorem dX3_crossesItself_105 : decode cX3_crossesItself 105 = .ok (.aload_n 0, 1) := by decide +kernel
theorem dX3_crossesItself_106 : decode cX3_crossesItself 106 = .ok (.getfield 9, 3) := by decide +kernel
theorem dX3_crossesItself_109 : decode cX3_crossesItself 109 = .ok (.iload 6, 2) := by decide +kernel
theorem dX3_crossesItself_111 : decode cX3_crossesItself 111 = .ok (.iconst 1, 1) := by decide +kernel
theorem dX3_crossesItself_112 : decode cX3_crossesItself 112 = .ok (.iadd, 1) := by decide +kernel
theorem dX3_crossesItself_113 : decode cX3_crossesItself 113 = .ok (.iaload, 1) := by decide +kernel
theorem dX3_crossesItself_114 : decode cX3_crossesItself 114 = .ok (.iload_n 2, 1) := by decide +kernel
theorem dX3_crossesItself_115 : decode cX3_crossesItself 115 = .ok (.iload_n 3, 1) := by decide +kernel
theorem dX3_crossesItself_116 : decode cX3_crossesItself 116 = .ok (.invokestatic 51, 3) := by decide +kernel
theorem dX3_crossesItself_119 : decode cX3_crossesItself 119 = .ok (.ifCond .eq 31, 3) := by decide +kernel
theorem dX3_crossesItself_122 : decode cX3_crossesItself 122 = .ok (.aload_n 0, 1) := by decide +kernel
theorem dX3_crossesItself_123 : decode cX3_crossesItself 123 = .ok (.getfield 15, 3) := by decide +kernel
theorem dX3_crossesItself_126 : decode cX3_crossesItself 126 = .ok (.iload 6, 2) := by decide +kernel
theorem dX3_crossesItself_128 : decode cX3_crossesItself 128 = .ok (.iaload, 1) := by decide +kernel
theorem dX3_crossesItself_129 : decode cX3_crossesItself 129 = .ok (.aload_n 0, 1) := by decide +kernel
theorem dX3_crossesItself_130 : decode cX3_crossesItself 130 = .ok (.getfield 15, 3) := by decide +kernel
theorem dX3_crossesItself_133 : decode cX3_crossesItself 133 = .ok (.iload 6, 2) := by decide +kernel
theorem dX3_crossesItself_135 : decode cX3_crossesItself 135 = .ok (.iconst 1, 1) := by decide +kernel
theorem dX3_crossesItself_136 : decode cX3_crossesItself 136 = .ok (.iadd, 1) := by decide +kernel
theorem dX3_crossesItself_137 : decode cX3_crossesItself 137 = .ok (.iaload, 1) := by decide +kernel
theorem dX3_crossesItself_138 : decode cX3_crossesItself 138 = .ok (.iload 4, 2) := by decide +kernel
theorem dX3_crossesItself_140 : decode cX3_crossesItself 140 = .ok (.iload 5, 2) := by decide +kernel
theorem dX3_crossesItself_142 : decode cX3_crossesItself 142 = .ok (.invokestatic 51, 3) := by decide +kernel
theorem dX3_crossesItself_145 : decode cX3_crossesItself 145 = .ok (.ifCond .eq 5, 3) := by decide +kernel
theorem dX3_crossesItself_148 : decode cX3_crossesItself 148 = .ok (.iconst 1, 1) := by decide +kernel
theorem dX3_crossesItself_149 : decode cX3_crossesItself 149 = .ok (.ireturn, 1) := by decide +kernel
theorem dX3_crossesItself_150 : decode cX3_crossesItself 150 = .ok (.iinc 6 1, 3) := by decide +kernel
theorem dX3_crossesItself_153 : decode cX3_crossesItself 153 = .ok (.goto (-64), 3) := by decide +kernel
theorem dX3_crossesItself_156 : decode cX3_crossesItself 156 = .ok (.iinc 1 1, 3) := by decide +kernel
theorem dX3_crossesItself_159 : decode cX3_crossesItself 159 = .ok (.goto (-157), 3) := by decide +kernel
theorem dX3_crossesItself_162 : decode cX3_crossesItself 162 = .ok (.iconst 0, 1) := by decide +kernel
theorem dX3_crossesItself_163 : decode cX3_crossesItself 163 = .ok (.ireturn, 1) := by decide +kernel
set_option maxRecDepth 20000 in
theorem ggX3_pressHit_X3_reaches : GoodIn wsX3_pressHit wsX3_reaches := goodIn_r _ [17] (by decide +kernel) (by decide +kernel)
set_option maxRecDepth 20000 in
theorem gX3_pressHit_X3_reaches : GoodIn wsX3_pressHit (va_wsS RX3 51 yX3_reaches wsX3_reaches) := goodIn_app (goodIn_of _ (by decide +kernel)) ggX3_pressHit_X3_reaches
theorem dX3_pressHit_0 : decode cX3_pressHit 0 = .ok (.aload_n 1, 1) := by decide +kernel
theorem dX3_pressHit_1 : decode cX3_pressHit 1 = .ok (.getfield 39, 3) := by decide +kernel
theorem dX3_pressHit_4 : decode cX3_pressHit 4 = .ok (.iload_n 2, 1) := by decide +kernel
theorem dX3_pressHit_5 : decode cX3_pressHit 5 = .ok (.iaload, 1) := by decide +kernel
theorem dX3_pressHit_6 : decode cX3_pressHit 6 = .ok (.istore_n 3, 1) := by decide +kernel
theorem dX3_pressHit_7 : decode cX3_pressHit 7 = .ok (.getstatic 33, 3) := by decide +kernel
theorem dX3_pressHit_10 : decode cX3_pressHit 10 = .ok (.aload_n 0, 1) := by decide +kernel
theorem dX3_pressHit_11 : decode cX3_pressHit 11 = .ok (.getfield 18, 3) := by decide +kernel
theorem dX3_pressHit_14 : decode cX3_pressHit 14 = .ok (.iload_n 2, 1) := by decide +kernel
theorem dX3_pressHit_15 : decode cX3_pressHit 15 = .ok (.iconst 1, 1) := by decide +kernel
theorem dX3_pressHit_16 : decode cX3_pressHit 16 = .ok (.iadd, 1) := by decide +kernel
theorem dX3_pressHit_17 : decode cX3_pressHit 17 = .ok (.iaload, 1) := by decide +kernel
theorem dX3_pressHit_18 : decode cX3_pressHit 18 = .ok (.iaload, 1) := by decide +kernel
theorem dX3_pressHit_19 : decode cX3_pressHit 19 = .ok (.istore 4, 2) := by decide +kernel
theorem dX3_pressHit_21 : decode cX3_pressHit 21 = .ok (.getstatic 36, 3) := by decide +kernel
theorem dX3_pressHit_24 : decode cX3_pressHit 24 = .ok (.aload_n 0, 1) := by decide +kernel
theorem dX3_pressHit_25 : decode cX3_pressHit 25 = .ok (.getfield 18, 3) := by decide +kernel
theorem dX3_pressHit_28 : decode cX3_pressHit 28 = .ok (.iload_n 2, 1) := by decide +kernel
theorem dX3_pressHit_29 : decode cX3_pressHit 29 = .ok (.iconst 1, 1) := by decide +kernel
theorem dX3_pressHit_30 : decode cX3_pressHit 30 = .ok (.iadd, 1) := by decide +kernel
theorem dX3_pressHit_31 : decode cX3_pressHit 31 = .ok (.iaload, 1) := by decide +kernel
theorem dX3_pressHit_32 : decode cX3_pressHit 32 = .ok (.iaload, 1) := by decide +kernel
theorem dX3_pressHit_33 : decode cX3_pressHit 33 = .ok (.istore 5, 2) := by decide +kernel
theorem dX3_pressHit_35 : decode cX3_pressHit 35 = .ok (.iconst 0, 1) := by decide +kernel
theorem dX3_pressHit_36 : decode cX3_pressHit 36 = .ok (.istore 6, 2) := by decide +kernel
theorem dX3_pressHit_38 : decode cX3_pressHit 38 = .ok (.iconst 0, 1) := by decide +kernel
theorem dX3_pressHit_39 : decode cX3_pressHit 39 = .ok (.istore 7, 2) := by decide +kernel
theorem dX3_pressHit_41 : decode cX3_pressHit 41 = .ok (.iconst 0, 1) := by decide +kernel
theorem dX3_pressHit_42 : decode cX3_pressHit 42 = .ok (.istore 8, 2) := by decide +kernel
theorem dX3_pressHit_44 : decode cX3_pressHit 44 = .ok (.iconst 0, 1) := by decide +kernel
theorem dX3_pressHit_45 : decode cX3_pressHit 45 = .ok (.istore 9, 2) := by decide +kernel
theorem dX3_pressHit_47 : decode cX3_pressHit 47 = .ok (.iload 9, 2) := by decide +kernel
theorem dX3_pressHit_49 : decode cX3_pressHit 49 = .ok (.aload_n 0, 1) := by decide +kernel
theorem dX3_pressHit_50 : decode cX3_pressHit 50 = .ok (.getfield 21, 3) := by decide +kernel
theorem dX3_pressHit_53 : decode cX3_pressHit 53 = .ok (.if_icmp .gt 159, 3) := by decide +kernel
theorem dX3_pressHit_56 : decode cX3_pressHit 56 = .ok (.aload_n 0, 1) := by decide +kernel
theorem dX3_pressHit_57 : decode cX3_pressHit 57 = .ok (.getfield 9, 3) := by decide +kernel
theorem dX3_pressHit_60 : decode cX3_pressHit 60 = .ok (.iload 9, 2) := by decide +kernel
theorem dX3_pressHit_62 : decode cX3_pressHit 62 = .ok (.iaload, 1) := by decide +kernel
theorem dX3_pressHit_63 : decode cX3_pressHit 63 = .ok (.aload_n 0, 1) := by decide +kernel
theorem dX3_pressHit_64 : decode cX3_pressHit 64 = .ok (.getfield 9, 3) := by decide +kernel
theorem dX3_pressHit_67 : decode cX3_pressHit 67 = .ok (.iload_n 2, 1) := by decide +kernel
theorem dX3_pressHit_68 : decode cX3_pressHit 68 = .ok (.iconst 1, 1) := by decide +kernel
theorem dX3_pressHit_69 : decode cX3_pressHit 69 = .ok (.iadd, 1) := by decide +kernel
theorem dX3_pressHit_70 : decode cX3_pressHit 70 = .ok (.iaload, 1) := by decide +kernel
theorem dX3_pressHit_71 : decode cX3_pressHit 71 = .ok (.isub, 1) := by decide +kernel
theorem dX3_pressHit_72 : decode cX3_pressHit 72 = .ok (.istore 10, 2) := by decide +kernel
theorem dX3_pressHit_74 : decode cX3_pressHit 74 = .ok (.aload_n 0, 1) := by decide +kernel
theorem dX3_pressHit_75 : decode cX3_pressHit 75 = .ok (.getfield 15, 3) := by decide +kernel
theorem dX3_pressHit_78 : decode cX3_pressHit 78 = .ok (.iload 9, 2) := by decide +kernel
theorem dX3_pressHit_80 : decode cX3_pressHit 80 = .ok (.iaload, 1) := by decide +kernel
theorem dX3_pressHit_81 : decode cX3_pressHit 81 = .ok (.aload_n 0, 1) := by decide +kernel
theorem dX3_pressHit_82 : decode cX3_pressHit 82 = .ok (.getfield 15, 3) := by decide +kernel
theorem dX3_pressHit_85 : decode cX3_pressHit 85 = .ok (.iload_n 2, 1) := by decide +kernel
theorem dX3_pressHit_86 : decode cX3_pressHit 86 = .ok (.iconst 1, 1) := by decide +kernel
theorem dX3_pressHit_87 : decode cX3_pressHit 87 = .ok (.iadd, 1) := by decide +kernel
theorem dX3_pressHit_88 : decode cX3_pressHit 88 = .ok (.iaload, 1) := by decide +kernel
theorem dX3_pressHit_89 : decode cX3_pressHit 89 = .ok (.isub, 1) := by decide +kernel
theorem dX3_pressHit_90 : decode cX3_pressHit 90 = .ok (.istore 11, 2) := by decide +kernel
theorem dX3_pressHit_92 : decode cX3_pressHit 92 = .ok (.iload 10, 2) := by decide +kernel
theorem dX3_pressHit_94 : decode cX3_pressHit 94 = .ok (.iload 4, 2) := by decide +kernel
theorem dX3_pressHit_96 : decode cX3_pressHit 96 = .ok (.imul, 1) := by decide +kernel
theorem dX3_pressHit_97 : decode cX3_pressHit 97 = .ok (.iload 11, 2) := by decide +kernel
theorem dX3_pressHit_99 : decode cX3_pressHit 99 = .ok (.iload 5, 2) := by decide +kernel
theorem dX3_pressHit_101 : decode cX3_pressHit 101 = .ok (.imul, 1) := by decide +kernel
theorem dX3_pressHit_102 : decode cX3_pressHit 102 = .ok (.iadd, 1) := by decide +kernel
theorem dX3_pressHit_103 : decode cX3_pressHit 103 = .ok (.istore 12, 2) := by decide +kernel
theorem dX3_pressHit_105 : decode cX3_pressHit 105 = .ok (.iload_n 3, 1) := by decide +kernel
theorem dX3_pressHit_106 : decode cX3_pressHit 106 = .ok (.iload 11, 2) := by decide +kernel
theorem dX3_pressHit_108 : decode cX3_pressHit 108 = .ok (.iload 4, 2) := by decide +kernel
theorem dX3_pressHit_110 : decode cX3_pressHit 110 = .ok (.imul, 1) := by decide +kernel
theorem dX3_pressHit_111 : decode cX3_pressHit 111 = .ok (.iload 10, 2) := by decide +kernel
theorem dX3_pressHit_113 : decode cX3_pressHit 113 = .ok (.iload 5, 2) := by decide +kernel
theorem dX3_pressHit_115 : decode cX3_pressHit 115 = .ok (.imul, 1) := by decide +kernel
theorem dX3_pressHit_116 : decode cX3_pressHit 116 = .ok (.isub, 1) := by decide +kernel
theorem dX3_pressHit_117 : decode cX3_pressHit 117 = .ok (.imul, 1) := by decide +kernel
theorem dX3_pressHit_118 : decode cX3_pressHit 118 = .ok (.istore 13, 2) := by decide +kernel
theorem dX3_pressHit_120 : decode cX3_pressHit 120 = .ok (.iload 9, 2) := by decide +kernel
theorem dX3_pressHit_122 : decode cX3_pressHit 122 = .ok (.ifCond .le 34, 3) := by decide +kernel
theorem dX3_pressHit_125 : decode cX3_pressHit 125 = .ok (.iload 8, 2) := by decide +kernel
theorem dX3_pressHit_127 : decode cX3_pressHit 127 = .ok (.iload 13, 2) := by decide +kernel
theorem dX3_pressHit_129 : decode cX3_pressHit 129 = .ok (.invokestatic 42, 3) := by decide +kernel
theorem dX3_pressHit_132 : decode cX3_pressHit 132 = .ok (.ifCond .ge 24, 3) := by decide +kernel
theorem dX3_pressHit_135 : decode cX3_pressHit 135 = .ok (.iload 7, 2) := by decide +kernel
theorem dX3_pressHit_137 : decode cX3_pressHit 137 = .ok (.iload 12, 2) := by decide +kernel
theorem dX3_pressHit_139 : decode cX3_pressHit 139 = .ok (.aload_n 1, 1) := by decide +kernel
theorem dX3_pressHit_140 : decode cX3_pressHit 140 = .ok (.getfield 55, 3) := by decide +kernel
theorem dX3_pressHit_143 : decode cX3_pressHit 143 = .ok (.ineg, 1) := by decide +kernel
theorem dX3_pressHit_144 : decode cX3_pressHit 144 = .ok (.aload_n 1, 1) := by decide +kernel
theorem dX3_pressHit_145 : decode cX3_pressHit 145 = .ok (.getfield 55, 3) := by decide +kernel
theorem dX3_pressHit_148 : decode cX3_pressHit 148 = .ok (.invokestatic 51, 3) := by decide +kernel
theorem dX3_pressHit_151 : decode cX3_pressHit 151 = .ok (.ifCond .eq 5, 3) := by decide +kernel
theorem dX3_pressHit_154 : decode cX3_pressHit 154 = .ok (.iconst 1, 1) := by decide +kernel
theorem dX3_pressHit_155 : decode cX3_pressHit 155 = .ok (.ireturn, 1) := by decide +kernel
theorem dX3_pressHit_156 : decode cX3_pressHit 156 = .ok (.iload 9, 2) := by decide +kernel
theorem dX3_pressHit_158 : decode cX3_pressHit 158 = .ok (.ifCond .le 40, 3) := by decide +kernel
theorem dX3_pressHit_161 : decode cX3_pressHit 161 = .ok (.aload_n 1, 1) := by decide +kernel
theorem dX3_pressHit_162 : decode cX3_pressHit 162 = .ok (.getfield 58, 3) := by decide +kernel
theorem dX3_pressHit_165 : decode cX3_pressHit 165 = .ok (.ifCond .le 33, 3) := by decide +kernel
theorem dX3_pressHit_168 : decode cX3_pressHit 168 = .ok (.iload 7, 2) := by decide +kernel
theorem dX3_pressHit_170 : decode cX3_pressHit 170 = .ok (.iload 12, 2) := by decide +kernel
theorem dX3_pressHit_172 : decode cX3_pressHit 172 = .ok (.iconst 0, 1) := by decide +kernel
theorem dX3_pressHit_173 : decode cX3_pressHit 173 = .ok (.iconst 0, 1) := by decide +kernel
theorem dX3_pressHit_174 : decode cX3_pressHit 174 = .ok (.invokestatic 51, 3) := by decide +kernel
theorem dX3_pressHit_177 : decode cX3_pressHit 177 = .ok (.ifCond .eq 21, 3) := by decide +kernel
theorem dX3_pressHit_180 : decode cX3_pressHit 180 = .ok (.iload 8, 2) := by decide +kernel
theorem dX3_pressHit_182 : decode cX3_pressHit 182 = .ok (.iload 13, 2) := by decide +kernel
theorem dX3_pressHit_184 : decode cX3_pressHit 184 = .ok (.iconst 1, 1) := by decide +kernel
theorem dX3_pressHit_185 : decode cX3_pressHit 185 = .ok (.aload_n 1, 1) := by decide +kernel
theorem dX3_pressHit_186 : decode cX3_pressHit 186 = .ok (.getfield 58, 3) := by decide +kernel
theorem dX3_pressHit_189 : decode cX3_pressHit 189 = .ok (.invokestatic 51, 3) := by decide +kernel
theorem dX3_pressHit_192 : decode cX3_pressHit 192 = .ok (.ifCond .eq 6, 3) := by decide +kernel
theorem dX3_pressHit_195 : decode cX3_pressHit 195 = .ok (.iconst 1, 1) := by decide +kernel
theorem dX3_pressHit_196 : decode cX3_pressHit 196 = .ok (.istore 6, 2) := by decide +kernel
theorem dX3_pressHit_198 : decode cX3_pressHit 198 = .ok (.iload 12, 2) := by decide +kernel
theorem dX3_pressHit_200 : decode cX3_pressHit 200 = .ok (.istore 7, 2) := by decide +kernel
theorem dX3_pressHit_202 : decode cX3_pressHit 202 = .ok (.iload 13, 2) := by decide +kernel
theorem dX3_pressHit_204 : decode cX3_pressHit 204 = .ok (.istore 8, 2) := by decide +kernel
theorem dX3_pressHit_206 : decode cX3_pressHit 206 = .ok (.iinc 9 1, 3) := by decide +kernel
theorem dX3_pressHit_209 : decode cX3_pressHit 209 = .ok (.goto (-162), 3) := by decide +kernel
theorem dX3_pressHit_212 : decode cX3_pressHit 212 = .ok (.iload 6, 2) := by decide +kernel
theorem dX3_pressHit_214 : decode cX3_pressHit 214 = .ok (.ifCond .eq 7, 3) := by decide +kernel
theorem dX3_pressHit_217 : decode cX3_pressHit 217 = .ok (.iconst 2, 1) := by decide +kernel
theorem dX3_pressHit_218 : decode cX3_pressHit 218 = .ok (.goto 4, 3) := by decide +kernel
theorem dX3_pressHit_221 : decode cX3_pressHit 221 = .ok (.iconst 0, 1) := by decide +kernel
theorem dX3_pressHit_222 : decode cX3_pressHit 222 = .ok (.ireturn, 1) := by decide +kernel
theorem dX3_reaches_0 : decode cX3_reaches 0 = .ok (.iload_n 0, 1) := by decide +kernel
theorem dX3_reaches_1 : decode cX3_reaches 1 = .ok (.iload_n 3, 1) := by decide +kernel
theorem dX3_reaches_2 : decode cX3_reaches 2 = .ok (.if_icmp .le 8, 3) := by decide +kernel
theorem dX3_reaches_5 : decode cX3_reaches 5 = .ok (.iload_n 1, 1) := by decide +kernel
theorem dX3_reaches_6 : decode cX3_reaches 6 = .ok (.iload_n 3, 1) := by decide +kernel
theorem dX3_reaches_7 : decode cX3_reaches 7 = .ok (.if_icmp .gt 17, 3) := by decide +kernel
theorem dX3_reaches_10 : decode cX3_reaches 10 = .ok (.iload_n 0, 1) := by decide +kernel
theorem dX3_reaches_11 : decode cX3_reaches 11 = .ok (.iload_n 2, 1) := by decide +kernel
theorem dX3_reaches_12 : decode cX3_reaches 12 = .ok (.if_icmp .ge 8, 3) := by decide +kernel
theorem dX3_reaches_15 : decode cX3_reaches 15 = .ok (.iload_n 1, 1) := by decide +kernel
theorem dX3_reaches_16 : decode cX3_reaches 16 = .ok (.iload_n 2, 1) := by decide +kernel
theorem dX3_reaches_17 : decode cX3_reaches 17 = .ok (.if_icmp .lt 7, 3) := by decide +kernel
theorem dX3_reaches_20 : decode cX3_reaches 20 = .ok (.iconst 1, 1) := by decide +kernel
theorem dX3_reaches_21 : decode cX3_reaches 21 = .ok (.goto 4, 3) := by decide +kernel
theorem dX3_reaches_24 : decode cX3_reaches 24 = .ok (.iconst 0, 1) := by decide +kernel
theorem dX3_reaches_25 : decode cX3_reaches 25 = .ok (.ireturn, 1) := by decide +kernel
theorem dX4_init_0 : decode cX4_init 0 = .ok (.aload_n 0, 1) := by decide +kernel
theorem dX4_init_1 : decode cX4_init 1 = .ok (.invokespecial 3, 3) := by decide +kernel
theorem dX4_init_4 : decode cX4_init 4 = .ok (.aload_n 0, 1) := by decide +kernel
theorem dX4_init_5 : decode cX4_init 5 = .ok (.bipush 7, 2) := by decide +kernel
theorem dX4_init_7 : decode cX4_init 7 = .ok (.newarray .int, 2) := by decide +kernel
theorem dX4_init_9 : decode cX4_init 9 = .ok (.putfield 9, 3) := by decide +kernel
theorem dX4_init_12 : decode cX4_init 12 = .ok (.aload_n 0, 1) := by decide +kernel
theorem dX4_init_13 : decode cX4_init 13 = .ok (.bipush 6, 2) := by decide +kernel
theorem dX4_init_15 : decode cX4_init 15 = .ok (.newarray .int, 2) := by decide +kernel
theorem dX4_init_17 : decode cX4_init 17 = .ok (.putfield 15, 3) := by decide +kernel
theorem dX4_init_20 : decode cX4_init 20 = .ok (.aload_n 0, 1) := by decide +kernel
theorem dX4_init_21 : decode cX4_init 21 = .ok (.bipush 6, 2) := by decide +kernel
theorem dX4_init_23 : decode cX4_init 23 = .ok (.newarray .int, 2) := by decide +kernel
theorem dX4_init_25 : decode cX4_init 25 = .ok (.putfield 18, 3) := by decide +kernel
theorem dX4_init_28 : decode cX4_init 28 = .ok (.aload_n 0, 1) := by decide +kernel
theorem dX4_init_29 : decode cX4_init 29 = .ok (.iconst 3, 1) := by decide +kernel
theorem dX4_init_30 : decode cX4_init 30 = .ok (.newarray .int, 2) := by decide +kernel
theorem dX4_init_32 : decode cX4_init 32 = .ok (.dup, 1) := by decide +kernel
theorem dX4_init_33 : decode cX4_init 33 = .ok (.iconst 0, 1) := by decide +kernel
theorem dX4_init_34 : decode cX4_init 34 = .ok (.iconst 3, 1) := by decide +kernel
theorem dX4_init_35 : decode cX4_init 35 = .ok (.iastore, 1) := by decide +kernel
theorem dX4_init_36 : decode cX4_init 36 = .ok (.dup, 1) := by decide +kernel
theorem dX4_init_37 : decode cX4_init 37 = .ok (.iconst 1, 1) := by decide +kernel
theorem dX4_init_38 : decode cX4_init 38 = .ok (.iconst 5, 1) := by decide +kernel
theorem dX4_init_39 : decode cX4_init 39 = .ok (.iastore, 1) := by decide +kernel
theorem dX4_init_40 : decode cX4_init 40 = .ok (.dup, 1) := by decide +kernel
theorem dX4_init_41 : decode cX4_init 41 = .ok (.iconst 2, 1) := by decide +kernel
theorem dX4_init_42 : decode cX4_init 42 = .ok (.bipush 8, 2) := by decide +kernel
theorem dX4_init_44 : decode cX4_init 44 = .ok (.iastore, 1) := by decide +kernel
theorem dX4_init_45 : decode cX4_init 45 = .ok (.putfield 21, 3) := by decide +kernel
theorem dX4_init_48 : decode cX4_init 48 = .ok (.aload_n 0, 1) := by decide +kernel
theorem dX4_init_49 : decode cX4_init 49 = .ok (.getfield 9, 3) := by decide +kernel
theorem dX4_init_52 : decode cX4_init 52 = .ok (.iconst 0, 1) := by decide +kernel
theorem dX4_init_53 : decode cX4_init 53 = .ok (.iconst 5, 1) := by decide +kernel
theorem dX4_init_54 : decode cX4_init 54 = .ok (.iastore, 1) := by decide +kernel
theorem dX4_init_55 : decode cX4_init 55 = .ok (.aload_n 0, 1) := by decide +kernel
theorem dX4_init_56 : decode cX4_init 56 = .ok (.iconst 0, 1) := by decide +kernel
theorem dX4_init_57 : decode cX4_init 57 = .ok (.putfield 24, 3) := by decide +kernel
theorem dX4_init_60 : decode cX4_init 60 = .ok (.aload_n 0, 1) := by decide +kernel
theorem dX4_init_61 : decode cX4_init 61 = .ok (.iconst 0, 1) := by decide +kernel
theorem dX4_init_62 : decode cX4_init 62 = .ok (.putfield 28, 3) := by decide +kernel
theorem dX4_init_65 : decode cX4_init 65 = .ok (.aload_n 0, 1) := by decide +kernel
theorem dX4_init_66 : decode cX4_init 66 = .ok (.iconst 2, 1) := by decide +kernel
theorem dX4_init_67 : decode cX4_init 67 = .ok (.putfield 31, 3) := by decide +kernel
theorem dX4_init_70 : decode cX4_init 70 = .ok (.aload_n 0, 1) := by decide +kernel
theorem dX4_init_71 : decode cX4_init 71 = .ok (.bipush 8, 2) := by decide +kernel
theorem dX4_init_73 : decode cX4_init 73 = .ok (.putfield 34, 3) := by decide +kernel
theorem dX4_init_76 : decode cX4_init 76 = .ok (.return_, 1) := by decide +kernel
theorem dX4_copyFrom_0 : decode cX4_copyFrom 0 = .ok (.aload_n 1, 1) := by decide +kernel
theorem dX4_copyFrom_1 : decode cX4_copyFrom 1 = .ok (.getfield 9, 3) := by decide +kernel
theorem dX4_copyFrom_4 : decode cX4_copyFrom 4 = .ok (.iconst 0, 1) := by decide +kernel
theorem dX4_copyFrom_5 : decode cX4_copyFrom 5 = .ok (.aload_n 0, 1) := by decide +kernel
theorem dX4_copyFrom_6 : decode cX4_copyFrom 6 = .ok (.getfield 9, 3) := by decide +kernel
theorem dX4_copyFrom_9 : decode cX4_copyFrom 9 = .ok (.iconst 0, 1) := by decide +kernel
theorem dX4_copyFrom_10 : decode cX4_copyFrom 10 = .ok (.bipush 7, 2) := by decide +kernel
theorem dX4_copyFrom_12 : decode cX4_copyFrom 12 = .ok (.invokestatic 37, 3) := by decide +kernel
theorem dX4_copyFrom_15 : decode cX4_copyFrom 15 = .ok (.aload_n 1, 1) := by decide +kernel
theorem dX4_copyFrom_16 : decode cX4_copyFrom 16 = .ok (.getfield 15, 3) := by decide +kernel
theorem dX4_copyFrom_19 : decode cX4_copyFrom 19 = .ok (.iconst 0, 1) := by decide +kernel
theorem dX4_copyFrom_20 : decode cX4_copyFrom 20 = .ok (.aload_n 0, 1) := by decide +kernel
theorem dX4_copyFrom_21 : decode cX4_copyFrom 21 = .ok (.getfield 15, 3) := by decide +kernel
theorem dX4_copyFrom_24 : decode cX4_copyFrom 24 = .ok (.iconst 0, 1) := by decide +kernel
theorem dX4_copyFrom_25 : decode cX4_copyFrom 25 = .ok (.bipush 6, 2) := by decide +kernel
theorem dX4_copyFrom_27 : decode cX4_copyFrom 27 = .ok (.invokestatic 37, 3) := by decide +kernel
theorem dX4_copyFrom_30 : decode cX4_copyFrom 30 = .ok (.aload_n 1, 1) := by decide +kernel
theorem dX4_copyFrom_31 : decode cX4_copyFrom 31 = .ok (.getfield 18, 3) := by decide +kernel
theorem dX4_copyFrom_34 : decode cX4_copyFrom 34 = .ok (.iconst 0, 1) := by decide +kernel
theorem dX4_copyFrom_35 : decode cX4_copyFrom 35 = .ok (.aload_n 0, 1) := by decide +kernel
theorem dX4_copyFrom_36 : decode cX4_copyFrom 36 = .ok (.getfield 18, 3) := by decide +kernel
theorem dX4_copyFrom_39 : decode cX4_copyFrom 39 = .ok (.iconst 0, 1) := by decide +kernel
theorem dX4_copyFrom_40 : decode cX4_copyFrom 40 = .ok (.bipush 6, 2) := by decide +kernel
theorem dX4_copyFrom_42 : decode cX4_copyFrom 42 = .ok (.invokestatic 37, 3) := by decide +kernel
theorem dX4_copyFrom_45 : decode cX4_copyFrom 45 = .ok (.aload_n 1, 1) := by decide +kernel
theorem dX4_copyFrom_46 : decode cX4_copyFrom 46 = .ok (.getfield 21, 3) := by decide +kernel
theorem dX4_copyFrom_49 : decode cX4_copyFrom 49 = .ok (.iconst 0, 1) := by decide +kernel
theorem dX4_copyFrom_50 : decode cX4_copyFrom 50 = .ok (.aload_n 0, 1) := by decide +kernel
theorem dX4_copyFrom_51 : decode cX4_copyFrom 51 = .ok (.getfield 21, 3) := by decide +kernel
theorem dX4_copyFrom_54 : decode cX4_copyFrom 54 = .ok (.iconst 0, 1) := by decide +kernel
theorem dX4_copyFrom_55 : decode cX4_copyFrom 55 = .ok (.iconst 3, 1) := by decide +kernel
theorem dX4_copyFrom_56 : decode cX4_copyFrom 56 = .ok (.invokestatic 37, 3) := by decide +kernel
theorem dX4_copyFrom_59 : decode cX4_copyFrom 59 = .ok (.aload_n 0, 1) := by decide +kernel
theorem dX4_copyFrom_60 : decode cX4_copyFrom 60 = .ok (.aload_n 1, 1) := by decide +kernel
theorem dX4_copyFrom_61 : decode cX4_copyFrom 61 = .ok (.getfield 24, 3) := by decide +kernel
theorem dX4_copyFrom_64 : decode cX4_copyFrom 64 = .ok (.putfield 24, 3) := by decide +kernel
theorem dX4_copyFrom_67 : decode cX4_copyFrom 67 = .ok (.aload_n 0, 1) := by decide +kernel
theorem dX4_copyFrom_68 : decode cX4_copyFrom 68 = .ok (.aload_n 1, 1) := by decide +kernel
theorem dX4_copyFrom_69 : decode cX4_copyFrom 69 = .ok (.getfield 28, 3) := by decide +kernel
theorem dX4_copyFrom_72 : decode cX4_copyFrom 72 = .ok (.putfield 28, 3) := by decide +kernel
theorem dX4_copyFrom_75 : decode cX4_copyFrom 75 = .ok (.aload_n 0, 1) := by decide +kernel
theorem dX4_copyFrom_76 : decode cX4_copyFrom 76 = .ok (.aload_n 1, 1) := by decide +kernel
theorem dX4_copyFrom_77 : decode cX4_copyFrom 77 = .ok (.getfield 31, 3) := by decide +kernel
theorem dX4_copyFrom_80 : decode cX4_copyFrom 80 = .ok (.putfield 31, 3) := by decide +kernel
theorem dX4_copyFrom_83 : decode cX4_copyFrom 83 = .ok (.aload_n 0, 1) := by decide +kernel
theorem dX4_copyFrom_84 : decode cX4_copyFrom 84 = .ok (.aload_n 1, 1) := by decide +kernel
theorem dX4_copyFrom_85 : decode cX4_copyFrom 85 = .ok (.getfield 34, 3) := by decide +kernel
theorem dX4_copyFrom_88 : decode cX4_copyFrom 88 = .ok (.putfield 34, 3) := by decide +kernel
theorem dX4_copyFrom_91 : decode cX4_copyFrom 91 = .ok (.return_, 1) := by decide +kernel
theorem dX4_hasBend_0 : decode cX4_hasBend 0 = .ok (.iload_n 1, 1) := by decide +kernel
theorem dX4_hasBend_1 : decode cX4_hasBend 1 = .ok (.ifCond .lt 15, 3) := by decide +kernel
theorem dX4_hasBend_4 : decode cX4_hasBend 4 = .ok (.iload_n 1, 1) := by decide +kernel
theorem dX4_hasBend_5 : decode cX4_hasBend 5 = .ok (.aload_n 0, 1) := by decide +kernel
theorem dX4_hasBend_6 : decode cX4_hasBend 6 = .ok (.getfield 24, 3) := by decide +kernel
theorem dX4_hasBend_9 : decode cX4_hasBend 9 = .ok (.if_icmp .ge 7, 3) := by decide +kernel
theorem dX4_hasBend_12 : decode cX4_hasBend 12 = .ok (.iconst 1, 1) := by decide +kernel
theorem dX4_hasBend_13 : decode cX4_hasBend 13 = .ok (.goto 4, 3) := by decide +kernel
theorem dX4_hasBend_16 : decode cX4_hasBend 16 = .ok (.iconst 0, 1) := by decide +kernel
theorem dX4_hasBend_17 : decode cX4_hasBend 17 = .ok (.ireturn, 1) := by decide +kernel
theorem dX4_isMade_0 : decode cX4_isMade 0 = .ok (.aload_n 0, 1) := by decide +kernel
theorem dX4_isMade_1 : decode cX4_isMade 1 = .ok (.getfield 28, 3) := by decide +kernel
theorem dX4_isMade_4 : decode cX4_isMade 4 = .ok (.iload_n 1, 1) := by decide +kernel
theorem dX4_isMade_5 : decode cX4_isMade 5 = .ok (.ishr, 1) := by decide +kernel
theorem dX4_isMade_6 : decode cX4_isMade 6 = .ok (.iconst 1, 1) := by decide +kernel
theorem dX4_isMade_7 : decode cX4_isMade 7 = .ok (.iand, 1) := by decide +kernel
theorem dX4_isMade_8 : decode cX4_isMade 8 = .ok (.iconst 1, 1) := by decide +kernel
theorem dX4_isMade_9 : decode cX4_isMade 9 = .ok (.if_icmp .ne 7, 3) := by decide +kernel
theorem dX4_isMade_12 : decode cX4_isMade 12 = .ok (.iconst 1, 1) := by decide +kernel
theorem dX4_isMade_13 : decode cX4_isMade 13 = .ok (.goto 4, 3) := by decide +kernel
theorem dX4_isMade_16 : decode cX4_isMade 16 = .ok (.iconst 0, 1) := by decide +kernel
theorem dX4_isMade_17 : decode cX4_isMade 17 = .ok (.ireturn, 1) := by decide +kernel
theorem dX4_allBends_0 : decode cX4_allBends 0 = .ok (.iconst 1, 1) := by decide +kernel
theorem dX4_allBends_1 : decode cX4_allBends 1 = .ok (.aload_n 0, 1) := by decide +kernel
theorem dX4_allBends_2 : decode cX4_allBends 2 = .ok (.getfield 24, 3) := by decide +kernel
theorem dX4_allBends_5 : decode cX4_allBends 5 = .ok (.ishl, 1) := by decide +kernel
theorem dX4_allBends_6 : decode cX4_allBends 6 = .ok (.iconst 1, 1) := by decide +kernel
theorem dX4_allBends_7 : decode cX4_allBends 7 = .ok (.isub, 1) := by decide +kernel
theorem dX4_allBends_8 : decode cX4_allBends 8 = .ok (.ireturn, 1) := by decide +kernel
theorem dX4_allLengths_0 : decode cX4_allLengths 0 = .ok (.iconst 0, 1) := by decide +kernel
theorem dX4_allLengths_1 : decode cX4_allLengths 1 = .ok (.istore_n 1, 1) := by decide +kernel
theorem dX4_allLengths_2 : decode cX4_allLengths 2 = .ok (.iconst 0, 1) := by decide +kernel
theorem dX4_allLengths_3 : decode cX4_allLengths 3 = .ok (.istore_n 2, 1) := by decide +kernel
theorem dX4_allLengths_4 : decode cX4_allLengths 4 = .ok (.iload_n 2, 1) := by decide +kernel
theorem dX4_allLengths_5 : decode cX4_allLengths 5 = .ok (.aload_n 0, 1) := by decide +kernel
theorem dX4_allLengths_6 : decode cX4_allLengths 6 = .ok (.getfield 24, 3) := by decide +kernel
theorem dX4_allLengths_9 : decode cX4_allLengths 9 = .ok (.if_icmp .gt 18, 3) := by decide +kernel
theorem dX4_allLengths_12 : decode cX4_allLengths 12 = .ok (.iload_n 1, 1) := by decide +kernel
theorem dX4_allLengths_13 : decode cX4_allLengths 13 = .ok (.aload_n 0, 1) := by decide +kernel
theorem dX4_allLengths_14 : decode cX4_allLengths 14 = .ok (.getfield 9, 3) := by decide +kernel
theorem dX4_allLengths_17 : decode cX4_allLengths 17 = .ok (.iload_n 2, 1) := by decide +kernel
theorem dX4_allLengths_18 : decode cX4_allLengths 18 = .ok (.iaload, 1) := by decide +kernel
theorem dX4_allLengths_19 : decode cX4_allLengths 19 = .ok (.iadd, 1) := by decide +kernel
theorem dX4_allLengths_20 : decode cX4_allLengths 20 = .ok (.istore_n 1, 1) := by decide +kernel
theorem dX4_allLengths_21 : decode cX4_allLengths 21 = .ok (.iinc 2 1, 3) := by decide +kernel
theorem dX4_allLengths_24 : decode cX4_allLengths 24 = .ok (.goto (-20), 3) := by decide +kernel
theorem dX4_allLengths_27 : decode cX4_allLengths 27 = .ok (.iload_n 1, 1) := by decide +kernel
theorem dX4_allLengths_28 : decode cX4_allLengths 28 = .ok (.ireturn, 1) := by decide +kernel
set_option maxRecDepth 20000 in
theorem ggX4_lengthLess_X4_allLengths : GoodIn wsX4_lengthLess wsX4_allLengths := goodIn_r _ [8, 1, 9, 10, 11, 12, 13, 14, 15, 16, 17] (by decide +kernel) (by decide +kernel)
set_option maxRecDepth 20000 in
theorem gX4_lengthLess_X4_allLengths : GoodIn wsX4_lengthLess (wsV RX4 43 RX4 yX4_allLengths wsX4_allLengths) := goodIn_app (goodIn_of _ (by decide +kernel)) ggX4_lengthLess_X4_allLengths
theorem dX4_lengthLess_0 : decode cX4_lengthLess 0 = .ok (.bipush 10, 2) := by decide +kernel
theorem dX4_lengthLess_2 : decode cX4_lengthLess 2 = .ok (.aload_n 0, 1) := by decide +kernel
theorem dX4_lengthLess_3 : decode cX4_lengthLess 3 = .ok (.invokevirtual 43, 3) := by decide +kernel
theorem dX4_lengthLess_6 : decode cX4_lengthLess 6 = .ok (.imul, 1) := by decide +kernel
theorem dX4_lengthLess_7 : decode cX4_lengthLess 7 = .ok (.istore_n 2, 1) := by decide +kernel
theorem dX4_lengthLess_8 : decode cX4_lengthLess 8 = .ok (.iconst 0, 1) := by decide +kernel
theorem dX4_lengthLess_9 : decode cX4_lengthLess 9 = .ok (.istore_n 3, 1) := by decide +kernel
theorem dX4_lengthLess_10 : decode cX4_lengthLess 10 = .ok (.iload_n 3, 1) := by decide +kernel
theorem dX4_lengthLess_11 : decode cX4_lengthLess 11 = .ok (.aload_n 0, 1) := by decide +kernel
theorem dX4_lengthLess_12 : decode cX4_lengthLess 12 = .ok (.getfield 24, 3) := by decide +kernel
theorem dX4_lengthLess_15 : decode cX4_lengthLess 15 = .ok (.if_icmp .ge 32, 3) := by decide +kernel
theorem dX4_lengthLess_18 : decode cX4_lengthLess 18 = .ok (.iload_n 1, 1) := by decide +kernel
theorem dX4_lengthLess_19 : decode cX4_lengthLess 19 = .ok (.iload_n 3, 1) := by decide +kernel
theorem dX4_lengthLess_20 : decode cX4_lengthLess 20 = .ok (.ishr, 1) := by decide +kernel
theorem dX4_lengthLess_21 : decode cX4_lengthLess 21 = .ok (.iconst 1, 1) := by decide +kernel
theorem dX4_lengthLess_22 : decode cX4_lengthLess 22 = .ok (.iand, 1) := by decide +kernel
theorem dX4_lengthLess_23 : decode cX4_lengthLess 23 = .ok (.iconst 1, 1) := by decide +kernel
theorem dX4_lengthLess_24 : decode cX4_lengthLess 24 = .ok (.if_icmp .ne 17, 3) := by decide +kernel
theorem dX4_lengthLess_27 : decode cX4_lengthLess 27 = .ok (.iload_n 2, 1) := by decide +kernel
theorem dX4_lengthLess_28 : decode cX4_lengthLess 28 = .ok (.aload_n 0, 1) := by decide +kernel
theorem dX4_lengthLess_29 : decode cX4_lengthLess 29 = .ok (.getfield 21, 3) := by decide +kernel
theorem dX4_lengthLess_32 : decode cX4_lengthLess 32 = .ok (.aload_n 0, 1) := by decide +kernel
theorem dX4_lengthLess_33 : decode cX4_lengthLess 33 = .ok (.getfield 18, 3) := by decide +kernel
theorem dX4_lengthLess_36 : decode cX4_lengthLess 36 = .ok (.iload_n 3, 1) := by decide +kernel
theorem dX4_lengthLess_37 : decode cX4_lengthLess 37 = .ok (.iaload, 1) := by decide +kernel
theorem dX4_lengthLess_38 : decode cX4_lengthLess 38 = .ok (.iaload, 1) := by decide +kernel
theorem dX4_lengthLess_39 : decode cX4_lengthLess 39 = .ok (.isub, 1) := by decide +kernel
theorem dX4_lengthLess_40 : decode cX4_lengthLess 40 = .ok (.istore_n 2, 1) := by decide +kernel
theorem dX4_lengthLess_41 : decode cX4_lengthLess 41 = .ok (.iinc 3 1, 3) := by decide +kernel
theorem dX4_lengthLess_44 : decode cX4_lengthLess 44 = .ok (.goto (-34), 3) := by decide +kernel
theorem dX4_lengthLess_47 : decode cX4_lengthLess 47 = .ok (.iload_n 2, 1) := by decide +kernel
theorem dX4_lengthLess_48 : decode cX4_lengthLess 48 = .ok (.ireturn, 1) := by decide +kernel
theorem dX5_init_0 : decode cX5_init 0 = .ok (.aload_n 0, 1) := by decide +kernel
theorem dX5_init_1 : decode cX5_init 1 = .ok (.invokespecial 3, 3) := by decide +kernel
theorem dX5_init_4 : decode cX5_init 4 = .ok (.aload_n 0, 1) := by decide +kernel
theorem dX5_init_5 : decode cX5_init 5 = .ok (.aload_n 1, 1) := by decide +kernel
theorem dX5_init_6 : decode cX5_init 6 = .ok (.putfield 9, 3) := by decide +kernel
theorem dX5_init_9 : decode cX5_init 9 = .ok (.aload_n 0, 1) := by decide +kernel
theorem dX5_init_10 : decode cX5_init 10 = .ok (.aload_n 2, 1) := by decide +kernel
theorem dX5_init_11 : decode cX5_init 11 = .ok (.putfield 15, 3) := by decide +kernel
theorem dX5_init_14 : decode cX5_init 14 = .ok (.return_, 1) := by decide +kernel
set_option maxRecDepth 20000 in
theorem ggX5_newStrip_X6_isWithin : GoodIn wsX5_newStrip wsX6_isWithin := goodIn_r _ [8] (by decide +kernel) (by decide +kernel)
set_option maxRecDepth 20000 in
theorem gX5_newStrip_X6_isWithin_n19 : GoodIn wsX5_newStrip (wsX6_isWithin) := ggX5_newStrip_X6_isWithin
set_option maxRecDepth 20000 in
theorem ggX5_newStrip_X1_forget : GoodIn wsX5_newStrip wsX1_forget := goodIn_r _ [13, 14, 15, 16, 17, 18, 19, 20, 31, 32, 33, 34, 35, 36, 37, 38, 39, 40, 41, 42] (by decide +kernel) (by decide +kernel)
set_option maxRecDepth 20000 in
theorem gX5_newStrip_X1_forget : GoodIn wsX5_newStrip (wsV RX5 36 RX1 yX1_forget wsX1_forget) := goodIn_app (goodIn_of _ (by decide +kernel)) ggX5_newStrip_X1_forget
theorem dX5_newStrip_0 : decode cX5_newStrip 0 = .ok (.iload_n 1, 1) := by decide +kernel
theorem dX5_newStrip_1 : decode cX5_newStrip 1 = .ok (.iconst 1, 1) := by decide +kernel
theorem dX5_newStrip_2 : decode cX5_newStrip 2 = .ok (.bipush 20, 2) := by decide +kernel
theorem dX5_newStrip_4 : decode cX5_newStrip 4 = .ok (.invokestatic 19, 3) := by decide +kernel
theorem dX5_newStrip_7 : decode cX5_newStrip 7 = .ok (.ifCond .ne 7, 3) := by decide +kernel
theorem dX5_newStrip_10 : decode cX5_newStrip 10 = .ok (.sipush (-1001), 3) := by decide +kernel
theorem dX5_newStrip_13 : decode cX5_newStrip 13 = .ok (.ireturn, 1) := by decide +kernel
theorem dX5_newStrip_14 : decode cX5_newStrip 14 = .ok (.aload_n 0, 1) := by decide +kernel
theorem dX5_newStrip_15 : decode cX5_newStrip 15 = .ok (.getfield 9, 3) := by decide +kernel
theorem dX5_newStrip_18 : decode cX5_newStrip 18 = .ok (.getfield 23, 3) := by decide +kernel
theorem dX5_newStrip_21 : decode cX5_newStrip 21 = .ok (.iconst 1, 1) := by decide +kernel
theorem dX5_newStrip_22 : decode cX5_newStrip 22 = .ok (.iadd, 1) := by decide +kernel
theorem dX5_newStrip_23 : decode cX5_newStrip 23 = .ok (.istore_n 2, 1) := by decide +kernel
theorem dX5_newStrip_24 : decode cX5_newStrip 24 = .ok (.aload_n 0, 1) := by decide +kernel
theorem dX5_newStrip_25 : decode cX5_newStrip 25 = .ok (.getfield 9, 3) := by decide +kernel
theorem dX5_newStrip_28 : decode cX5_newStrip 28 = .ok (.getfield 29, 3) := by decide +kernel
theorem dX5_newStrip_31 : decode cX5_newStrip 31 = .ok (.iconst 0, 1) := by decide +kernel
theorem dX5_newStrip_32 : decode cX5_newStrip 32 = .ok (.iload_n 1, 1) := by decide +kernel
theorem dX5_newStrip_33 : decode cX5_newStrip 33 = .ok (.iastore, 1) := by decide +kernel
theorem dX5_newStrip_34 : decode cX5_newStrip 34 = .ok (.aload_n 0, 1) := by decide +kernel
theorem dX5_newStrip_35 : decode cX5_newStrip 35 = .ok (.getfield 9, 3) := by decide +kernel
theorem dX5_newStrip_38 : decode cX5_newStrip 38 = .ok (.iconst 0, 1) := by decide +kernel
theorem dX5_newStrip_39 : decode cX5_newStrip 39 = .ok (.putfield 23, 3) := by decide +kernel
theorem dX5_newStrip_42 : decode cX5_newStrip 42 = .ok (.aload_n 0, 1) := by decide +kernel
theorem dX5_newStrip_43 : decode cX5_newStrip 43 = .ok (.getfield 9, 3) := by decide +kernel
theorem dX5_newStrip_46 : decode cX5_newStrip 46 = .ok (.iconst 0, 1) := by decide +kernel
theorem dX5_newStrip_47 : decode cX5_newStrip 47 = .ok (.putfield 33, 3) := by decide +kernel
theorem dX5_newStrip_50 : decode cX5_newStrip 50 = .ok (.aload_n 0, 1) := by decide +kernel
theorem dX5_newStrip_51 : decode cX5_newStrip 51 = .ok (.getfield 15, 3) := by decide +kernel
theorem dX5_newStrip_54 : decode cX5_newStrip 54 = .ok (.invokevirtual 36, 3) := by decide +kernel
theorem dX5_newStrip_57 : decode cX5_newStrip 57 = .ok (.iload_n 2, 1) := by decide +kernel
theorem dX5_newStrip_58 : decode cX5_newStrip 58 = .ok (.ireturn, 1) := by decide +kernel
set_option maxRecDepth 20000 in
theorem ggX5_addBend_X6_isWithin : GoodIn wsX5_addBend wsX6_isWithin := goodIn_r _ [9] (by decide +kernel) (by decide +kernel)
set_option maxRecDepth 20000 in
theorem gX5_addBend_X6_isWithin_n19 : GoodIn wsX5_addBend (wsX6_isWithin) := ggX5_addBend_X6_isWithin
set_option maxRecDepth 20000 in
theorem ggX5_addBend_X1_forget : GoodIn wsX5_addBend wsX1_forget := goodIn_r _ [14, 15, 16, 17, 18, 19, 20, 21, 32, 33, 34, 35, 36, 37, 38, 39, 40, 41, 42, 43] (by decide +kernel) (by decide +kernel)
set_option maxRecDepth 20000 in
theorem gX5_addBend_X1_forget : GoodIn wsX5_addBend (wsV RX5 36 RX1 yX1_forget wsX1_forget) := goodIn_app (goodIn_of _ (by decide +kernel)) ggX5_addBend_X1_forget
theorem dX5_addBend_0 : decode cX5_addBend 0 = .ok (.iload_n 2, 1) := by decide +kernel
theorem dX5_addBend_1 : decode cX5_addBend 1 = .ok (.iconst 1, 1) := by decide +kernel
theorem dX5_addBend_2 : decode cX5_addBend 2 = .ok (.if_icmp .eq 8, 3) := by decide +kernel
theorem dX5_addBend_5 : decode cX5_addBend 5 = .ok (.iload_n 2, 1) := by decide +kernel
theorem dX5_addBend_6 : decode cX5_addBend 6 = .ok (.iconst (-1), 1) := by decide +kernel
theorem dX5_addBend_7 : decode cX5_addBend 7 = .ok (.if_icmp .ne 7, 3) := by decide +kernel
theorem dX5_addBend_10 : decode cX5_addBend 10 = .ok (.iconst 1, 1) := by decide +kernel
theorem dX5_addBend_11 : decode cX5_addBend 11 = .ok (.goto 4, 3) := by decide +kernel
theorem dX5_addBend_14 : decode cX5_addBend 14 = .ok (.iconst 0, 1) := by decide +kernel
theorem dX5_addBend_15 : decode cX5_addBend 15 = .ok (.istore 4, 2) := by decide +kernel
theorem dX5_addBend_17 : decode cX5_addBend 17 = .ok (.iload_n 1, 1) := by decide +kernel
theorem dX5_addBend_18 : decode cX5_addBend 18 = .ok (.iconst 1, 1) := by decide +kernel
theorem dX5_addBend_19 : decode cX5_addBend 19 = .ok (.bipush 20, 2) := by decide +kernel
theorem dX5_addBend_21 : decode cX5_addBend 21 = .ok (.invokestatic 19, 3) := by decide +kernel
theorem dX5_addBend_24 : decode cX5_addBend 24 = .ok (.ifCond .eq 17, 3) := by decide +kernel
theorem dX5_addBend_27 : decode cX5_addBend 27 = .ok (.iload 4, 2) := by decide +kernel
theorem dX5_addBend_29 : decode cX5_addBend 29 = .ok (.ifCond .eq 12, 3) := by decide +kernel
theorem dX5_addBend_32 : decode cX5_addBend 32 = .ok (.iload_n 3, 1) := by decide +kernel
theorem dX5_addBend_33 : decode cX5_addBend 33 = .ok (.iconst 0, 1) := by decide +kernel
theorem dX5_addBend_34 : decode cX5_addBend 34 = .ok (.iconst 2, 1) := by decide +kernel
theorem dX5_addBend_35 : decode cX5_addBend 35 = .ok (.invokestatic 19, 3) := by decide +kernel
theorem dX5_addBend_38 : decode cX5_addBend 38 = .ok (.ifCond .ne 7, 3) := by decide +kernel
theorem dX5_addBend_41 : decode cX5_addBend 41 = .ok (.sipush (-1001), 3) := by decide +kernel
theorem dX5_addBend_44 : decode cX5_addBend 44 = .ok (.ireturn, 1) := by decide +kernel
theorem dX5_addBend_45 : decode cX5_addBend 45 = .ok (.aload_n 0, 1) := by decide +kernel
theorem dX5_addBend_46 : decode cX5_addBend 46 = .ok (.getfield 9, 3) := by decide +kernel
theorem dX5_addBend_49 : decode cX5_addBend 49 = .ok (.getfield 23, 3) := by decide +kernel
theorem dX5_addBend_52 : decode cX5_addBend 52 = .ok (.istore 5, 2) := by decide +kernel
theorem dX5_addBend_54 : decode cX5_addBend 54 = .ok (.iload 5, 2) := by decide +kernel
theorem dX5_addBend_56 : decode cX5_addBend 56 = .ok (.bipush 6, 2) := by decide +kernel
theorem dX5_addBend_58 : decode cX5_addBend 58 = .ok (.if_icmp .lt 7, 3) := by decide +kernel
theorem dX5_addBend_61 : decode cX5_addBend 61 = .ok (.sipush (-1003), 3) := by decide +kernel
theorem dX5_addBend_64 : decode cX5_addBend 64 = .ok (.ireturn, 1) := by decide +kernel
theorem dX5_addBend_65 : decode cX5_addBend 65 = .ok (.aload_n 0, 1) := by decide +kernel
theorem dX5_addBend_66 : decode cX5_addBend 66 = .ok (.getfield 9, 3) := by decide +kernel
theorem dX5_addBend_69 : decode cX5_addBend 69 = .ok (.getfield 41, 3) := by decide +kernel
theorem dX5_addBend_72 : decode cX5_addBend 72 = .ok (.iload 5, 2) := by decide +kernel
theorem dX5_addBend_74 : decode cX5_addBend 74 = .ok (.iload_n 2, 1) := by decide +kernel
theorem dX5_addBend_75 : decode cX5_addBend 75 = .ok (.iastore, 1) := by decide +kernel
theorem dX5_addBend_76 : decode cX5_addBend 76 = .ok (.aload_n 0, 1) := by decide +kernel
theorem dX5_addBend_77 : decode cX5_addBend 77 = .ok (.getfield 9, 3) := by decide +kernel
theorem dX5_addBend_80 : decode cX5_addBend 80 = .ok (.getfield 44, 3) := by decide +kernel
theorem dX5_addBend_83 : decode cX5_addBend 83 = .ok (.iload 5, 2) := by decide +kernel
theorem dX5_addBend_85 : decode cX5_addBend 85 = .ok (.iload_n 3, 1) := by decide +kernel
theorem dX5_addBend_86 : decode cX5_addBend 86 = .ok (.iastore, 1) := by decide +kernel
theorem dX5_addBend_87 : decode cX5_addBend 87 = .ok (.aload_n 0, 1) := by decide +kernel
theorem dX5_addBend_88 : decode cX5_addBend 88 = .ok (.getfield 9, 3) := by decide +kernel
theorem dX5_addBend_91 : decode cX5_addBend 91 = .ok (.getfield 29, 3) := by decide +kernel
theorem dX5_addBend_94 : decode cX5_addBend 94 = .ok (.iload 5, 2) := by decide +kernel
theorem dX5_addBend_96 : decode cX5_addBend 96 = .ok (.iconst 1, 1) := by decide +kernel
theorem dX5_addBend_97 : decode cX5_addBend 97 = .ok (.iadd, 1) := by decide +kernel
theorem dX5_addBend_98 : decode cX5_addBend 98 = .ok (.iload_n 1, 1) := by decide +kernel
theorem dX5_addBend_99 : decode cX5_addBend 99 = .ok (.iastore, 1) := by decide +kernel
theorem dX5_addBend_100 : decode cX5_addBend 100 = .ok (.aload_n 0, 1) := by decide +kernel
theorem dX5_addBend_101 : decode cX5_addBend 101 = .ok (.getfield 9, 3) := by decide +kernel
theorem dX5_addBend_104 : decode cX5_addBend 104 = .ok (.iload 5, 2) := by decide +kernel
theorem dX5_addBend_106 : decode cX5_addBend 106 = .ok (.iconst 1, 1) := by decide +kernel
theorem dX5_addBend_107 : decode cX5_addBend 107 = .ok (.iadd, 1) := by decide +kernel
theorem dX5_addBend_108 : decode cX5_addBend 108 = .ok (.putfield 23, 3) := by decide +kernel
theorem dX5_addBend_111 : decode cX5_addBend 111 = .ok (.aload_n 0, 1) := by decide +kernel
theorem dX5_addBend_112 : decode cX5_addBend 112 = .ok (.getfield 15, 3) := by decide +kernel
theorem dX5_addBend_115 : decode cX5_addBend 115 = .ok (.invokevirtual 36, 3) := by decide +kernel
theorem dX5_addBend_118 : decode cX5_addBend 118 = .ok (.iload 5, 2) := by decide +kernel
theorem dX5_addBend_120 : decode cX5_addBend 120 = .ok (.ireturn, 1) := by decide +kernel
set_option maxRecDepth 20000 in
theorem ggX5_setPress_X6_isWithin : GoodIn wsX5_setPress wsX6_isWithin := goodIn_r _ [7] (by decide +kernel) (by decide +kernel)
set_option maxRecDepth 20000 in
theorem gX5_setPress_X6_isWithin_n19 : GoodIn wsX5_setPress (wsX6_isWithin) := ggX5_setPress_X6_isWithin
set_option maxRecDepth 20000 in
theorem ggX5_setPress_X1_forget : GoodIn wsX5_setPress wsX1_forget := goodIn_r _ [12, 13, 14, 15, 16, 17, 18, 19, 30, 31, 32, 33, 34, 35, 36, 37, 38, 39, 40, 41] (by decide +kernel) (by decide +kernel)
set_option maxRecDepth 20000 in
theorem gX5_setPress_X1_forget : GoodIn wsX5_setPress (wsV RX5 36 RX1 yX1_forget wsX1_forget) := goodIn_app (goodIn_of _ (by decide +kernel)) ggX5_setPress_X1_forget
theorem dX5_setPress_0 : decode cX5_setPress 0 = .ok (.iload_n 1, 1) := by decide +kernel
theorem dX5_setPress_1 : decode cX5_setPress 1 = .ok (.iconst 0, 1) := by decide +kernel
theorem dX5_setPress_2 : decode cX5_setPress 2 = .ok (.bipush 20, 2) := by decide +kernel
theorem dX5_setPress_4 : decode cX5_setPress 4 = .ok (.invokestatic 19, 3) := by decide +kernel
theorem dX5_setPress_7 : decode cX5_setPress 7 = .ok (.ifCond .eq 13, 3) := by decide +kernel
theorem dX5_setPress_10 : decode cX5_setPress 10 = .ok (.iload_n 2, 1) := by decide +kernel
theorem dX5_setPress_11 : decode cX5_setPress 11 = .ok (.iconst 0, 1) := by decide +kernel
theorem dX5_setPress_12 : decode cX5_setPress 12 = .ok (.bipush 40, 2) := by decide +kernel
theorem dX5_setPress_14 : decode cX5_setPress 14 = .ok (.invokestatic 19, 3) := by decide +kernel
theorem dX5_setPress_17 : decode cX5_setPress 17 = .ok (.ifCond .ne 7, 3) := by decide +kernel
theorem dX5_setPress_20 : decode cX5_setPress 20 = .ok (.sipush (-1001), 3) := by decide +kernel
theorem dX5_setPress_23 : decode cX5_setPress 23 = .ok (.ireturn, 1) := by decide +kernel
theorem dX5_setPress_24 : decode cX5_setPress 24 = .ok (.bipush 100, 2) := by decide +kernel
theorem dX5_setPress_26 : decode cX5_setPress 26 = .ok (.aload_n 0, 1) := by decide +kernel
theorem dX5_setPress_27 : decode cX5_setPress 27 = .ok (.getfield 9, 3) := by decide +kernel
theorem dX5_setPress_30 : decode cX5_setPress 30 = .ok (.getfield 47, 3) := by decide +kernel
theorem dX5_setPress_33 : decode cX5_setPress 33 = .ok (.imul, 1) := by decide +kernel
theorem dX5_setPress_34 : decode cX5_setPress 34 = .ok (.aload_n 0, 1) := by decide +kernel
theorem dX5_setPress_35 : decode cX5_setPress 35 = .ok (.getfield 9, 3) := by decide +kernel
theorem dX5_setPress_38 : decode cX5_setPress 38 = .ok (.getfield 50, 3) := by decide +kernel
theorem dX5_setPress_41 : decode cX5_setPress 41 = .ok (.iadd, 1) := by decide +kernel
theorem dX5_setPress_42 : decode cX5_setPress 42 = .ok (.istore_n 3, 1) := by decide +kernel
theorem dX5_setPress_43 : decode cX5_setPress 43 = .ok (.aload_n 0, 1) := by decide +kernel
theorem dX5_setPress_44 : decode cX5_setPress 44 = .ok (.getfield 9, 3) := by decide +kernel
theorem dX5_setPress_47 : decode cX5_setPress 47 = .ok (.iload_n 1, 1) := by decide +kernel
theorem dX5_setPress_48 : decode cX5_setPress 48 = .ok (.putfield 47, 3) := by decide +kernel
theorem dX5_setPress_51 : decode cX5_setPress 51 = .ok (.aload_n 0, 1) := by decide +kernel
theorem dX5_setPress_52 : decode cX5_setPress 52 = .ok (.getfield 9, 3) := by decide +kernel
theorem dX5_setPress_55 : decode cX5_setPress 55 = .ok (.iload_n 2, 1) := by decide +kernel
theorem dX5_setPress_56 : decode cX5_setPress 56 = .ok (.putfield 50, 3) := by decide +kernel
theorem dX5_setPress_59 : decode cX5_setPress 59 = .ok (.aload_n 0, 1) := by decide +kernel
theorem dX5_setPress_60 : decode cX5_setPress 60 = .ok (.getfield 15, 3) := by decide +kernel
theorem dX5_setPress_63 : decode cX5_setPress 63 = .ok (.invokevirtual 36, 3) := by decide +kernel
theorem dX5_setPress_66 : decode cX5_setPress 66 = .ok (.iload_n 3, 1) := by decide +kernel
theorem dX5_setPress_67 : decode cX5_setPress 67 = .ok (.ireturn, 1) := by decide +kernel
set_option maxRecDepth 20000 in
theorem ggX5_setTaken_X6_isWithin : GoodIn wsX5_setTaken wsX6_isWithin := goodIn_r _ [5] (by decide +kernel) (by decide +kernel)
set_option maxRecDepth 20000 in
theorem gX5_setTaken_X6_isWithin_n19 : GoodIn wsX5_setTaken (wsX6_isWithin) := ggX5_setTaken_X6_isWithin
theorem dX5_setTaken_0 : decode cX5_setTaken 0 = .ok (.iload_n 1, 1) := by decide +kernel
theorem dX5_setTaken_1 : decode cX5_setTaken 1 = .ok (.iconst 0, 1) := by decide +kernel
theorem dX5_setTaken_2 : decode cX5_setTaken 2 = .ok (.iconst 2, 1) := by decide +kernel
theorem dX5_setTaken_3 : decode cX5_setTaken 3 = .ok (.invokestatic 19, 3) := by decide +kernel
theorem dX5_setTaken_6 : decode cX5_setTaken 6 = .ok (.ifCond .eq 13, 3) := by decide +kernel
theorem dX5_setTaken_9 : decode cX5_setTaken 9 = .ok (.iload_n 2, 1) := by decide +kernel
theorem dX5_setTaken_10 : decode cX5_setTaken 10 = .ok (.iconst 0, 1) := by decide +kernel
theorem dX5_setTaken_11 : decode cX5_setTaken 11 = .ok (.bipush 99, 2) := by decide +kernel
theorem dX5_setTaken_13 : decode cX5_setTaken 13 = .ok (.invokestatic 19, 3) := by decide +kernel
theorem dX5_setTaken_16 : decode cX5_setTaken 16 = .ok (.ifCond .ne 7, 3) := by decide +kernel
theorem dX5_setTaken_19 : decode cX5_setTaken 19 = .ok (.sipush (-1001), 3) := by decide +kernel
theorem dX5_setTaken_22 : decode cX5_setTaken 22 = .ok (.ireturn, 1) := by decide +kernel
theorem dX5_setTaken_23 : decode cX5_setTaken 23 = .ok (.aload_n 0, 1) := by decide +kernel
theorem dX5_setTaken_24 : decode cX5_setTaken 24 = .ok (.getfield 9, 3) := by decide +kernel
theorem dX5_setTaken_27 : decode cX5_setTaken 27 = .ok (.getfield 53, 3) := by decide +kernel
theorem dX5_setTaken_30 : decode cX5_setTaken 30 = .ok (.iload_n 1, 1) := by decide +kernel
theorem dX5_setTaken_31 : decode cX5_setTaken 31 = .ok (.iaload, 1) := by decide +kernel
theorem dX5_setTaken_32 : decode cX5_setTaken 32 = .ok (.istore_n 3, 1) := by decide +kernel
theorem dX5_setTaken_33 : decode cX5_setTaken 33 = .ok (.aload_n 0, 1) := by decide +kernel
theorem dX5_setTaken_34 : decode cX5_setTaken 34 = .ok (.getfield 9, 3) := by decide +kernel
theorem dX5_setTaken_37 : decode cX5_setTaken 37 = .ok (.getfield 53, 3) := by decide +kernel
theorem dX5_setTaken_40 : decode cX5_setTaken 40 = .ok (.iload_n 1, 1) := by decide +kernel
theorem dX5_setTaken_41 : decode cX5_setTaken 41 = .ok (.iload_n 2, 1) := by decide +kernel
theorem dX5_setTaken_42 : decode cX5_setTaken 42 = .ok (.iastore, 1) := by decide +kernel
theorem dX5_setTaken_43 : decode cX5_setTaken 43 = .ok (.iload_n 3, 1) := by decide +kernel
theorem dX5_setTaken_44 : decode cX5_setTaken 44 = .ok (.ireturn, 1) := by decide +kernel
set_option maxRecDepth 20000 in
theorem ggX5_makeBend_X4_hasBend : GoodIn wsX5_makeBend wsX4_hasBend := goodIn_r _ [8, 9, 70, 71, 72, 73, 74, 75, 76, 77] (by decide +kernel) (by decide +kernel)
set_option maxRecDepth 20000 in
theorem gX5_makeBend_X4_hasBend : GoodIn wsX5_makeBend (wsV RX5 56 RX4 yX4_hasBend wsX4_hasBend) := goodIn_app (goodIn_of _ (by decide +kernel)) ggX5_makeBend_X4_hasBend
set_option maxRecDepth 20000 in
theorem ggX5_makeBend_X4_isMade : GoodIn wsX5_makeBend wsX4_isMade := goodIn_r _ [13, 14, 70, 71, 72, 73, 74, 75, 76, 77] (by decide +kernel) (by decide +kernel)
set_option maxRecDepth 20000 in
theorem gX5_makeBend_X4_isMade : GoodIn wsX5_makeBend (wsV RX5 60 RX4 yX4_isMade wsX4_isMade) := goodIn_app (goodIn_of _ (by decide +kernel)) ggX5_makeBend_X4_isMade
set_option maxRecDepth 20000 in
theorem ggX5_makeBend_X1_hitOf : GoodIn wsX5_makeBend wsX1_hitOf := goodIn_r _ [19, 20, 21, 22, 23, 24, 25, 26, 27, 28, 29, 30, 31, 32, 33, 34, 35, 36, 37, 38, 39, 40, 41, 42, 43, 44, 45, 46, 47, 48, 49, 50, 51, 18, 52, 53, 54, 55, 56, 57, 58, 59, 60, 78, 79, 80, 81, 82, 83, 84, 85, 86, 87, 88, 89, 70, 71, 72, 73, 74, 75, 76, 77, 90, 91, 92, 93] (by decide +kernel) (by decide +kernel)
set_option maxRecDepth 20000 in
theorem gX5_makeBend_X1_hitOf : GoodIn wsX5_makeBend (wsV RX5 63 RX1 yX1_hitOf wsX1_hitOf) := goodIn_app (goodIn_of _ (by decide +kernel)) ggX5_makeBend_X1_hitOf
set_option maxRecDepth 20000 in
theorem ggX5_makeBend_J6_bitCount_0f7a4 : GoodIn wsX5_makeBend wsJ6_bitCount_0f7a4 := goodIn_r _ [64, 65, 66, 67] (by decide +kernel) (by decide +kernel)
set_option maxRecDepth 20000 in
theorem gX5_makeBend_J6_bitCount_0f7a4 : GoodIn wsX5_makeBend (va_wsS RX5 67 yJ6_bitCount_0f7a4 wsJ6_bitCount_0f7a4) := goodIn_app (goodIn_of _ (by decide +kernel)) ggX5_makeBend_J6_bitCount_0f7a4
theorem dX5_makeBend_0 : decode cX5_makeBend 0 = .ok (.aload_n 0, 1) := by decide +kernel
theorem dX5_makeBend_1 : decode cX5_makeBend 1 = .ok (.getfield 9, 3) := by decide +kernel
theorem dX5_makeBend_4 : decode cX5_makeBend 4 = .ok (.iload_n 1, 1) := by decide +kernel
theorem dX5_makeBend_5 : decode cX5_makeBend 5 = .ok (.invokevirtual 56, 3) := by decide +kernel
theorem dX5_makeBend_8 : decode cX5_makeBend 8 = .ok (.ifCond .ne 7, 3) := by decide +kernel
theorem dX5_makeBend_11 : decode cX5_makeBend 11 = .ok (.sipush (-1001), 3) := by decide +kernel
theorem dX5_makeBend_14 : decode cX5_makeBend 14 = .ok (.ireturn, 1) := by decide +kernel
theorem dX5_makeBend_15 : decode cX5_makeBend 15 = .ok (.aload_n 0, 1) := by decide +kernel
theorem dX5_makeBend_16 : decode cX5_makeBend 16 = .ok (.getfield 9, 3) := by decide +kernel
theorem dX5_makeBend_19 : decode cX5_makeBend 19 = .ok (.iload_n 1, 1) := by decide +kernel
theorem dX5_makeBend_20 : decode cX5_makeBend 20 = .ok (.invokevirtual 60, 3) := by decide +kernel
theorem dX5_makeBend_23 : decode cX5_makeBend 23 = .ok (.ifCond .ne 21, 3) := by decide +kernel
theorem dX5_makeBend_26 : decode cX5_makeBend 26 = .ok (.aload_n 0, 1) := by decide +kernel
theorem dX5_makeBend_27 : decode cX5_makeBend 27 = .ok (.getfield 15, 3) := by decide +kernel
theorem dX5_makeBend_30 : decode cX5_makeBend 30 = .ok (.aload_n 0, 1) := by decide +kernel
theorem dX5_makeBend_31 : decode cX5_makeBend 31 = .ok (.getfield 9, 3) := by decide +kernel
theorem dX5_makeBend_34 : decode cX5_makeBend 34 = .ok (.getfield 33, 3) := by decide +kernel
theorem dX5_makeBend_37 : decode cX5_makeBend 37 = .ok (.iload_n 1, 1) := by decide +kernel
theorem dX5_makeBend_38 : decode cX5_makeBend 38 = .ok (.invokevirtual 63, 3) := by decide +kernel
theorem dX5_makeBend_41 : decode cX5_makeBend 41 = .ok (.ifCond .eq 7, 3) := by decide +kernel
theorem dX5_makeBend_44 : decode cX5_makeBend 44 = .ok (.sipush (-1002), 3) := by decide +kernel
theorem dX5_makeBend_47 : decode cX5_makeBend 47 = .ok (.ireturn, 1) := by decide +kernel
theorem dX5_makeBend_48 : decode cX5_makeBend 48 = .ok (.aload_n 0, 1) := by decide +kernel
theorem dX5_makeBend_49 : decode cX5_makeBend 49 = .ok (.getfield 9, 3) := by decide +kernel
theorem dX5_makeBend_52 : decode cX5_makeBend 52 = .ok (.dup, 1) := by decide +kernel
theorem dX5_makeBend_53 : decode cX5_makeBend 53 = .ok (.getfield 33, 3) := by decide +kernel
theorem dX5_makeBend_56 : decode cX5_makeBend 56 = .ok (.iconst 1, 1) := by decide +kernel
theorem dX5_makeBend_57 : decode cX5_makeBend 57 = .ok (.iload_n 1, 1) := by decide +kernel
theorem dX5_makeBend_58 : decode cX5_makeBend 58 = .ok (.ishl, 1) := by decide +kernel
theorem dX5_makeBend_59 : decode cX5_makeBend 59 = .ok (.ior, 1) := by decide +kernel
theorem dX5_makeBend_60 : decode cX5_makeBend 60 = .ok (.putfield 33, 3) := by decide +kernel
theorem dX5_makeBend_63 : decode cX5_makeBend 63 = .ok (.aload_n 0, 1) := by decide +kernel
theorem dX5_makeBend_64 : decode cX5_makeBend 64 = .ok (.getfield 9, 3) := by decide +kernel
theorem dX5_makeBend_67 : decode cX5_makeBend 67 = .ok (.getfield 33, 3) := by decide +kernel
theorem dX5_makeBend_70 : decode cX5_makeBend 70 = .ok (.invokestatic 67, 3) := by decide +kernel
theorem dX5_makeBend_73 : decode cX5_makeBend 73 = .ok (.ireturn, 1) := by decide +kernel
set_option maxRecDepth 20000 in
theorem ggX5_unmakeBend_X4_hasBend : GoodIn wsX5_unmakeBend wsX4_hasBend := goodIn_r _ [7, 8, 23, 24, 25, 26, 27, 28, 29, 30] (by decide +kernel) (by decide +kernel)
set_option maxRecDepth 20000 in
theorem gX5_unmakeBend_X4_hasBend : GoodIn wsX5_unmakeBend (wsV RX5 56 RX4 yX4_hasBend wsX4_hasBend) := goodIn_app (goodIn_of _ (by decide +kernel)) ggX5_unmakeBend_X4_hasBend
set_option maxRecDepth 20000 in
theorem ggX5_unmakeBend_X4_isMade : GoodIn wsX5_unmakeBend wsX4_isMade := goodIn_r _ [12, 13, 23, 24, 25, 26, 27, 28, 29, 30] (by decide +kernel) (by decide +kernel)
set_option maxRecDepth 20000 in
theorem gX5_unmakeBend_X4_isMade : GoodIn wsX5_unmakeBend (wsV RX5 60 RX4 yX4_isMade wsX4_isMade) := goodIn_app (goodIn_of _ (by decide +kernel)) ggX5_unmakeBend_X4_isMade
set_option maxRecDepth 20000 in
theorem ggX5_unmakeBend_J6_bitCount_0f7a4 : GoodIn wsX5_unmakeBend wsJ6_bitCount_0f7a4 := goodIn_r _ [17, 18, 19, 20] (by decide +kernel) (by decide +kernel)
set_option maxRecDepth 20000 in
theorem gX5_unmakeBend_J6_bitCount_0f7a4 : GoodIn wsX5_unmakeBend (va_wsS RX5 67 yJ6_bitCount_0f7a4 wsJ6_bitCount_0f7a4) := goodIn_app (goodIn_of _ (by decide +kernel)) ggX5_unmakeBend_J6_bitCount_0f7a4
theorem dX5_unmakeBend_0 : decode cX5_unmakeBend 0 = .ok (.aload_n 0, 1) := by decide +kernel
theorem dX5_unmakeBend_1 : decode cX5_unmakeBend 1 = .ok (.getfield 9, 3) := by decide +kernel
theorem dX5_unmakeBend_4 : decode cX5_unmakeBend 4 = .ok (.iload_n 1, 1) := by decide +kernel
theorem dX5_unmakeBend_5 : decode cX5_unmakeBend 5 = .ok (.invokevirtual 56, 3) := by decide +kernel
theorem dX5_unmakeBend_8 : decode cX5_unmakeBend 8 = .ok (.ifCond .ne 7, 3) := by decide +kernel
theorem dX5_unmakeBend_11 : decode cX5_unmakeBend 11 = .ok (.sipush (-1001), 3) := by decide +kernel
theorem dX5_unmakeBend_14 : decode cX5_unmakeBend 14 = .ok (.ireturn, 1) := by decide +kernel
theorem dX5_unmakeBend_15 : decode cX5_unmakeBend 15 = .ok (.aload_n 0, 1) := by decide +kernel
theorem dX5_unmakeBend_16 : decode cX5_unmakeBend 16 = .ok (.getfield 9, 3) := by decide +kernel
theorem dX5_unmakeBend_19 : decode cX5_unmakeBend 19 = .ok (.iload_n 1, 1) := by decide +kernel
theorem dX5_unmakeBend_20 : decode cX5_unmakeBend 20 = .ok (.invokevirtual 60, 3) := by decide +kernel
theorem dX5_unmakeBend_23 : decode cX5_unmakeBend 23 = .ok (.ifCond .ne 7, 3) := by decide +kernel
theorem dX5_unmakeBend_26 : decode cX5_unmakeBend 26 = .ok (.sipush (-1002), 3) := by decide +kernel
theorem dX5_unmakeBend_29 : decode cX5_unmakeBend 29 = .ok (.ireturn, 1) := by decide +kernel
theorem dX5_unmakeBend_30 : decode cX5_unmakeBend 30 = .ok (.aload_n 0, 1) := by decide +kernel
theorem dX5_unmakeBend_31 : decode cX5_unmakeBend 31 = .ok (.getfield 9, 3) := by decide +kernel
theorem dX5_unmakeBend_34 : decode cX5_unmakeBend 34 = .ok (.dup, 1) := by decide +kernel
theorem dX5_unmakeBend_35 : decode cX5_unmakeBend 35 = .ok (.getfield 33, 3) := by decide +kernel
theorem dX5_unmakeBend_38 : decode cX5_unmakeBend 38 = .ok (.iconst 1, 1) := by decide +kernel
theorem dX5_unmakeBend_39 : decode cX5_unmakeBend 39 = .ok (.iload_n 1, 1) := by decide +kernel
theorem dX5_unmakeBend_40 : decode cX5_unmakeBend 40 = .ok (.ishl, 1) := by decide +kernel
theorem dX5_unmakeBend_41 : decode cX5_unmakeBend 41 = .ok (.isub, 1) := by decide +kernel
theorem dX5_unmakeBend_42 : decode cX5_unmakeBend 42 = .ok (.putfield 33, 3) := by decide +kernel
theorem dX5_unmakeBend_45 : decode cX5_unmakeBend 45 = .ok (.aload_n 0, 1) := by decide +kernel
theorem dX5_unmakeBend_46 : decode cX5_unmakeBend 46 = .ok (.getfield 9, 3) := by decide +kernel
theorem dX5_unmakeBend_49 : decode cX5_unmakeBend 49 = .ok (.getfield 33, 3) := by decide +kernel
theorem dX5_unmakeBend_52 : decode cX5_unmakeBend 52 = .ok (.invokestatic 67, 3) := by decide +kernel
theorem dX5_unmakeBend_55 : decode cX5_unmakeBend 55 = .ok (.ireturn, 1) := by decide +kernel
set_option maxRecDepth 20000 in
theorem ggX5_unmakeAll_J6_bitCount_0f7a4 : GoodIn wsX5_unmakeAll wsJ6_bitCount_0f7a4 := goodIn_r _ [6, 7, 8, 9] (by decide +kernel) (by decide +kernel)
set_option maxRecDepth 20000 in
theorem gX5_unmakeAll_J6_bitCount_0f7a4 : GoodIn wsX5_unmakeAll (va_wsS RX5 67 yJ6_bitCount_0f7a4 wsJ6_bitCount_0f7a4) := goodIn_app (goodIn_of _ (by decide +kernel)) ggX5_unmakeAll_J6_bitCount_0f7a4
theorem dX5_unmakeAll_0 : decode cX5_unmakeAll 0 = .ok (.aload_n 0, 1) := by decide +kernel
theorem dX5_unmakeAll_1 : decode cX5_unmakeAll 1 = .ok (.getfield 9, 3) := by decide +kernel
theorem dX5_unmakeAll_4 : decode cX5_unmakeAll 4 = .ok (.getfield 33, 3) := by decide +kernel
theorem dX5_unmakeAll_7 : decode cX5_unmakeAll 7 = .ok (.invokestatic 67, 3) := by decide +kernel
theorem dX5_unmakeAll_10 : decode cX5_unmakeAll 10 = .ok (.istore_n 1, 1) := by decide +kernel
theorem dX5_unmakeAll_11 : decode cX5_unmakeAll 11 = .ok (.aload_n 0, 1) := by decide +kernel
theorem dX5_unmakeAll_12 : decode cX5_unmakeAll 12 = .ok (.getfield 9, 3) := by decide +kernel
theorem dX5_unmakeAll_15 : decode cX5_unmakeAll 15 = .ok (.iconst 0, 1) := by decide +kernel
theorem dX5_unmakeAll_16 : decode cX5_unmakeAll 16 = .ok (.putfield 33, 3) := by decide +kernel
theorem dX5_unmakeAll_19 : decode cX5_unmakeAll 19 = .ok (.iload_n 1, 1) := by decide +kernel
theorem dX5_unmakeAll_20 : decode cX5_unmakeAll 20 = .ok (.ireturn, 1) := by decide +kernel
set_option maxRecDepth 20000 in
theorem ggX5_perform_X2_numberOf : GoodIn wsX5_perform wsX2_numberOf := goodIn_r _ [6, 7, 127, 128, 129, 130, 131, 132] (by decide +kernel) (by decide +kernel)
set_option maxRecDepth 20000 in
theorem gX5_perform_X2_numberOf : GoodIn wsX5_perform (wsV RX5 73 RX2 yX2_numberOf wsX2_numberOf) := goodIn_app (goodIn_of _ (by decide +kernel)) ggX5_perform_X2_numberOf
set_option maxRecDepth 20000 in
theorem ggX5_perform_X5_newStrip : GoodIn wsX5_perform wsX5_newStrip := goodIn_r _ [12, 13, 14, 15, 16, 17, 18, 19, 20, 21, 22, 23, 24, 25, 26, 27, 28, 29, 30, 31, 32, 133, 134, 135, 136, 137, 138, 139, 140, 141, 142, 143, 144, 145, 146, 147, 148, 149, 150, 151, 152, 153, 154] (by decide +kernel) (by decide +kernel)
set_option maxRecDepth 20000 in
theorem gX5_perform_X5_newStrip : GoodIn wsX5_perform (wsV RX5 81 RX5 yX5_newStrip wsX5_newStrip) := goodIn_app (goodIn_of _ (by decide +kernel)) ggX5_perform_X5_newStrip
set_option maxRecDepth 20000 in
theorem ggX5_perform_X5_wayOf : GoodIn wsX5_perform wsX5_wayOf := goodIn_r _ [35] (by decide +kernel) (by decide +kernel)
set_option maxRecDepth 20000 in
theorem gX5_perform_X5_wayOf : GoodIn wsX5_perform (va_wsS RX5 84 yX5_wayOf wsX5_wayOf) := goodIn_app (goodIn_of _ (by decide +kernel)) ggX5_perform_X5_wayOf
set_option maxRecDepth 20000 in
theorem ggX5_perform_X5_addBend : GoodIn wsX5_perform wsX5_addBend := goodIn_r _ [39, 13, 14, 40, 41, 15, 17, 18, 19, 20, 21, 22, 23, 24, 25, 26, 27, 28, 29, 30, 31, 32, 133, 134, 135, 136, 137, 138, 139, 140, 141, 142, 143, 144, 145, 146, 147, 148, 149, 150, 151, 152, 153, 154] (by decide +kernel) (by decide +kernel)
set_option maxRecDepth 20000 in
theorem gX5_perform_X5_addBend : GoodIn wsX5_perform (wsV RX5 87 RX5 yX5_addBend wsX5_addBend) := goodIn_app (goodIn_of _ (by decide +kernel)) ggX5_perform_X5_addBend
set_option maxRecDepth 20000 in
theorem ggX5_perform_X5_makeBend : GoodIn wsX5_perform wsX5_makeBend := goodIn_r _ [45, 13, 17, 16, 46, 47, 48, 49, 50, 51, 52, 53, 54, 55, 56, 57, 58, 59, 24, 60, 61, 62, 63, 64, 65, 66, 67, 68, 69, 70, 71, 72, 73, 74, 75, 76, 77, 78, 79, 80, 81, 82, 83, 84, 85, 86, 87, 88, 89, 90, 91, 92, 93, 27, 94, 95, 96, 97, 98, 99, 100, 101, 102, 103, 104, 105, 106, 107, 133, 134, 135, 136, 137, 138, 139, 140, 141, 142, 143, 144, 145, 146, 147, 148, 149, 150, 151, 152, 153, 154, 155, 156, 157, 158] (by decide +kernel) (by decide +kernel)
set_option maxRecDepth 20000 in
theorem gX5_perform_X5_makeBend : GoodIn wsX5_perform (wsV RX5 91 RX5 yX5_makeBend wsX5_makeBend) := goodIn_app (goodIn_of _ (by decide +kernel)) ggX5_perform_X5_makeBend
set_option maxRecDepth 20000 in
theorem ggX5_perform_X5_unmakeBend : GoodIn wsX5_perform wsX5_unmakeBend := goodIn_r _ [111, 13, 16, 46, 47, 48, 49, 50, 51, 52, 53, 54, 55, 56, 101, 102, 103, 104, 105, 106, 107, 133, 134, 135, 136, 137, 138, 139, 140, 141, 142] (by decide +kernel) (by decide +kernel)
set_option maxRecDepth 20000 in
theorem gX5_perform_X5_unmakeBend : GoodIn wsX5_perform (wsV RX5 94 RX5 yX5_unmakeBend wsX5_unmakeBend) := goodIn_app (goodIn_of _ (by decide +kernel)) ggX5_perform_X5_unmakeBend
set_option maxRecDepth 20000 in
theorem ggX5_perform_X5_setPress : GoodIn wsX5_perform wsX5_setPress := goodIn_r _ [115, 13, 116, 117, 17, 18, 19, 20, 21, 22, 23, 24, 25, 26, 27, 28, 29, 30, 31, 32, 133, 134, 135, 136, 137, 138, 139, 140, 141, 142, 143, 144, 145, 146, 147, 148, 149, 150, 151, 152, 153, 154] (by decide +kernel) (by decide +kernel)
set_option maxRecDepth 20000 in
theorem gX5_perform_X5_setPress : GoodIn wsX5_perform (wsV RX5 97 RX5 yX5_setPress wsX5_setPress) := goodIn_app (goodIn_of _ (by decide +kernel)) ggX5_perform_X5_setPress
set_option maxRecDepth 20000 in
theorem ggX5_perform_X5_setTaken : GoodIn wsX5_perform wsX5_setTaken := goodIn_r _ [121, 13, 122, 18, 19, 20, 133, 134, 135, 136, 137, 138, 139, 140, 141, 142] (by decide +kernel) (by decide +kernel)
set_option maxRecDepth 20000 in
theorem gX5_perform_X5_setTaken : GoodIn wsX5_perform (wsV RX5 100 RX5 yX5_setTaken wsX5_setTaken) := goodIn_app (goodIn_of _ (by decide +kernel)) ggX5_perform_X5_setTaken
set_option maxRecDepth 20000 in
theorem ggX5_perform_X5_unmakeAll : GoodIn wsX5_perform wsX5_unmakeAll := goodIn_r _ [126, 13, 16, 101, 102, 103, 104, 105, 106, 107, 133, 134, 135, 136, 137, 138, 139, 140, 141, 142] (by decide +kernel) (by decide +kernel)
set_option maxRecDepth 20000 in
theorem gX5_perform_X5_unmakeAll : GoodIn wsX5_perform (wsV RX5 103 RX5 yX5_unmakeAll wsX5_unmakeAll) := goodIn_app (goodIn_of _ (by decide +kernel)) ggX5_perform_X5_unmakeAll
theorem dX5_perform_0 : decode cX5_perform 0 = .ok (.aload_n 1, 1) := by decide +kernel
theorem dX5_perform_1 : decode cX5_perform 1 = .ok (.iload_n 2, 1) := by decide +kernel
theorem dX5_perform_2 : decode cX5_perform 2 = .ok (.iconst 0, 1) := by decide +kernel
theorem dX5_perform_3 : decode cX5_perform 3 = .ok (.invokevirtual 73, 3) := by decide +kernel
theorem dX5_perform_6 : decode cX5_perform 6 = .ok (.istore_n 3, 1) := by decide +kernel
theorem dX5_perform_7 : decode cX5_perform 7 = .ok (.aload_n 1, 1) := by decide +kernel
theorem dX5_perform_8 : decode cX5_perform 8 = .ok (.iload_n 2, 1) := by decide +kernel
theorem dX5_perform_9 : decode cX5_perform 9 = .ok (.iconst 1, 1) := by decide +kernel
theorem dX5_perform_10 : decode cX5_perform 10 = .ok (.invokevirtual 73, 3) := by decide +kernel
theorem dX5_perform_13 : decode cX5_perform 13 = .ok (.istore 4, 2) := by decide +kernel
theorem dX5_perform_15 : decode cX5_perform 15 = .ok (.aload_n 1, 1) := by decide +kernel
theorem dX5_perform_16 : decode cX5_perform 16 = .ok (.getfield 78, 3) := by decide +kernel
theorem dX5_perform_19 : decode cX5_perform 19 = .ok (.iload_n 2, 1) := by decide +kernel
theorem dX5_perform_20 : decode cX5_perform 20 = .ok (.iaload, 1) := by decide +kernel
theorem dX5_perform_21 : decode cX5_perform 21 = .ok (.tableswitch 146 98 117 #[101, 146, 146, 146, 146, 146, 146, 146, 146, 138, 146, 118, 146, 146, 130, 146, 146, 95, 146, 124], 95) := by decide +kernel
theorem dX5_perform_116 : decode cX5_perform 116 = .ok (.aload_n 0, 1) := by decide +kernel
theorem dX5_perform_117 : decode cX5_perform 117 = .ok (.iload_n 3, 1) := by decide +kernel
theorem dX5_perform_118 : decode cX5_perform 118 = .ok (.invokevirtual 81, 3) := by decide +kernel
theorem dX5_perform_121 : decode cX5_perform 121 = .ok (.ireturn, 1) := by decide +kernel
theorem dX5_perform_122 : decode cX5_perform 122 = .ok (.aload_n 0, 1) := by decide +kernel
theorem dX5_perform_123 : decode cX5_perform 123 = .ok (.iload_n 3, 1) := by decide +kernel
theorem dX5_perform_124 : decode cX5_perform 124 = .ok (.iload 4, 2) := by decide +kernel
theorem dX5_perform_126 : decode cX5_perform 126 = .ok (.invokestatic 84, 3) := by decide +kernel
theorem dX5_perform_129 : decode cX5_perform 129 = .ok (.aload_n 1, 1) := by decide +kernel
theorem dX5_perform_130 : decode cX5_perform 130 = .ok (.iload_n 2, 1) := by decide +kernel
