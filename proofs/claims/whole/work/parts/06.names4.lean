theorem dX6_digest_241 : decode cX6_digest 241 = .ok (.lstore_n 1, 1) := by decide +kernel
theorem dX6_digest_242 : decode cX6_digest 242 = .ok (.ldc2_w 229, 3) := by decide +kernel
theorem dX6_digest_245 : decode cX6_digest 245 = .ok (.lload_n 1, 1) := by decide +kernel
theorem dX6_digest_246 : decode cX6_digest 246 = .ok (.lmul, 1) := by decide +kernel
theorem dX6_digest_247 : decode cX6_digest 247 = .ok (.aload_n 0, 1) := by decide +kernel
theorem dX6_digest_248 : decode cX6_digest 248 = .ok (.getfield 28, 3) := by decide +kernel
theorem dX6_digest_251 : decode cX6_digest 251 = .ok (.getfield 162, 3) := by decide +kernel
theorem dX6_digest_254 : decode cX6_digest 254 = .ok (.i2l, 1) := by decide +kernel
theorem dX6_digest_255 : decode cX6_digest 255 = .ok (.ladd, 1) := by decide +kernel
theorem dX6_digest_256 : decode cX6_digest 256 = .ok (.lstore_n 1, 1) := by decide +kernel
theorem dX6_digest_257 : decode cX6_digest 257 = .ok (.ldc2_w 229, 3) := by decide +kernel
theorem dX6_digest_260 : decode cX6_digest 260 = .ok (.lload_n 1, 1) := by decide +kernel
theorem dX6_digest_261 : decode cX6_digest 261 = .ok (.lmul, 1) := by decide +kernel
theorem dX6_digest_262 : decode cX6_digest 262 = .ok (.aload_n 0, 1) := by decide +kernel
theorem dX6_digest_263 : decode cX6_digest 263 = .ok (.getfield 28, 3) := by decide +kernel
theorem dX6_digest_266 : decode cX6_digest 266 = .ok (.getfield 165, 3) := by decide +kernel
theorem dX6_digest_269 : decode cX6_digest 269 = .ok (.i2l, 1) := by decide +kernel
theorem dX6_digest_270 : decode cX6_digest 270 = .ok (.ladd, 1) := by decide +kernel
theorem dX6_digest_271 : decode cX6_digest 271 = .ok (.lstore_n 1, 1) := by decide +kernel
theorem dX6_digest_272 : decode cX6_digest 272 = .ok (.ldc2_w 229, 3) := by decide +kernel
theorem dX6_digest_275 : decode cX6_digest 275 = .ok (.lload_n 1, 1) := by decide +kernel
theorem dX6_digest_276 : decode cX6_digest 276 = .ok (.lmul, 1) := by decide +kernel
theorem dX6_digest_277 : decode cX6_digest 277 = .ok (.aload_n 0, 1) := by decide +kernel
theorem dX6_digest_278 : decode cX6_digest 278 = .ok (.getfield 28, 3) := by decide +kernel
theorem dX6_digest_281 : decode cX6_digest 281 = .ok (.aload_n 0, 1) := by decide +kernel
theorem dX6_digest_282 : decode cX6_digest 282 = .ok (.getfield 12, 3) := by decide +kernel
theorem dX6_digest_285 : decode cX6_digest 285 = .ok (.getfield 124, 3) := by decide +kernel
theorem dX6_digest_288 : decode cX6_digest 288 = .ok (.invokevirtual 168, 3) := by decide +kernel
theorem dX6_digest_291 : decode cX6_digest 291 = .ok (.i2l, 1) := by decide +kernel
theorem dX6_digest_292 : decode cX6_digest 292 = .ok (.ladd, 1) := by decide +kernel
theorem dX6_digest_293 : decode cX6_digest 293 = .ok (.lreturn, 1) := by decide +kernel
theorem dX6_isWithin_0 : decode cX6_isWithin 0 = .ok (.iload_n 0, 1) := by decide +kernel
theorem dX6_isWithin_1 : decode cX6_isWithin 1 = .ok (.iload_n 1, 1) := by decide +kernel
theorem dX6_isWithin_2 : decode cX6_isWithin 2 = .ok (.if_icmp .lt 12, 3) := by decide +kernel
theorem dX6_isWithin_5 : decode cX6_isWithin 5 = .ok (.iload_n 0, 1) := by decide +kernel
theorem dX6_isWithin_6 : decode cX6_isWithin 6 = .ok (.iload_n 2, 1) := by decide +kernel
theorem dX6_isWithin_7 : decode cX6_isWithin 7 = .ok (.if_icmp .gt 7, 3) := by decide +kernel
theorem dX6_isWithin_10 : decode cX6_isWithin 10 = .ok (.iconst 1, 1) := by decide +kernel
theorem dX6_isWithin_11 : decode cX6_isWithin 11 = .ok (.goto 4, 3) := by decide +kernel
theorem dX6_isWithin_14 : decode cX6_isWithin 14 = .ok (.iconst 0, 1) := by decide +kernel
theorem dX6_isWithin_15 : decode cX6_isWithin 15 = .ok (.ireturn, 1) := by decide +kernel
theorem dX6_isRefusal_0 : decode cX6_isRefusal 0 = .ok (.iload_n 0, 1) := by decide +kernel
theorem dX6_isRefusal_1 : decode cX6_isRefusal 1 = .ok (.sipush (-1001), 3) := by decide +kernel
theorem dX6_isRefusal_4 : decode cX6_isRefusal 4 = .ok (.if_icmp .eq 17, 3) := by decide +kernel
theorem dX6_isRefusal_7 : decode cX6_isRefusal 7 = .ok (.iload_n 0, 1) := by decide +kernel
theorem dX6_isRefusal_8 : decode cX6_isRefusal 8 = .ok (.sipush (-1002), 3) := by decide +kernel
theorem dX6_isRefusal_11 : decode cX6_isRefusal 11 = .ok (.if_icmp .eq 10, 3) := by decide +kernel
theorem dX6_isRefusal_14 : decode cX6_isRefusal 14 = .ok (.iload_n 0, 1) := by decide +kernel
theorem dX6_isRefusal_15 : decode cX6_isRefusal 15 = .ok (.sipush (-1003), 3) := by decide +kernel
theorem dX6_isRefusal_18 : decode cX6_isRefusal 18 = .ok (.if_icmp .ne 7, 3) := by decide +kernel
theorem dX6_isRefusal_21 : decode cX6_isRefusal 21 = .ok (.iconst 1, 1) := by decide +kernel
theorem dX6_isRefusal_22 : decode cX6_isRefusal 22 = .ok (.goto 4, 3) := by decide +kernel
theorem dX6_isRefusal_25 : decode cX6_isRefusal 25 = .ok (.iconst 0, 1) := by decide +kernel
theorem dX6_isRefusal_26 : decode cX6_isRefusal 26 = .ok (.ireturn, 1) := by decide +kernel
theorem dX6_refused_0 : decode cX6_refused 0 = .ok (.iload_n 1, 1) := by decide +kernel
theorem dX6_refused_1 : decode cX6_refused 1 = .ok (.sipush (-1001), 3) := by decide +kernel
theorem dX6_refused_4 : decode cX6_refused 4 = .ok (.if_icmp .ne 16, 3) := by decide +kernel
theorem dX6_refused_7 : decode cX6_refused 7 = .ok (.aload_n 0, 1) := by decide +kernel
theorem dX6_refused_8 : decode cX6_refused 8 = .ok (.dup, 1) := by decide +kernel
theorem dX6_refused_9 : decode cX6_refused 9 = .ok (.getfield 55, 3) := by decide +kernel
theorem dX6_refused_12 : decode cX6_refused 12 = .ok (.iconst 1, 1) := by decide +kernel
theorem dX6_refused_13 : decode cX6_refused 13 = .ok (.iadd, 1) := by decide +kernel
theorem dX6_refused_14 : decode cX6_refused 14 = .ok (.putfield 55, 3) := by decide +kernel
theorem dX6_refused_17 : decode cX6_refused 17 = .ok (.goto 33, 3) := by decide +kernel
theorem dX6_refused_20 : decode cX6_refused 20 = .ok (.iload_n 1, 1) := by decide +kernel
theorem dX6_refused_21 : decode cX6_refused 21 = .ok (.sipush (-1002), 3) := by decide +kernel
theorem dX6_refused_24 : decode cX6_refused 24 = .ok (.if_icmp .ne 16, 3) := by decide +kernel
theorem dX6_refused_27 : decode cX6_refused 27 = .ok (.aload_n 0, 1) := by decide +kernel
theorem dX6_refused_28 : decode cX6_refused 28 = .ok (.dup, 1) := by decide +kernel
theorem dX6_refused_29 : decode cX6_refused 29 = .ok (.getfield 59, 3) := by decide +kernel
theorem dX6_refused_32 : decode cX6_refused 32 = .ok (.iconst 1, 1) := by decide +kernel
theorem dX6_refused_33 : decode cX6_refused 33 = .ok (.iadd, 1) := by decide +kernel
theorem dX6_refused_34 : decode cX6_refused 34 = .ok (.putfield 59, 3) := by decide +kernel
theorem dX6_refused_37 : decode cX6_refused 37 = .ok (.goto 13, 3) := by decide +kernel
theorem dX6_refused_40 : decode cX6_refused 40 = .ok (.aload_n 0, 1) := by decide +kernel
theorem dX6_refused_41 : decode cX6_refused 41 = .ok (.dup, 1) := by decide +kernel
theorem dX6_refused_42 : decode cX6_refused 42 = .ok (.getfield 62, 3) := by decide +kernel
theorem dX6_refused_45 : decode cX6_refused 45 = .ok (.iconst 1, 1) := by decide +kernel
theorem dX6_refused_46 : decode cX6_refused 46 = .ok (.iadd, 1) := by decide +kernel
theorem dX6_refused_47 : decode cX6_refused 47 = .ok (.putfield 62, 3) := by decide +kernel
theorem dX6_refused_50 : decode cX6_refused 50 = .ok (.iload_n 1, 1) := by decide +kernel
theorem dX6_refused_51 : decode cX6_refused 51 = .ok (.ireturn, 1) := by decide +kernel
set_option maxRecDepth 20000 in
theorem ggX6_settled_X6_isRefusal : GoodIn wsX6_settled wsX6_isRefusal := goodIn_r _ [5] (by decide +kernel) (by decide +kernel)
set_option maxRecDepth 20000 in
theorem gX6_settled_X6_isRefusal : GoodIn wsX6_settled (va_wsS RX6 209 yX6_isRefusal wsX6_isRefusal) := goodIn_app (goodIn_of _ (by decide +kernel)) ggX6_settled_X6_isRefusal
set_option maxRecDepth 20000 in
theorem ggX6_settled_X6_refused : GoodIn wsX6_settled wsX6_refused := goodIn_r _ [9, 10, 11, 12, 24, 25, 26, 27, 28, 29, 30, 31, 32] (by decide +kernel) (by decide +kernel)
set_option maxRecDepth 20000 in
theorem gX6_settled_X6_refused : GoodIn wsX6_settled (wsV RX6 101 RX6 yX6_refused wsX6_refused) := goodIn_app (goodIn_of _ (by decide +kernel)) ggX6_settled_X6_refused
set_option maxRecDepth 20000 in
theorem ggX6_settled_X0_keepStaged : GoodIn wsX6_settled wsX0_keepStaged := goodIn_r _ [17, 18, 19, 20, 21, 22, 23, 33, 34, 35] (by decide +kernel) (by decide +kernel)
set_option maxRecDepth 20000 in
theorem gX6_settled_X0_keepStaged : GoodIn wsX6_settled (wsV RX6 218 RX0 yX0_keepStaged wsX0_keepStaged) := goodIn_app (goodIn_of _ (by decide +kernel)) ggX6_settled_X0_keepStaged
theorem dX6_settled_0 : decode cX6_settled 0 = .ok (.iload_n 1, 1) := by decide +kernel
theorem dX6_settled_1 : decode cX6_settled 1 = .ok (.invokestatic 209, 3) := by decide +kernel
theorem dX6_settled_4 : decode cX6_settled 4 = .ok (.ifCond .eq 9, 3) := by decide +kernel
theorem dX6_settled_7 : decode cX6_settled 7 = .ok (.aload_n 0, 1) := by decide +kernel
theorem dX6_settled_8 : decode cX6_settled 8 = .ok (.iload_n 1, 1) := by decide +kernel
theorem dX6_settled_9 : decode cX6_settled 9 = .ok (.invokevirtual 101, 3) := by decide +kernel
theorem dX6_settled_12 : decode cX6_settled 12 = .ok (.ireturn, 1) := by decide +kernel
theorem dX6_settled_13 : decode cX6_settled 13 = .ok (.aload_n 0, 1) := by decide +kernel
theorem dX6_settled_14 : decode cX6_settled 14 = .ok (.getfield 44, 3) := by decide +kernel
theorem dX6_settled_17 : decode cX6_settled 17 = .ok (.invokevirtual 218, 3) := by decide +kernel
theorem dX6_settled_20 : decode cX6_settled 20 = .ok (.iload_n 1, 1) := by decide +kernel
theorem dX6_settled_21 : decode cX6_settled 21 = .ok (.ireturn, 1) := by decide +kernel
theorem dX7_init_0 : decode cX7_init 0 = .ok (.aload_n 0, 1) := by decide +kernel
theorem dX7_init_1 : decode cX7_init 1 = .ok (.invokespecial 1, 3) := by decide +kernel
theorem dX7_init_4 : decode cX7_init 4 = .ok (.aload_n 0, 1) := by decide +kernel
theorem dX7_init_5 : decode cX7_init 5 = .ok (.bipush 26, 2) := by decide +kernel
theorem dX7_init_7 : decode cX7_init 7 = .ok (.newarray .int, 2) := by decide +kernel
theorem dX7_init_9 : decode cX7_init 9 = .ok (.putfield 7, 3) := by decide +kernel
theorem dX7_init_12 : decode cX7_init 12 = .ok (.aload_n 0, 1) := by decide +kernel
theorem dX7_init_13 : decode cX7_init 13 = .ok (.bipush 26, 2) := by decide +kernel
theorem dX7_init_15 : decode cX7_init 15 = .ok (.newarray .int, 2) := by decide +kernel
theorem dX7_init_17 : decode cX7_init 17 = .ok (.putfield 13, 3) := by decide +kernel
theorem dX7_init_20 : decode cX7_init 20 = .ok (.aload_n 0, 1) := by decide +kernel
theorem dX7_init_21 : decode cX7_init 21 = .ok (.sipush 130, 3) := by decide +kernel
theorem dX7_init_24 : decode cX7_init 24 = .ok (.newarray .int, 2) := by decide +kernel
theorem dX7_init_26 : decode cX7_init 26 = .ok (.putfield 16, 3) := by decide +kernel
theorem dX7_init_29 : decode cX7_init 29 = .ok (.aload_n 0, 1) := by decide +kernel
theorem dX7_init_30 : decode cX7_init 30 = .ok (.iconst 3, 1) := by decide +kernel
theorem dX7_init_31 : decode cX7_init 31 = .ok (.newarray .int, 2) := by decide +kernel
theorem dX7_init_33 : decode cX7_init 33 = .ok (.putfield 19, 3) := by decide +kernel
theorem dX7_init_36 : decode cX7_init 36 = .ok (.aload_n 0, 1) := by decide +kernel
theorem dX7_init_37 : decode cX7_init 37 = .ok (.bipush 120, 2) := by decide +kernel
theorem dX7_init_39 : decode cX7_init 39 = .ok (.newarray .int, 2) := by decide +kernel
theorem dX7_init_41 : decode cX7_init 41 = .ok (.putfield 22, 3) := by decide +kernel
theorem dX7_init_44 : decode cX7_init 44 = .ok (.aload_n 0, 1) := by decide +kernel
theorem dX7_init_45 : decode cX7_init 45 = .ok (.bipush 8, 2) := by decide +kernel
theorem dX7_init_47 : decode cX7_init 47 = .ok (.newarray .int, 2) := by decide +kernel
theorem dX7_init_49 : decode cX7_init 49 = .ok (.putfield 25, 3) := by decide +kernel
theorem dX7_init_52 : decode cX7_init 52 = .ok (.aload_n 0, 1) := by decide +kernel
theorem dX7_init_53 : decode cX7_init 53 = .ok (.bipush 8, 2) := by decide +kernel
theorem dX7_init_55 : decode cX7_init 55 = .ok (.newarray .int, 2) := by decide +kernel
theorem dX7_init_57 : decode cX7_init 57 = .ok (.putfield 28, 3) := by decide +kernel
theorem dX7_init_60 : decode cX7_init 60 = .ok (.aload_n 0, 1) := by decide +kernel
theorem dX7_init_61 : decode cX7_init 61 = .ok (.bipush 7, 2) := by decide +kernel
theorem dX7_init_63 : decode cX7_init 63 = .ok (.newarray .int, 2) := by decide +kernel
theorem dX7_init_65 : decode cX7_init 65 = .ok (.putfield 31, 3) := by decide +kernel
theorem dX7_init_68 : decode cX7_init 68 = .ok (.aload_n 0, 1) := by decide +kernel
theorem dX7_init_69 : decode cX7_init 69 = .ok (.bipush 64, 2) := by decide +kernel
theorem dX7_init_71 : decode cX7_init 71 = .ok (.newarray .int, 2) := by decide +kernel
theorem dX7_init_73 : decode cX7_init 73 = .ok (.putfield 34, 3) := by decide +kernel
theorem dX7_init_76 : decode cX7_init 76 = .ok (.aload_n 0, 1) := by decide +kernel
theorem dX7_init_77 : decode cX7_init 77 = .ok (.bipush 64, 2) := by decide +kernel
theorem dX7_init_79 : decode cX7_init 79 = .ok (.newarray .int, 2) := by decide +kernel
theorem dX7_init_81 : decode cX7_init 81 = .ok (.putfield 37, 3) := by decide +kernel
theorem dX7_init_84 : decode cX7_init 84 = .ok (.aload_n 0, 1) := by decide +kernel
theorem dX7_init_85 : decode cX7_init 85 = .ok (.sipush 256, 3) := by decide +kernel
theorem dX7_init_88 : decode cX7_init 88 = .ok (.newarray .int, 2) := by decide +kernel
theorem dX7_init_90 : decode cX7_init 90 = .ok (.putfield 40, 3) := by decide +kernel
theorem dX7_init_93 : decode cX7_init 93 = .ok (.aload_n 0, 1) := by decide +kernel
theorem dX7_init_94 : decode cX7_init 94 = .ok (.bipush 6, 2) := by decide +kernel
theorem dX7_init_96 : decode cX7_init 96 = .ok (.newarray .int, 2) := by decide +kernel
theorem dX7_init_98 : decode cX7_init 98 = .ok (.putfield 43, 3) := by decide +kernel
theorem dX7_init_101 : decode cX7_init 101 = .ok (.aload_n 0, 1) := by decide +kernel
theorem dX7_init_102 : decode cX7_init 102 = .ok (.bipush 60, 2) := by decide +kernel
theorem dX7_init_104 : decode cX7_init 104 = .ok (.newarray .int, 2) := by decide +kernel
theorem dX7_init_106 : decode cX7_init 106 = .ok (.putfield 46, 3) := by decide +kernel
theorem dX7_init_109 : decode cX7_init 109 = .ok (.aload_n 0, 1) := by decide +kernel
theorem dX7_init_110 : decode cX7_init 110 = .ok (.sipush 180, 3) := by decide +kernel
theorem dX7_init_113 : decode cX7_init 113 = .ok (.newarray .int, 2) := by decide +kernel
theorem dX7_init_115 : decode cX7_init 115 = .ok (.putfield 49, 3) := by decide +kernel
theorem dX7_init_118 : decode cX7_init 118 = .ok (.aload_n 0, 1) := by decide +kernel
theorem dX7_init_119 : decode cX7_init 119 = .ok (.getfield 7, 3) := by decide +kernel
theorem dX7_init_122 : decode cX7_init 122 = .ok (.iconst 1, 1) := by decide +kernel
theorem dX7_init_123 : decode cX7_init 123 = .ok (.iconst 5, 1) := by decide +kernel
theorem dX7_init_124 : decode cX7_init 124 = .ok (.iastore, 1) := by decide +kernel
theorem dX7_init_125 : decode cX7_init 125 = .ok (.aload_n 0, 1) := by decide +kernel
theorem dX7_init_126 : decode cX7_init 126 = .ok (.getfield 7, 3) := by decide +kernel
theorem dX7_init_129 : decode cX7_init 129 = .ok (.bipush 21, 2) := by decide +kernel
theorem dX7_init_131 : decode cX7_init 131 = .ok (.iconst 2, 1) := by decide +kernel
theorem dX7_init_132 : decode cX7_init 132 = .ok (.iastore, 1) := by decide +kernel
theorem dX7_init_133 : decode cX7_init 133 = .ok (.aload_n 0, 1) := by decide +kernel
theorem dX7_init_134 : decode cX7_init 134 = .ok (.getfield 7, 3) := by decide +kernel
theorem dX7_init_137 : decode cX7_init 137 = .ok (.bipush 22, 2) := by decide +kernel
theorem dX7_init_139 : decode cX7_init 139 = .ok (.bipush 8, 2) := by decide +kernel
theorem dX7_init_141 : decode cX7_init 141 = .ok (.iastore, 1) := by decide +kernel
theorem dX7_init_142 : decode cX7_init 142 = .ok (.aload_n 0, 1) := by decide +kernel
theorem dX7_init_143 : decode cX7_init 143 = .ok (.getfield 7, 3) := by decide +kernel
theorem dX7_init_146 : decode cX7_init 146 = .ok (.bipush 23, 2) := by decide +kernel
theorem dX7_init_148 : decode cX7_init 148 = .ok (.iconst 3, 1) := by decide +kernel
theorem dX7_init_149 : decode cX7_init 149 = .ok (.iastore, 1) := by decide +kernel
theorem dX7_init_150 : decode cX7_init 150 = .ok (.aload_n 0, 1) := by decide +kernel
theorem dX7_init_151 : decode cX7_init 151 = .ok (.getfield 7, 3) := by decide +kernel
theorem dX7_init_154 : decode cX7_init 154 = .ok (.bipush 24, 2) := by decide +kernel
theorem dX7_init_156 : decode cX7_init 156 = .ok (.iconst 5, 1) := by decide +kernel
theorem dX7_init_157 : decode cX7_init 157 = .ok (.iastore, 1) := by decide +kernel
theorem dX7_init_158 : decode cX7_init 158 = .ok (.aload_n 0, 1) := by decide +kernel
theorem dX7_init_159 : decode cX7_init 159 = .ok (.getfield 7, 3) := by decide +kernel
theorem dX7_init_162 : decode cX7_init 162 = .ok (.bipush 25, 2) := by decide +kernel
theorem dX7_init_164 : decode cX7_init 164 = .ok (.bipush 8, 2) := by decide +kernel
theorem dX7_init_166 : decode cX7_init 166 = .ok (.iastore, 1) := by decide +kernel
theorem dX7_init_167 : decode cX7_init 167 = .ok (.return_, 1) := by decide +kernel
theorem dX7_within_0 : decode cX7_within 0 = .ok (.iload_n 0, 1) := by decide +kernel
theorem dX7_within_1 : decode cX7_within 1 = .ok (.iload_n 1, 1) := by decide +kernel
theorem dX7_within_2 : decode cX7_within 2 = .ok (.if_icmp .lt 12, 3) := by decide +kernel
theorem dX7_within_5 : decode cX7_within 5 = .ok (.iload_n 0, 1) := by decide +kernel
theorem dX7_within_6 : decode cX7_within 6 = .ok (.iload_n 2, 1) := by decide +kernel
theorem dX7_within_7 : decode cX7_within 7 = .ok (.if_icmp .gt 7, 3) := by decide +kernel
theorem dX7_within_10 : decode cX7_within 10 = .ok (.iconst 1, 1) := by decide +kernel
theorem dX7_within_11 : decode cX7_within 11 = .ok (.goto 4, 3) := by decide +kernel
theorem dX7_within_14 : decode cX7_within 14 = .ok (.iconst 0, 1) := by decide +kernel
theorem dX7_within_15 : decode cX7_within 15 = .ok (.ireturn, 1) := by decide +kernel
theorem dX7_has_0 : decode cX7_has 0 = .ok (.iload_n 0, 1) := by decide +kernel
theorem dX7_has_1 : decode cX7_has 1 = .ok (.iload_n 1, 1) := by decide +kernel
theorem dX7_has_2 : decode cX7_has 2 = .ok (.ishr, 1) := by decide +kernel
theorem dX7_has_3 : decode cX7_has 3 = .ok (.iconst 1, 1) := by decide +kernel
theorem dX7_has_4 : decode cX7_has 4 = .ok (.iand, 1) := by decide +kernel
theorem dX7_has_5 : decode cX7_has 5 = .ok (.iconst 1, 1) := by decide +kernel
theorem dX7_has_6 : decode cX7_has 6 = .ok (.if_icmp .ne 7, 3) := by decide +kernel
theorem dX7_has_9 : decode cX7_has 9 = .ok (.iconst 1, 1) := by decide +kernel
theorem dX7_has_10 : decode cX7_has 10 = .ok (.goto 4, 3) := by decide +kernel
theorem dX7_has_13 : decode cX7_has 13 = .ok (.iconst 0, 1) := by decide +kernel
theorem dX7_has_14 : decode cX7_has 14 = .ok (.ireturn, 1) := by decide +kernel
theorem dX7_ones_0 : decode cX7_ones 0 = .ok (.iconst 0, 1) := by decide +kernel
theorem dX7_ones_1 : decode cX7_ones 1 = .ok (.istore_n 1, 1) := by decide +kernel
theorem dX7_ones_2 : decode cX7_ones 2 = .ok (.iconst 0, 1) := by decide +kernel
theorem dX7_ones_3 : decode cX7_ones 3 = .ok (.istore_n 2, 1) := by decide +kernel
theorem dX7_ones_4 : decode cX7_ones 4 = .ok (.iload_n 2, 1) := by decide +kernel
theorem dX7_ones_5 : decode cX7_ones 5 = .ok (.bipush 6, 2) := by decide +kernel
theorem dX7_ones_7 : decode cX7_ones 7 = .ok (.if_icmp .ge 17, 3) := by decide +kernel
theorem dX7_ones_10 : decode cX7_ones 10 = .ok (.iload_n 1, 1) := by decide +kernel
theorem dX7_ones_11 : decode cX7_ones 11 = .ok (.iload_n 0, 1) := by decide +kernel
theorem dX7_ones_12 : decode cX7_ones 12 = .ok (.iload_n 2, 1) := by decide +kernel
theorem dX7_ones_13 : decode cX7_ones 13 = .ok (.ishr, 1) := by decide +kernel
theorem dX7_ones_14 : decode cX7_ones 14 = .ok (.iconst 1, 1) := by decide +kernel
theorem dX7_ones_15 : decode cX7_ones 15 = .ok (.iand, 1) := by decide +kernel
theorem dX7_ones_16 : decode cX7_ones 16 = .ok (.iadd, 1) := by decide +kernel
theorem dX7_ones_17 : decode cX7_ones 17 = .ok (.istore_n 1, 1) := by decide +kernel
theorem dX7_ones_18 : decode cX7_ones 18 = .ok (.iinc 2 1, 3) := by decide +kernel
theorem dX7_ones_21 : decode cX7_ones 21 = .ok (.goto (-17), 3) := by decide +kernel
theorem dX7_ones_24 : decode cX7_ones 24 = .ok (.iload_n 1, 1) := by decide +kernel
theorem dX7_ones_25 : decode cX7_ones 25 = .ok (.ireturn, 1) := by decide +kernel
theorem dX7_counts_0 : decode cX7_counts 0 = .ok (.aload_n 0, 1) := by decide +kernel
theorem dX7_counts_1 : decode cX7_counts 1 = .ok (.getfield 19, 3) := by decide +kernel
theorem dX7_counts_4 : decode cX7_counts 4 = .ok (.sipush (-1001), 3) := by decide +kernel
theorem dX7_counts_7 : decode cX7_counts 7 = .ok (.iload_n 1, 1) := by decide +kernel
theorem dX7_counts_8 : decode cX7_counts 8 = .ok (.isub, 1) := by decide +kernel
theorem dX7_counts_9 : decode cX7_counts 9 = .ok (.dup2, 1) := by decide +kernel
theorem dX7_counts_10 : decode cX7_counts 10 = .ok (.iaload, 1) := by decide +kernel
theorem dX7_counts_11 : decode cX7_counts 11 = .ok (.iconst 1, 1) := by decide +kernel
theorem dX7_counts_12 : decode cX7_counts 12 = .ok (.iadd, 1) := by decide +kernel
theorem dX7_counts_13 : decode cX7_counts 13 = .ok (.iastore, 1) := by decide +kernel
theorem dX7_counts_14 : decode cX7_counts 14 = .ok (.iload_n 1, 1) := by decide +kernel
theorem dX7_counts_15 : decode cX7_counts 15 = .ok (.ireturn, 1) := by decide +kernel
set_option maxRecDepth 20000 in
theorem ggX7_isBend_X7_within : GoodIn wsX7_isBend wsX7_within := goodIn_r _ [5] (by decide +kernel) (by decide +kernel)
set_option maxRecDepth 20000 in
theorem gX7_isBend_X7_within : GoodIn wsX7_isBend (va_wsS RX7 52 yX7_within wsX7_within) := goodIn_app (goodIn_of _ (by decide +kernel)) ggX7_isBend_X7_within
theorem dX7_isBend_0 : decode cX7_isBend 0 = .ok (.iload_n 1, 1) := by decide +kernel
theorem dX7_isBend_1 : decode cX7_isBend 1 = .ok (.iconst 0, 1) := by decide +kernel
theorem dX7_isBend_2 : decode cX7_isBend 2 = .ok (.aload_n 0, 1) := by decide +kernel
theorem dX7_isBend_3 : decode cX7_isBend 3 = .ok (.getfield 7, 3) := by decide +kernel
theorem dX7_isBend_6 : decode cX7_isBend 6 = .ok (.iconst 0, 1) := by decide +kernel
theorem dX7_isBend_7 : decode cX7_isBend 7 = .ok (.iaload, 1) := by decide +kernel
theorem dX7_isBend_8 : decode cX7_isBend 8 = .ok (.iconst 1, 1) := by decide +kernel
theorem dX7_isBend_9 : decode cX7_isBend 9 = .ok (.isub, 1) := by decide +kernel
theorem dX7_isBend_10 : decode cX7_isBend 10 = .ok (.invokestatic 52, 3) := by decide +kernel
theorem dX7_isBend_13 : decode cX7_isBend 13 = .ok (.ireturn, 1) := by decide +kernel
theorem dX7_allMade_0 : decode cX7_allMade 0 = .ok (.iconst 1, 1) := by decide +kernel
theorem dX7_allMade_1 : decode cX7_allMade 1 = .ok (.aload_n 0, 1) := by decide +kernel
theorem dX7_allMade_2 : decode cX7_allMade 2 = .ok (.getfield 7, 3) := by decide +kernel
theorem dX7_allMade_5 : decode cX7_allMade 5 = .ok (.iconst 0, 1) := by decide +kernel
theorem dX7_allMade_6 : decode cX7_allMade 6 = .ok (.iaload, 1) := by decide +kernel
theorem dX7_allMade_7 : decode cX7_allMade 7 = .ok (.ishl, 1) := by decide +kernel
theorem dX7_allMade_8 : decode cX7_allMade 8 = .ok (.iconst 1, 1) := by decide +kernel
theorem dX7_allMade_9 : decode cX7_allMade 9 = .ok (.isub, 1) := by decide +kernel
theorem dX7_allMade_10 : decode cX7_allMade 10 = .ok (.ireturn, 1) := by decide +kernel
theorem dX7_leaves_0 : decode cX7_leaves 0 = .ok (.aload_n 0, 1) := by decide +kernel
theorem dX7_leaves_1 : decode cX7_leaves 1 = .ok (.getfield 56, 3) := by decide +kernel
theorem dX7_leaves_4 : decode cX7_leaves 4 = .ok (.iconst 5, 1) := by decide +kernel
theorem dX7_leaves_5 : decode cX7_leaves 5 = .ok (.if_icmp .ne 42, 3) := by decide +kernel
theorem dX7_leaves_8 : decode cX7_leaves 8 = .ok (.iconst 0, 1) := by decide +kernel
theorem dX7_leaves_9 : decode cX7_leaves 9 = .ok (.istore_n 1, 1) := by decide +kernel
theorem dX7_leaves_10 : decode cX7_leaves 10 = .ok (.iload_n 1, 1) := by decide +kernel
theorem dX7_leaves_11 : decode cX7_leaves 11 = .ok (.bipush 104, 2) := by decide +kernel
theorem dX7_leaves_13 : decode cX7_leaves 13 = .ok (.if_icmp .ge 24, 3) := by decide +kernel
theorem dX7_leaves_16 : decode cX7_leaves 16 = .ok (.aload_n 0, 1) := by decide +kernel
theorem dX7_leaves_17 : decode cX7_leaves 17 = .ok (.getfield 16, 3) := by decide +kernel
theorem dX7_leaves_20 : decode cX7_leaves 20 = .ok (.iload_n 1, 1) := by decide +kernel
theorem dX7_leaves_21 : decode cX7_leaves 21 = .ok (.aload_n 0, 1) := by decide +kernel
theorem dX7_leaves_22 : decode cX7_leaves 22 = .ok (.getfield 16, 3) := by decide +kernel
theorem dX7_leaves_25 : decode cX7_leaves 25 = .ok (.iload_n 1, 1) := by decide +kernel
theorem dX7_leaves_26 : decode cX7_leaves 26 = .ok (.bipush 26, 2) := by decide +kernel
theorem dX7_leaves_28 : decode cX7_leaves 28 = .ok (.iadd, 1) := by decide +kernel
theorem dX7_leaves_29 : decode cX7_leaves 29 = .ok (.iaload, 1) := by decide +kernel
theorem dX7_leaves_30 : decode cX7_leaves 30 = .ok (.iastore, 1) := by decide +kernel
theorem dX7_leaves_31 : decode cX7_leaves 31 = .ok (.iinc 1 1, 3) := by decide +kernel
theorem dX7_leaves_34 : decode cX7_leaves 34 = .ok (.goto (-24), 3) := by decide +kernel
theorem dX7_leaves_37 : decode cX7_leaves 37 = .ok (.aload_n 0, 1) := by decide +kernel
theorem dX7_leaves_38 : decode cX7_leaves 38 = .ok (.dup, 1) := by decide +kernel
theorem dX7_leaves_39 : decode cX7_leaves 39 = .ok (.getfield 56, 3) := by decide +kernel
theorem dX7_leaves_42 : decode cX7_leaves 42 = .ok (.iconst 1, 1) := by decide +kernel
theorem dX7_leaves_43 : decode cX7_leaves 43 = .ok (.isub, 1) := by decide +kernel
theorem dX7_leaves_44 : decode cX7_leaves 44 = .ok (.putfield 56, 3) := by decide +kernel
theorem dX7_leaves_47 : decode cX7_leaves 47 = .ok (.iconst 0, 1) := by decide +kernel
theorem dX7_leaves_48 : decode cX7_leaves 48 = .ok (.istore_n 1, 1) := by decide +kernel
theorem dX7_leaves_49 : decode cX7_leaves 49 = .ok (.iload_n 1, 1) := by decide +kernel
theorem dX7_leaves_50 : decode cX7_leaves 50 = .ok (.bipush 26, 2) := by decide +kernel
theorem dX7_leaves_52 : decode cX7_leaves 52 = .ok (.if_icmp .ge 29, 3) := by decide +kernel
theorem dX7_leaves_55 : decode cX7_leaves 55 = .ok (.aload_n 0, 1) := by decide +kernel
theorem dX7_leaves_56 : decode cX7_leaves 56 = .ok (.getfield 16, 3) := by decide +kernel
theorem dX7_leaves_59 : decode cX7_leaves 59 = .ok (.bipush 26, 2) := by decide +kernel
theorem dX7_leaves_61 : decode cX7_leaves 61 = .ok (.aload_n 0, 1) := by decide +kernel
theorem dX7_leaves_62 : decode cX7_leaves 62 = .ok (.getfield 56, 3) := by decide +kernel
theorem dX7_leaves_65 : decode cX7_leaves 65 = .ok (.imul, 1) := by decide +kernel
theorem dX7_leaves_66 : decode cX7_leaves 66 = .ok (.iload_n 1, 1) := by decide +kernel
theorem dX7_leaves_67 : decode cX7_leaves 67 = .ok (.iadd, 1) := by decide +kernel
theorem dX7_leaves_68 : decode cX7_leaves 68 = .ok (.aload_n 0, 1) := by decide +kernel
theorem dX7_leaves_69 : decode cX7_leaves 69 = .ok (.getfield 7, 3) := by decide +kernel
theorem dX7_leaves_72 : decode cX7_leaves 72 = .ok (.iload_n 1, 1) := by decide +kernel
theorem dX7_leaves_73 : decode cX7_leaves 73 = .ok (.iaload, 1) := by decide +kernel
theorem dX7_leaves_74 : decode cX7_leaves 74 = .ok (.iastore, 1) := by decide +kernel
theorem dX7_leaves_75 : decode cX7_leaves 75 = .ok (.iinc 1 1, 3) := by decide +kernel
theorem dX7_leaves_78 : decode cX7_leaves 78 = .ok (.goto (-29), 3) := by decide +kernel
theorem dX7_leaves_81 : decode cX7_leaves 81 = .ok (.aload_n 0, 1) := by decide +kernel
theorem dX7_leaves_82 : decode cX7_leaves 82 = .ok (.dup, 1) := by decide +kernel
theorem dX7_leaves_83 : decode cX7_leaves 83 = .ok (.getfield 56, 3) := by decide +kernel
theorem dX7_leaves_86 : decode cX7_leaves 86 = .ok (.iconst 1, 1) := by decide +kernel
theorem dX7_leaves_87 : decode cX7_leaves 87 = .ok (.iadd, 1) := by decide +kernel
theorem dX7_leaves_88 : decode cX7_leaves 88 = .ok (.putfield 56, 3) := by decide +kernel
theorem dX7_leaves_91 : decode cX7_leaves 91 = .ok (.return_, 1) := by decide +kernel
set_option maxRecDepth 20000 in
theorem ggX7_back_X7_counts : GoodIn wsX7_back wsX7_counts := goodIn_r _ [8, 9, 10, 11, 12, 13, 14, 15, 16, 17, 18, 19, 20, 21, 22, 23, 24, 25, 26, 27, 28] (by decide +kernel) (by decide +kernel)
set_option maxRecDepth 20000 in
theorem gX7_back_X7_counts : GoodIn wsX7_back (wsV RX7 60 RX7 yX7_counts wsX7_counts) := goodIn_app (goodIn_of _ (by decide +kernel)) ggX7_back_X7_counts
theorem dX7_back_0 : decode cX7_back 0 = .ok (.aload_n 0, 1) := by decide +kernel
theorem dX7_back_1 : decode cX7_back 1 = .ok (.getfield 56, 3) := by decide +kernel
theorem dX7_back_4 : decode cX7_back 4 = .ok (.ifCond .ne 11, 3) := by decide +kernel
theorem dX7_back_7 : decode cX7_back 7 = .ok (.aload_n 0, 1) := by decide +kernel
theorem dX7_back_8 : decode cX7_back 8 = .ok (.sipush (-1002), 3) := by decide +kernel
theorem dX7_back_11 : decode cX7_back 11 = .ok (.invokevirtual 60, 3) := by decide +kernel
theorem dX7_back_14 : decode cX7_back 14 = .ok (.ireturn, 1) := by decide +kernel
theorem dX7_back_15 : decode cX7_back 15 = .ok (.aload_n 0, 1) := by decide +kernel
theorem dX7_back_16 : decode cX7_back 16 = .ok (.dup, 1) := by decide +kernel
theorem dX7_back_17 : decode cX7_back 17 = .ok (.getfield 56, 3) := by decide +kernel
theorem dX7_back_20 : decode cX7_back 20 = .ok (.iconst 1, 1) := by decide +kernel
theorem dX7_back_21 : decode cX7_back 21 = .ok (.isub, 1) := by decide +kernel
theorem dX7_back_22 : decode cX7_back 22 = .ok (.putfield 56, 3) := by decide +kernel
theorem dX7_back_25 : decode cX7_back 25 = .ok (.iconst 0, 1) := by decide +kernel
theorem dX7_back_26 : decode cX7_back 26 = .ok (.istore_n 1, 1) := by decide +kernel
theorem dX7_back_27 : decode cX7_back 27 = .ok (.iload_n 1, 1) := by decide +kernel
theorem dX7_back_28 : decode cX7_back 28 = .ok (.bipush 26, 2) := by decide +kernel
theorem dX7_back_30 : decode cX7_back 30 = .ok (.if_icmp .ge 29, 3) := by decide +kernel
theorem dX7_back_33 : decode cX7_back 33 = .ok (.aload_n 0, 1) := by decide +kernel
theorem dX7_back_34 : decode cX7_back 34 = .ok (.getfield 7, 3) := by decide +kernel
theorem dX7_back_37 : decode cX7_back 37 = .ok (.iload_n 1, 1) := by decide +kernel
theorem dX7_back_38 : decode cX7_back 38 = .ok (.aload_n 0, 1) := by decide +kernel
theorem dX7_back_39 : decode cX7_back 39 = .ok (.getfield 16, 3) := by decide +kernel
theorem dX7_back_42 : decode cX7_back 42 = .ok (.bipush 26, 2) := by decide +kernel
theorem dX7_back_44 : decode cX7_back 44 = .ok (.aload_n 0, 1) := by decide +kernel
theorem dX7_back_45 : decode cX7_back 45 = .ok (.getfield 56, 3) := by decide +kernel
theorem dX7_back_48 : decode cX7_back 48 = .ok (.imul, 1) := by decide +kernel
theorem dX7_back_49 : decode cX7_back 49 = .ok (.iload_n 1, 1) := by decide +kernel
theorem dX7_back_50 : decode cX7_back 50 = .ok (.iadd, 1) := by decide +kernel
theorem dX7_back_51 : decode cX7_back 51 = .ok (.iaload, 1) := by decide +kernel
theorem dX7_back_52 : decode cX7_back 52 = .ok (.iastore, 1) := by decide +kernel
theorem dX7_back_53 : decode cX7_back 53 = .ok (.iinc 1 1, 3) := by decide +kernel
theorem dX7_back_56 : decode cX7_back 56 = .ok (.goto (-29), 3) := by decide +kernel
theorem dX7_back_59 : decode cX7_back 59 = .ok (.aload_n 0, 1) := by decide +kernel
theorem dX7_back_60 : decode cX7_back 60 = .ok (.getfield 56, 3) := by decide +kernel
theorem dX7_back_63 : decode cX7_back 63 = .ok (.ireturn, 1) := by decide +kernel
theorem dX7_alongX_0 : decode cX7_alongX 0 = .ok (.iload_n 0, 1) := by decide +kernel
theorem dX7_alongX_1 : decode cX7_alongX 1 = .ok (.ifCond .ne 7, 3) := by decide +kernel
theorem dX7_alongX_4 : decode cX7_alongX 4 = .ok (.iconst 1, 1) := by decide +kernel
theorem dX7_alongX_5 : decode cX7_alongX 5 = .ok (.goto 13, 3) := by decide +kernel
theorem dX7_alongX_8 : decode cX7_alongX 8 = .ok (.iload_n 0, 1) := by decide +kernel
theorem dX7_alongX_9 : decode cX7_alongX 9 = .ok (.iconst 2, 1) := by decide +kernel
theorem dX7_alongX_10 : decode cX7_alongX 10 = .ok (.if_icmp .ne 7, 3) := by decide +kernel
theorem dX7_alongX_13 : decode cX7_alongX 13 = .ok (.iconst (-1), 1) := by decide +kernel
theorem dX7_alongX_14 : decode cX7_alongX 14 = .ok (.goto 4, 3) := by decide +kernel
theorem dX7_alongX_17 : decode cX7_alongX 17 = .ok (.iconst 0, 1) := by decide +kernel
theorem dX7_alongX_18 : decode cX7_alongX 18 = .ok (.ireturn, 1) := by decide +kernel
theorem dX7_alongY_0 : decode cX7_alongY 0 = .ok (.iload_n 0, 1) := by decide +kernel
theorem dX7_alongY_1 : decode cX7_alongY 1 = .ok (.iconst 1, 1) := by decide +kernel
theorem dX7_alongY_2 : decode cX7_alongY 2 = .ok (.if_icmp .ne 7, 3) := by decide +kernel
theorem dX7_alongY_5 : decode cX7_alongY 5 = .ok (.iconst 1, 1) := by decide +kernel
theorem dX7_alongY_6 : decode cX7_alongY 6 = .ok (.goto 13, 3) := by decide +kernel
theorem dX7_alongY_9 : decode cX7_alongY 9 = .ok (.iload_n 0, 1) := by decide +kernel
theorem dX7_alongY_10 : decode cX7_alongY 10 = .ok (.iconst 3, 1) := by decide +kernel
theorem dX7_alongY_11 : decode cX7_alongY 11 = .ok (.if_icmp .ne 7, 3) := by decide +kernel
theorem dX7_alongY_14 : decode cX7_alongY 14 = .ok (.iconst (-1), 1) := by decide +kernel
theorem dX7_alongY_15 : decode cX7_alongY 15 = .ok (.goto 4, 3) := by decide +kernel
theorem dX7_alongY_18 : decode cX7_alongY 18 = .ok (.iconst 0, 1) := by decide +kernel
theorem dX7_alongY_19 : decode cX7_alongY 19 = .ok (.ireturn, 1) := by decide +kernel
set_option maxRecDepth 20000 in
theorem ggX7_lays_X7_alongX : GoodIn wsX7_lays wsX7_alongX := goodIn_r _ [8] (by decide +kernel) (by decide +kernel)
set_option maxRecDepth 20000 in
theorem gX7_lays_X7_alongX : GoodIn wsX7_lays (va_wsS RX7 64 yX7_alongX wsX7_alongX) := goodIn_app (goodIn_of _ (by decide +kernel)) ggX7_lays_X7_alongX
set_option maxRecDepth 20000 in
theorem ggX7_lays_X7_alongY : GoodIn wsX7_lays wsX7_alongY := goodIn_r _ [11] (by decide +kernel) (by decide +kernel)
set_option maxRecDepth 20000 in
theorem gX7_lays_X7_alongY : GoodIn wsX7_lays (va_wsS RX7 67 yX7_alongY wsX7_alongY) := goodIn_app (goodIn_of _ (by decide +kernel)) ggX7_lays_X7_alongY
set_option maxRecDepth 20000 in
theorem ggX7_lays_X7_has : GoodIn wsX7_lays wsX7_has := goodIn_r _ [14] (by decide +kernel) (by decide +kernel)
set_option maxRecDepth 20000 in
theorem gX7_lays_X7_has : GoodIn wsX7_lays (va_wsS RX7 70 yX7_has wsX7_has) := goodIn_app (goodIn_of _ (by decide +kernel)) ggX7_lays_X7_has
theorem dX7_lays_0 : decode cX7_lays 0 = .ok (.iconst 0, 1) := by decide +kernel
theorem dX7_lays_1 : decode cX7_lays 1 = .ok (.istore_n 2, 1) := by decide +kernel
theorem dX7_lays_2 : decode cX7_lays 2 = .ok (.aload_n 0, 1) := by decide +kernel
theorem dX7_lays_3 : decode cX7_lays 3 = .ok (.getfield 25, 3) := by decide +kernel
theorem dX7_lays_6 : decode cX7_lays 6 = .ok (.iconst 0, 1) := by decide +kernel
theorem dX7_lays_7 : decode cX7_lays 7 = .ok (.iconst 0, 1) := by decide +kernel
theorem dX7_lays_8 : decode cX7_lays 8 = .ok (.iastore, 1) := by decide +kernel
theorem dX7_lays_9 : decode cX7_lays 9 = .ok (.aload_n 0, 1) := by decide +kernel
theorem dX7_lays_10 : decode cX7_lays 10 = .ok (.getfield 28, 3) := by decide +kernel
theorem dX7_lays_13 : decode cX7_lays 13 = .ok (.iconst 0, 1) := by decide +kernel
theorem dX7_lays_14 : decode cX7_lays 14 = .ok (.iconst 0, 1) := by decide +kernel
theorem dX7_lays_15 : decode cX7_lays 15 = .ok (.iastore, 1) := by decide +kernel
theorem dX7_lays_16 : decode cX7_lays 16 = .ok (.iconst 0, 1) := by decide +kernel
theorem dX7_lays_17 : decode cX7_lays 17 = .ok (.istore_n 3, 1) := by decide +kernel
theorem dX7_lays_18 : decode cX7_lays 18 = .ok (.iload_n 3, 1) := by decide +kernel
theorem dX7_lays_19 : decode cX7_lays 19 = .ok (.aload_n 0, 1) := by decide +kernel
theorem dX7_lays_20 : decode cX7_lays 20 = .ok (.getfield 7, 3) := by decide +kernel
theorem dX7_lays_23 : decode cX7_lays 23 = .ok (.iconst 0, 1) := by decide +kernel
theorem dX7_lays_24 : decode cX7_lays 24 = .ok (.iaload, 1) := by decide +kernel
theorem dX7_lays_25 : decode cX7_lays 25 = .ok (.if_icmp .gt 108, 3) := by decide +kernel
theorem dX7_lays_28 : decode cX7_lays 28 = .ok (.aload_n 0, 1) := by decide +kernel
theorem dX7_lays_29 : decode cX7_lays 29 = .ok (.getfield 31, 3) := by decide +kernel
theorem dX7_lays_32 : decode cX7_lays 32 = .ok (.iload_n 3, 1) := by decide +kernel
theorem dX7_lays_33 : decode cX7_lays 33 = .ok (.iload_n 2, 1) := by decide +kernel
theorem dX7_lays_34 : decode cX7_lays 34 = .ok (.iastore, 1) := by decide +kernel
theorem dX7_lays_35 : decode cX7_lays 35 = .ok (.aload_n 0, 1) := by decide +kernel
theorem dX7_lays_36 : decode cX7_lays 36 = .ok (.getfield 25, 3) := by decide +kernel
theorem dX7_lays_39 : decode cX7_lays 39 = .ok (.iload_n 3, 1) := by decide +kernel
theorem dX7_lays_40 : decode cX7_lays 40 = .ok (.iconst 1, 1) := by decide +kernel
theorem dX7_lays_41 : decode cX7_lays 41 = .ok (.iadd, 1) := by decide +kernel
theorem dX7_lays_42 : decode cX7_lays 42 = .ok (.aload_n 0, 1) := by decide +kernel
theorem dX7_lays_43 : decode cX7_lays 43 = .ok (.getfield 25, 3) := by decide +kernel
theorem dX7_lays_46 : decode cX7_lays 46 = .ok (.iload_n 3, 1) := by decide +kernel
theorem dX7_lays_47 : decode cX7_lays 47 = .ok (.iaload, 1) := by decide +kernel
theorem dX7_lays_48 : decode cX7_lays 48 = .ok (.iload_n 2, 1) := by decide +kernel
theorem dX7_lays_49 : decode cX7_lays 49 = .ok (.invokestatic 64, 3) := by decide +kernel
theorem dX7_lays_52 : decode cX7_lays 52 = .ok (.aload_n 0, 1) := by decide +kernel
theorem dX7_lays_53 : decode cX7_lays 53 = .ok (.getfield 7, 3) := by decide +kernel
theorem dX7_lays_56 : decode cX7_lays 56 = .ok (.iconst 1, 1) := by decide +kernel
theorem dX7_lays_57 : decode cX7_lays 57 = .ok (.iload_n 3, 1) := by decide +kernel
theorem dX7_lays_58 : decode cX7_lays 58 = .ok (.iadd, 1) := by decide +kernel
theorem dX7_lays_59 : decode cX7_lays 59 = .ok (.iaload, 1) := by decide +kernel
theorem dX7_lays_60 : decode cX7_lays 60 = .ok (.imul, 1) := by decide +kernel
theorem dX7_lays_61 : decode cX7_lays 61 = .ok (.iadd, 1) := by decide +kernel
theorem dX7_lays_62 : decode cX7_lays 62 = .ok (.iastore, 1) := by decide +kernel
theorem dX7_lays_63 : decode cX7_lays 63 = .ok (.aload_n 0, 1) := by decide +kernel
theorem dX7_lays_64 : decode cX7_lays 64 = .ok (.getfield 28, 3) := by decide +kernel
theorem dX7_lays_67 : decode cX7_lays 67 = .ok (.iload_n 3, 1) := by decide +kernel
theorem dX7_lays_68 : decode cX7_lays 68 = .ok (.iconst 1, 1) := by decide +kernel
theorem dX7_lays_69 : decode cX7_lays 69 = .ok (.iadd, 1) := by decide +kernel
theorem dX7_lays_70 : decode cX7_lays 70 = .ok (.aload_n 0, 1) := by decide +kernel
theorem dX7_lays_71 : decode cX7_lays 71 = .ok (.getfield 28, 3) := by decide +kernel
theorem dX7_lays_74 : decode cX7_lays 74 = .ok (.iload_n 3, 1) := by decide +kernel
theorem dX7_lays_75 : decode cX7_lays 75 = .ok (.iaload, 1) := by decide +kernel
theorem dX7_lays_76 : decode cX7_lays 76 = .ok (.iload_n 2, 1) := by decide +kernel
theorem dX7_lays_77 : decode cX7_lays 77 = .ok (.invokestatic 67, 3) := by decide +kernel
theorem dX7_lays_80 : decode cX7_lays 80 = .ok (.aload_n 0, 1) := by decide +kernel
theorem dX7_lays_81 : decode cX7_lays 81 = .ok (.getfield 7, 3) := by decide +kernel
theorem dX7_lays_84 : decode cX7_lays 84 = .ok (.iconst 1, 1) := by decide +kernel
theorem dX7_lays_85 : decode cX7_lays 85 = .ok (.iload_n 3, 1) := by decide +kernel
theorem dX7_lays_86 : decode cX7_lays 86 = .ok (.iadd, 1) := by decide +kernel
theorem dX7_lays_87 : decode cX7_lays 87 = .ok (.iaload, 1) := by decide +kernel
theorem dX7_lays_88 : decode cX7_lays 88 = .ok (.imul, 1) := by decide +kernel
theorem dX7_lays_89 : decode cX7_lays 89 = .ok (.iadd, 1) := by decide +kernel
theorem dX7_lays_90 : decode cX7_lays 90 = .ok (.iastore, 1) := by decide +kernel
theorem dX7_lays_91 : decode cX7_lays 91 = .ok (.iload_n 3, 1) := by decide +kernel
theorem dX7_lays_92 : decode cX7_lays 92 = .ok (.aload_n 0, 1) := by decide +kernel
theorem dX7_lays_93 : decode cX7_lays 93 = .ok (.getfield 7, 3) := by decide +kernel
theorem dX7_lays_96 : decode cX7_lays 96 = .ok (.iconst 0, 1) := by decide +kernel
theorem dX7_lays_97 : decode cX7_lays 97 = .ok (.iaload, 1) := by decide +kernel
theorem dX7_lays_98 : decode cX7_lays 98 = .ok (.if_icmp .ge 27, 3) := by decide +kernel
theorem dX7_lays_101 : decode cX7_lays 101 = .ok (.iload_n 1, 1) := by decide +kernel
theorem dX7_lays_102 : decode cX7_lays 102 = .ok (.iload_n 3, 1) := by decide +kernel
theorem dX7_lays_103 : decode cX7_lays 103 = .ok (.invokestatic 70, 3) := by decide +kernel
theorem dX7_lays_106 : decode cX7_lays 106 = .ok (.ifCond .eq 19, 3) := by decide +kernel
theorem dX7_lays_109 : decode cX7_lays 109 = .ok (.iload_n 2, 1) := by decide +kernel
theorem dX7_lays_110 : decode cX7_lays 110 = .ok (.aload_n 0, 1) := by decide +kernel
theorem dX7_lays_111 : decode cX7_lays 111 = .ok (.getfield 7, 3) := by decide +kernel
theorem dX7_lays_114 : decode cX7_lays 114 = .ok (.bipush 8, 2) := by decide +kernel
theorem dX7_lays_116 : decode cX7_lays 116 = .ok (.iload_n 3, 1) := by decide +kernel
theorem dX7_lays_117 : decode cX7_lays 117 = .ok (.iadd, 1) := by decide +kernel
theorem dX7_lays_118 : decode cX7_lays 118 = .ok (.iaload, 1) := by decide +kernel
theorem dX7_lays_119 : decode cX7_lays 119 = .ok (.iadd, 1) := by decide +kernel
theorem dX7_lays_120 : decode cX7_lays 120 = .ok (.iconst 3, 1) := by decide +kernel
theorem dX7_lays_121 : decode cX7_lays 121 = .ok (.iand, 1) := by decide +kernel
theorem dX7_lays_122 : decode cX7_lays 122 = .ok (.goto 4, 3) := by decide +kernel
theorem dX7_lays_125 : decode cX7_lays 125 = .ok (.iload_n 2, 1) := by decide +kernel
theorem dX7_lays_126 : decode cX7_lays 126 = .ok (.istore_n 2, 1) := by decide +kernel
theorem dX7_lays_127 : decode cX7_lays 127 = .ok (.iinc 3 1, 3) := by decide +kernel
theorem dX7_lays_130 : decode cX7_lays 130 = .ok (.goto (-112), 3) := by decide +kernel
theorem dX7_lays_133 : decode cX7_lays 133 = .ok (.return_, 1) := by decide +kernel
set_option maxRecDepth 20000 in
theorem ggX7_turnsTo_X7_alongX : GoodIn wsX7_turnsTo wsX7_alongX := goodIn_r _ [8] (by decide +kernel) (by decide +kernel)
set_option maxRecDepth 20000 in
theorem gX7_turnsTo_X7_alongX : GoodIn wsX7_turnsTo (va_wsS RX7 64 yX7_alongX wsX7_alongX) := goodIn_app (goodIn_of _ (by decide +kernel)) ggX7_turnsTo_X7_alongX
set_option maxRecDepth 20000 in
theorem ggX7_turnsTo_X7_alongY : GoodIn wsX7_turnsTo wsX7_alongY := goodIn_r _ [11] (by decide +kernel) (by decide +kernel)
set_option maxRecDepth 20000 in
theorem gX7_turnsTo_X7_alongY : GoodIn wsX7_turnsTo (va_wsS RX7 67 yX7_alongY wsX7_alongY) := goodIn_app (goodIn_of _ (by decide +kernel)) ggX7_turnsTo_X7_alongY
theorem dX7_turnsTo_0 : decode cX7_turnsTo 0 = .ok (.aload_n 0, 1) := by decide +kernel
theorem dX7_turnsTo_1 : decode cX7_turnsTo 1 = .ok (.getfield 25, 3) := by decide +kernel
theorem dX7_turnsTo_4 : decode cX7_turnsTo 4 = .ok (.iload_n 1, 1) := by decide +kernel
theorem dX7_turnsTo_5 : decode cX7_turnsTo 5 = .ok (.iconst 1, 1) := by decide +kernel
theorem dX7_turnsTo_6 : decode cX7_turnsTo 6 = .ok (.iadd, 1) := by decide +kernel
theorem dX7_turnsTo_7 : decode cX7_turnsTo 7 = .ok (.iaload, 1) := by decide +kernel
theorem dX7_turnsTo_8 : decode cX7_turnsTo 8 = .ok (.istore_n 2, 1) := by decide +kernel
theorem dX7_turnsTo_9 : decode cX7_turnsTo 9 = .ok (.aload_n 0, 1) := by decide +kernel
theorem dX7_turnsTo_10 : decode cX7_turnsTo 10 = .ok (.getfield 28, 3) := by decide +kernel
theorem dX7_turnsTo_13 : decode cX7_turnsTo 13 = .ok (.iload_n 1, 1) := by decide +kernel
theorem dX7_turnsTo_14 : decode cX7_turnsTo 14 = .ok (.iconst 1, 1) := by decide +kernel
theorem dX7_turnsTo_15 : decode cX7_turnsTo 15 = .ok (.iadd, 1) := by decide +kernel
theorem dX7_turnsTo_16 : decode cX7_turnsTo 16 = .ok (.iaload, 1) := by decide +kernel
theorem dX7_turnsTo_17 : decode cX7_turnsTo 17 = .ok (.istore_n 3, 1) := by decide +kernel
theorem dX7_turnsTo_18 : decode cX7_turnsTo 18 = .ok (.aload_n 0, 1) := by decide +kernel
theorem dX7_turnsTo_19 : decode cX7_turnsTo 19 = .ok (.getfield 31, 3) := by decide +kernel
theorem dX7_turnsTo_22 : decode cX7_turnsTo 22 = .ok (.iload_n 1, 1) := by decide +kernel
theorem dX7_turnsTo_23 : decode cX7_turnsTo 23 = .ok (.iconst 1, 1) := by decide +kernel
theorem dX7_turnsTo_24 : decode cX7_turnsTo 24 = .ok (.iadd, 1) := by decide +kernel
theorem dX7_turnsTo_25 : decode cX7_turnsTo 25 = .ok (.iaload, 1) := by decide +kernel
theorem dX7_turnsTo_26 : decode cX7_turnsTo 26 = .ok (.istore 4, 2) := by decide +kernel
theorem dX7_turnsTo_28 : decode cX7_turnsTo 28 = .ok (.iconst 0, 1) := by decide +kernel
theorem dX7_turnsTo_29 : decode cX7_turnsTo 29 = .ok (.istore 5, 2) := by decide +kernel
theorem dX7_turnsTo_31 : decode cX7_turnsTo 31 = .ok (.iload 5, 2) := by decide +kernel
theorem dX7_turnsTo_33 : decode cX7_turnsTo 33 = .ok (.aload_n 0, 1) := by decide +kernel
theorem dX7_turnsTo_34 : decode cX7_turnsTo 34 = .ok (.getfield 7, 3) := by decide +kernel
theorem dX7_turnsTo_37 : decode cX7_turnsTo 37 = .ok (.iconst 0, 1) := by decide +kernel
theorem dX7_turnsTo_38 : decode cX7_turnsTo 38 = .ok (.iaload, 1) := by decide +kernel
theorem dX7_turnsTo_39 : decode cX7_turnsTo 39 = .ok (.iconst 2, 1) := by decide +kernel
theorem dX7_turnsTo_40 : decode cX7_turnsTo 40 = .ok (.iadd, 1) := by decide +kernel
theorem dX7_turnsTo_41 : decode cX7_turnsTo 41 = .ok (.if_icmp .ge 79, 3) := by decide +kernel
theorem dX7_turnsTo_44 : decode cX7_turnsTo 44 = .ok (.aload_n 0, 1) := by decide +kernel
theorem dX7_turnsTo_45 : decode cX7_turnsTo 45 = .ok (.getfield 25, 3) := by decide +kernel
theorem dX7_turnsTo_48 : decode cX7_turnsTo 48 = .ok (.iload 5, 2) := by decide +kernel
theorem dX7_turnsTo_50 : decode cX7_turnsTo 50 = .ok (.iaload, 1) := by decide +kernel
theorem dX7_turnsTo_51 : decode cX7_turnsTo 51 = .ok (.iload_n 2, 1) := by decide +kernel
theorem dX7_turnsTo_52 : decode cX7_turnsTo 52 = .ok (.isub, 1) := by decide +kernel
theorem dX7_turnsTo_53 : decode cX7_turnsTo 53 = .ok (.istore 6, 2) := by decide +kernel
theorem dX7_turnsTo_55 : decode cX7_turnsTo 55 = .ok (.aload_n 0, 1) := by decide +kernel
theorem dX7_turnsTo_56 : decode cX7_turnsTo 56 = .ok (.getfield 28, 3) := by decide +kernel
theorem dX7_turnsTo_59 : decode cX7_turnsTo 59 = .ok (.iload 5, 2) := by decide +kernel
theorem dX7_turnsTo_61 : decode cX7_turnsTo 61 = .ok (.iaload, 1) := by decide +kernel
theorem dX7_turnsTo_62 : decode cX7_turnsTo 62 = .ok (.iload_n 3, 1) := by decide +kernel
theorem dX7_turnsTo_63 : decode cX7_turnsTo 63 = .ok (.isub, 1) := by decide +kernel
theorem dX7_turnsTo_64 : decode cX7_turnsTo 64 = .ok (.istore 7, 2) := by decide +kernel
theorem dX7_turnsTo_66 : decode cX7_turnsTo 66 = .ok (.aload_n 0, 1) := by decide +kernel
theorem dX7_turnsTo_67 : decode cX7_turnsTo 67 = .ok (.getfield 25, 3) := by decide +kernel
theorem dX7_turnsTo_70 : decode cX7_turnsTo 70 = .ok (.iload 5, 2) := by decide +kernel
theorem dX7_turnsTo_72 : decode cX7_turnsTo 72 = .ok (.iload 4, 2) := by decide +kernel
theorem dX7_turnsTo_74 : decode cX7_turnsTo 74 = .ok (.invokestatic 64, 3) := by decide +kernel
theorem dX7_turnsTo_77 : decode cX7_turnsTo 77 = .ok (.iload 6, 2) := by decide +kernel
theorem dX7_turnsTo_79 : decode cX7_turnsTo 79 = .ok (.imul, 1) := by decide +kernel
theorem dX7_turnsTo_80 : decode cX7_turnsTo 80 = .ok (.iload 4, 2) := by decide +kernel
theorem dX7_turnsTo_82 : decode cX7_turnsTo 82 = .ok (.invokestatic 67, 3) := by decide +kernel
theorem dX7_turnsTo_85 : decode cX7_turnsTo 85 = .ok (.iload 7, 2) := by decide +kernel
theorem dX7_turnsTo_87 : decode cX7_turnsTo 87 = .ok (.imul, 1) := by decide +kernel
theorem dX7_turnsTo_88 : decode cX7_turnsTo 88 = .ok (.iadd, 1) := by decide +kernel
theorem dX7_turnsTo_89 : decode cX7_turnsTo 89 = .ok (.iastore, 1) := by decide +kernel
theorem dX7_turnsTo_90 : decode cX7_turnsTo 90 = .ok (.aload_n 0, 1) := by decide +kernel
theorem dX7_turnsTo_91 : decode cX7_turnsTo 91 = .ok (.getfield 28, 3) := by decide +kernel
theorem dX7_turnsTo_94 : decode cX7_turnsTo 94 = .ok (.iload 5, 2) := by decide +kernel
theorem dX7_turnsTo_96 : decode cX7_turnsTo 96 = .ok (.iload 4, 2) := by decide +kernel
theorem dX7_turnsTo_98 : decode cX7_turnsTo 98 = .ok (.invokestatic 64, 3) := by decide +kernel
theorem dX7_turnsTo_101 : decode cX7_turnsTo 101 = .ok (.iload 7, 2) := by decide +kernel
theorem dX7_turnsTo_103 : decode cX7_turnsTo 103 = .ok (.imul, 1) := by decide +kernel
theorem dX7_turnsTo_104 : decode cX7_turnsTo 104 = .ok (.iload 4, 2) := by decide +kernel
theorem dX7_turnsTo_106 : decode cX7_turnsTo 106 = .ok (.invokestatic 67, 3) := by decide +kernel
theorem dX7_turnsTo_109 : decode cX7_turnsTo 109 = .ok (.iload 6, 2) := by decide +kernel
theorem dX7_turnsTo_111 : decode cX7_turnsTo 111 = .ok (.imul, 1) := by decide +kernel
theorem dX7_turnsTo_112 : decode cX7_turnsTo 112 = .ok (.isub, 1) := by decide +kernel
theorem dX7_turnsTo_113 : decode cX7_turnsTo 113 = .ok (.iastore, 1) := by decide +kernel
theorem dX7_turnsTo_114 : decode cX7_turnsTo 114 = .ok (.iinc 5 1, 3) := by decide +kernel
theorem dX7_turnsTo_117 : decode cX7_turnsTo 117 = .ok (.goto (-86), 3) := by decide +kernel
theorem dX7_turnsTo_120 : decode cX7_turnsTo 120 = .ok (.return_, 1) := by decide +kernel
theorem dX7_lesser_0 : decode cX7_lesser 0 = .ok (.iload_n 0, 1) := by decide +kernel
theorem dX7_lesser_1 : decode cX7_lesser 1 = .ok (.iload_n 1, 1) := by decide +kernel
theorem dX7_lesser_2 : decode cX7_lesser 2 = .ok (.if_icmp .ge 7, 3) := by decide +kernel
theorem dX7_lesser_5 : decode cX7_lesser 5 = .ok (.iload_n 0, 1) := by decide +kernel
theorem dX7_lesser_6 : decode cX7_lesser 6 = .ok (.goto 4, 3) := by decide +kernel
theorem dX7_lesser_9 : decode cX7_lesser 9 = .ok (.iload_n 1, 1) := by decide +kernel
theorem dX7_lesser_10 : decode cX7_lesser 10 = .ok (.ireturn, 1) := by decide +kernel
theorem dX7_greater_0 : decode cX7_greater 0 = .ok (.iload_n 0, 1) := by decide +kernel
theorem dX7_greater_1 : decode cX7_greater 1 = .ok (.iload_n 1, 1) := by decide +kernel
theorem dX7_greater_2 : decode cX7_greater 2 = .ok (.if_icmp .le 7, 3) := by decide +kernel
theorem dX7_greater_5 : decode cX7_greater 5 = .ok (.iload_n 0, 1) := by decide +kernel
theorem dX7_greater_6 : decode cX7_greater 6 = .ok (.goto 4, 3) := by decide +kernel
theorem dX7_greater_9 : decode cX7_greater 9 = .ok (.iload_n 1, 1) := by decide +kernel
theorem dX7_greater_10 : decode cX7_greater 10 = .ok (.ireturn, 1) := by decide +kernel
set_option maxRecDepth 20000 in
theorem ggX7_isWithin_X7_lesser : GoodIn wsX7_isWithin wsX7_lesser := goodIn_r _ [6] (by decide +kernel) (by decide +kernel)
set_option maxRecDepth 20000 in
theorem gX7_isWithin_X7_lesser : GoodIn wsX7_isWithin (va_wsS RX7 74 yX7_lesser wsX7_lesser) := goodIn_app (goodIn_of _ (by decide +kernel)) ggX7_isWithin_X7_lesser
set_option maxRecDepth 20000 in
theorem ggX7_isWithin_X7_greater : GoodIn wsX7_isWithin wsX7_greater := goodIn_r _ [9] (by decide +kernel) (by decide +kernel)
set_option maxRecDepth 20000 in
theorem gX7_isWithin_X7_greater : GoodIn wsX7_isWithin (va_wsS RX7 78 yX7_greater wsX7_greater) := goodIn_app (goodIn_of _ (by decide +kernel)) ggX7_isWithin_X7_greater
theorem dX7_isWithin_0 : decode cX7_isWithin 0 = .ok (.aload_n 0, 1) := by decide +kernel
theorem dX7_isWithin_1 : decode cX7_isWithin 1 = .ok (.getfield 25, 3) := by decide +kernel
theorem dX7_isWithin_4 : decode cX7_isWithin 4 = .ok (.iload_n 1, 1) := by decide +kernel
theorem dX7_isWithin_5 : decode cX7_isWithin 5 = .ok (.iaload, 1) := by decide +kernel
theorem dX7_isWithin_6 : decode cX7_isWithin 6 = .ok (.aload_n 0, 1) := by decide +kernel
theorem dX7_isWithin_7 : decode cX7_isWithin 7 = .ok (.getfield 25, 3) := by decide +kernel
theorem dX7_isWithin_10 : decode cX7_isWithin 10 = .ok (.iload_n 1, 1) := by decide +kernel
theorem dX7_isWithin_11 : decode cX7_isWithin 11 = .ok (.iconst 1, 1) := by decide +kernel
theorem dX7_isWithin_12 : decode cX7_isWithin 12 = .ok (.iadd, 1) := by decide +kernel
theorem dX7_isWithin_13 : decode cX7_isWithin 13 = .ok (.iaload, 1) := by decide +kernel
theorem dX7_isWithin_14 : decode cX7_isWithin 14 = .ok (.invokestatic 74, 3) := by decide +kernel
theorem dX7_isWithin_17 : decode cX7_isWithin 17 = .ok (.istore 6, 2) := by decide +kernel
theorem dX7_isWithin_19 : decode cX7_isWithin 19 = .ok (.aload_n 0, 1) := by decide +kernel
theorem dX7_isWithin_20 : decode cX7_isWithin 20 = .ok (.getfield 25, 3) := by decide +kernel
theorem dX7_isWithin_23 : decode cX7_isWithin 23 = .ok (.iload_n 1, 1) := by decide +kernel
theorem dX7_isWithin_24 : decode cX7_isWithin 24 = .ok (.iaload, 1) := by decide +kernel
theorem dX7_isWithin_25 : decode cX7_isWithin 25 = .ok (.aload_n 0, 1) := by decide +kernel
theorem dX7_isWithin_26 : decode cX7_isWithin 26 = .ok (.getfield 25, 3) := by decide +kernel
theorem dX7_isWithin_29 : decode cX7_isWithin 29 = .ok (.iload_n 1, 1) := by decide +kernel
theorem dX7_isWithin_30 : decode cX7_isWithin 30 = .ok (.iconst 1, 1) := by decide +kernel
theorem dX7_isWithin_31 : decode cX7_isWithin 31 = .ok (.iadd, 1) := by decide +kernel
theorem dX7_isWithin_32 : decode cX7_isWithin 32 = .ok (.iaload, 1) := by decide +kernel
theorem dX7_isWithin_33 : decode cX7_isWithin 33 = .ok (.invokestatic 78, 3) := by decide +kernel
theorem dX7_isWithin_36 : decode cX7_isWithin 36 = .ok (.istore 7, 2) := by decide +kernel
theorem dX7_isWithin_38 : decode cX7_isWithin 38 = .ok (.iload_n 3, 1) := by decide +kernel
theorem dX7_isWithin_39 : decode cX7_isWithin 39 = .ok (.aload_n 0, 1) := by decide +kernel
theorem dX7_isWithin_40 : decode cX7_isWithin 40 = .ok (.getfield 28, 3) := by decide +kernel
theorem dX7_isWithin_43 : decode cX7_isWithin 43 = .ok (.iload_n 1, 1) := by decide +kernel
theorem dX7_isWithin_44 : decode cX7_isWithin 44 = .ok (.iaload, 1) := by decide +kernel
theorem dX7_isWithin_45 : decode cX7_isWithin 45 = .ok (.imul, 1) := by decide +kernel
theorem dX7_isWithin_46 : decode cX7_isWithin 46 = .ok (.iload_n 3, 1) := by decide +kernel
theorem dX7_isWithin_47 : decode cX7_isWithin 47 = .ok (.aload_n 0, 1) := by decide +kernel
theorem dX7_isWithin_48 : decode cX7_isWithin 48 = .ok (.getfield 28, 3) := by decide +kernel
theorem dX7_isWithin_51 : decode cX7_isWithin 51 = .ok (.iload_n 1, 1) := by decide +kernel
theorem dX7_isWithin_52 : decode cX7_isWithin 52 = .ok (.iconst 1, 1) := by decide +kernel
theorem dX7_isWithin_53 : decode cX7_isWithin 53 = .ok (.iadd, 1) := by decide +kernel
theorem dX7_isWithin_54 : decode cX7_isWithin 54 = .ok (.iaload, 1) := by decide +kernel
theorem dX7_isWithin_55 : decode cX7_isWithin 55 = .ok (.imul, 1) := by decide +kernel
theorem dX7_isWithin_56 : decode cX7_isWithin 56 = .ok (.invokestatic 74, 3) := by decide +kernel
theorem dX7_isWithin_59 : decode cX7_isWithin 59 = .ok (.istore 8, 2) := by decide +kernel
theorem dX7_isWithin_61 : decode cX7_isWithin 61 = .ok (.iload_n 3, 1) := by decide +kernel
theorem dX7_isWithin_62 : decode cX7_isWithin 62 = .ok (.aload_n 0, 1) := by decide +kernel
theorem dX7_isWithin_63 : decode cX7_isWithin 63 = .ok (.getfield 28, 3) := by decide +kernel
theorem dX7_isWithin_66 : decode cX7_isWithin 66 = .ok (.iload_n 1, 1) := by decide +kernel
theorem dX7_isWithin_67 : decode cX7_isWithin 67 = .ok (.iaload, 1) := by decide +kernel
theorem dX7_isWithin_68 : decode cX7_isWithin 68 = .ok (.imul, 1) := by decide +kernel
theorem dX7_isWithin_69 : decode cX7_isWithin 69 = .ok (.iload_n 3, 1) := by decide +kernel
theorem dX7_isWithin_70 : decode cX7_isWithin 70 = .ok (.aload_n 0, 1) := by decide +kernel
theorem dX7_isWithin_71 : decode cX7_isWithin 71 = .ok (.getfield 28, 3) := by decide +kernel
theorem dX7_isWithin_74 : decode cX7_isWithin 74 = .ok (.iload_n 1, 1) := by decide +kernel
theorem dX7_isWithin_75 : decode cX7_isWithin 75 = .ok (.iconst 1, 1) := by decide +kernel
theorem dX7_isWithin_76 : decode cX7_isWithin 76 = .ok (.iadd, 1) := by decide +kernel
theorem dX7_isWithin_77 : decode cX7_isWithin 77 = .ok (.iaload, 1) := by decide +kernel
theorem dX7_isWithin_78 : decode cX7_isWithin 78 = .ok (.imul, 1) := by decide +kernel
theorem dX7_isWithin_79 : decode cX7_isWithin 79 = .ok (.invokestatic 78, 3) := by decide +kernel
theorem dX7_isWithin_82 : decode cX7_isWithin 82 = .ok (.istore 9, 2) := by decide +kernel
theorem dX7_isWithin_84 : decode cX7_isWithin 84 = .ok (.iload 6, 2) := by decide +kernel
theorem dX7_isWithin_86 : decode cX7_isWithin 86 = .ok (.iload_n 2, 1) := by decide +kernel
theorem dX7_isWithin_87 : decode cX7_isWithin 87 = .ok (.if_icmp .gt 28, 3) := by decide +kernel
theorem dX7_isWithin_90 : decode cX7_isWithin 90 = .ok (.iload 7, 2) := by decide +kernel
theorem dX7_isWithin_92 : decode cX7_isWithin 92 = .ok (.iload_n 2, 1) := by decide +kernel
theorem dX7_isWithin_93 : decode cX7_isWithin 93 = .ok (.ineg, 1) := by decide +kernel
theorem dX7_isWithin_94 : decode cX7_isWithin 94 = .ok (.if_icmp .lt 21, 3) := by decide +kernel
theorem dX7_isWithin_97 : decode cX7_isWithin 97 = .ok (.iload 8, 2) := by decide +kernel
theorem dX7_isWithin_99 : decode cX7_isWithin 99 = .ok (.iload 5, 2) := by decide +kernel
theorem dX7_isWithin_101 : decode cX7_isWithin 101 = .ok (.if_icmp .gt 14, 3) := by decide +kernel
theorem dX7_isWithin_104 : decode cX7_isWithin 104 = .ok (.iload 9, 2) := by decide +kernel
theorem dX7_isWithin_106 : decode cX7_isWithin 106 = .ok (.iload 4, 2) := by decide +kernel
theorem dX7_isWithin_108 : decode cX7_isWithin 108 = .ok (.if_icmp .lt 7, 3) := by decide +kernel
theorem dX7_isWithin_111 : decode cX7_isWithin 111 = .ok (.iconst 1, 1) := by decide +kernel
theorem dX7_isWithin_112 : decode cX7_isWithin 112 = .ok (.goto 4, 3) := by decide +kernel
theorem dX7_isWithin_115 : decode cX7_isWithin 115 = .ok (.iconst 0, 1) := by decide +kernel
theorem dX7_isWithin_116 : decode cX7_isWithin 116 = .ok (.ireturn, 1) := by decide +kernel
set_option maxRecDepth 20000 in
theorem ggX7_areMet_X7_greater : GoodIn wsX7_areMet wsX7_greater := goodIn_r _ [6] (by decide +kernel) (by decide +kernel)
set_option maxRecDepth 20000 in
theorem gX7_areMet_X7_greater : GoodIn wsX7_areMet (va_wsS RX7 78 yX7_greater wsX7_greater) := goodIn_app (goodIn_of _ (by decide +kernel)) ggX7_areMet_X7_greater
set_option maxRecDepth 20000 in
theorem ggX7_areMet_X7_lesser : GoodIn wsX7_areMet wsX7_lesser := goodIn_r _ [9] (by decide +kernel) (by decide +kernel)
set_option maxRecDepth 20000 in
theorem gX7_areMet_X7_lesser : GoodIn wsX7_areMet (va_wsS RX7 74 yX7_lesser wsX7_lesser) := goodIn_app (goodIn_of _ (by decide +kernel)) ggX7_areMet_X7_lesser
theorem dX7_areMet_0 : decode cX7_areMet 0 = .ok (.aload_n 0, 1) := by decide +kernel
theorem dX7_areMet_1 : decode cX7_areMet 1 = .ok (.getfield 25, 3) := by decide +kernel
theorem dX7_areMet_4 : decode cX7_areMet 4 = .ok (.iload_n 1, 1) := by decide +kernel
theorem dX7_areMet_5 : decode cX7_areMet 5 = .ok (.iaload, 1) := by decide +kernel
theorem dX7_areMet_6 : decode cX7_areMet 6 = .ok (.aload_n 0, 1) := by decide +kernel
theorem dX7_areMet_7 : decode cX7_areMet 7 = .ok (.getfield 25, 3) := by decide +kernel
theorem dX7_areMet_10 : decode cX7_areMet 10 = .ok (.iload_n 1, 1) := by decide +kernel
theorem dX7_areMet_11 : decode cX7_areMet 11 = .ok (.iconst 1, 1) := by decide +kernel
theorem dX7_areMet_12 : decode cX7_areMet 12 = .ok (.iadd, 1) := by decide +kernel
theorem dX7_areMet_13 : decode cX7_areMet 13 = .ok (.iaload, 1) := by decide +kernel
theorem dX7_areMet_14 : decode cX7_areMet 14 = .ok (.invokestatic 78, 3) := by decide +kernel
theorem dX7_areMet_17 : decode cX7_areMet 17 = .ok (.aload_n 0, 1) := by decide +kernel
theorem dX7_areMet_18 : decode cX7_areMet 18 = .ok (.getfield 25, 3) := by decide +kernel
theorem dX7_areMet_21 : decode cX7_areMet 21 = .ok (.iload_n 2, 1) := by decide +kernel
theorem dX7_areMet_22 : decode cX7_areMet 22 = .ok (.iaload, 1) := by decide +kernel
theorem dX7_areMet_23 : decode cX7_areMet 23 = .ok (.aload_n 0, 1) := by decide +kernel
theorem dX7_areMet_24 : decode cX7_areMet 24 = .ok (.getfield 25, 3) := by decide +kernel
theorem dX7_areMet_27 : decode cX7_areMet 27 = .ok (.iload_n 2, 1) := by decide +kernel
theorem dX7_areMet_28 : decode cX7_areMet 28 = .ok (.iconst 1, 1) := by decide +kernel
theorem dX7_areMet_29 : decode cX7_areMet 29 = .ok (.iadd, 1) := by decide +kernel
theorem dX7_areMet_30 : decode cX7_areMet 30 = .ok (.iaload, 1) := by decide +kernel
theorem dX7_areMet_31 : decode cX7_areMet 31 = .ok (.invokestatic 74, 3) := by decide +kernel
theorem dX7_areMet_34 : decode cX7_areMet 34 = .ok (.if_icmp .lt 44, 3) := by decide +kernel
theorem dX7_areMet_37 : decode cX7_areMet 37 = .ok (.aload_n 0, 1) := by decide +kernel
theorem dX7_areMet_38 : decode cX7_areMet 38 = .ok (.getfield 25, 3) := by decide +kernel
theorem dX7_areMet_41 : decode cX7_areMet 41 = .ok (.iload_n 2, 1) := by decide +kernel
theorem dX7_areMet_42 : decode cX7_areMet 42 = .ok (.iaload, 1) := by decide +kernel
theorem dX7_areMet_43 : decode cX7_areMet 43 = .ok (.aload_n 0, 1) := by decide +kernel
theorem dX7_areMet_44 : decode cX7_areMet 44 = .ok (.getfield 25, 3) := by decide +kernel
theorem dX7_areMet_47 : decode cX7_areMet 47 = .ok (.iload_n 2, 1) := by decide +kernel
theorem dX7_areMet_48 : decode cX7_areMet 48 = .ok (.iconst 1, 1) := by decide +kernel
theorem dX7_areMet_49 : decode cX7_areMet 49 = .ok (.iadd, 1) := by decide +kernel
theorem dX7_areMet_50 : decode cX7_areMet 50 = .ok (.iaload, 1) := by decide +kernel
theorem dX7_areMet_51 : decode cX7_areMet 51 = .ok (.invokestatic 78, 3) := by decide +kernel
theorem dX7_areMet_54 : decode cX7_areMet 54 = .ok (.aload_n 0, 1) := by decide +kernel
theorem dX7_areMet_55 : decode cX7_areMet 55 = .ok (.getfield 25, 3) := by decide +kernel
theorem dX7_areMet_58 : decode cX7_areMet 58 = .ok (.iload_n 1, 1) := by decide +kernel
theorem dX7_areMet_59 : decode cX7_areMet 59 = .ok (.iaload, 1) := by decide +kernel
theorem dX7_areMet_60 : decode cX7_areMet 60 = .ok (.aload_n 0, 1) := by decide +kernel
theorem dX7_areMet_61 : decode cX7_areMet 61 = .ok (.getfield 25, 3) := by decide +kernel
theorem dX7_areMet_64 : decode cX7_areMet 64 = .ok (.iload_n 1, 1) := by decide +kernel
theorem dX7_areMet_65 : decode cX7_areMet 65 = .ok (.iconst 1, 1) := by decide +kernel
theorem dX7_areMet_66 : decode cX7_areMet 66 = .ok (.iadd, 1) := by decide +kernel
theorem dX7_areMet_67 : decode cX7_areMet 67 = .ok (.iaload, 1) := by decide +kernel
theorem dX7_areMet_68 : decode cX7_areMet 68 = .ok (.invokestatic 74, 3) := by decide +kernel
theorem dX7_areMet_71 : decode cX7_areMet 71 = .ok (.if_icmp .lt 7, 3) := by decide +kernel
theorem dX7_areMet_74 : decode cX7_areMet 74 = .ok (.iconst 1, 1) := by decide +kernel
theorem dX7_areMet_75 : decode cX7_areMet 75 = .ok (.goto 4, 3) := by decide +kernel
theorem dX7_areMet_78 : decode cX7_areMet 78 = .ok (.iconst 0, 1) := by decide +kernel
theorem dX7_areMet_79 : decode cX7_areMet 79 = .ok (.istore_n 3, 1) := by decide +kernel
theorem dX7_areMet_80 : decode cX7_areMet 80 = .ok (.iload_n 3, 1) := by decide +kernel
theorem dX7_areMet_81 : decode cX7_areMet 81 = .ok (.ifCond .eq 81, 3) := by decide +kernel
theorem dX7_areMet_84 : decode cX7_areMet 84 = .ok (.aload_n 0, 1) := by decide +kernel
theorem dX7_areMet_85 : decode cX7_areMet 85 = .ok (.getfield 28, 3) := by decide +kernel
theorem dX7_areMet_88 : decode cX7_areMet 88 = .ok (.iload_n 1, 1) := by decide +kernel
theorem dX7_areMet_89 : decode cX7_areMet 89 = .ok (.iaload, 1) := by decide +kernel
theorem dX7_areMet_90 : decode cX7_areMet 90 = .ok (.aload_n 0, 1) := by decide +kernel
theorem dX7_areMet_91 : decode cX7_areMet 91 = .ok (.getfield 28, 3) := by decide +kernel
theorem dX7_areMet_94 : decode cX7_areMet 94 = .ok (.iload_n 1, 1) := by decide +kernel
theorem dX7_areMet_95 : decode cX7_areMet 95 = .ok (.iconst 1, 1) := by decide +kernel
theorem dX7_areMet_96 : decode cX7_areMet 96 = .ok (.iadd, 1) := by decide +kernel
theorem dX7_areMet_97 : decode cX7_areMet 97 = .ok (.iaload, 1) := by decide +kernel
theorem dX7_areMet_98 : decode cX7_areMet 98 = .ok (.invokestatic 78, 3) := by decide +kernel
theorem dX7_areMet_101 : decode cX7_areMet 101 = .ok (.aload_n 0, 1) := by decide +kernel
theorem dX7_areMet_102 : decode cX7_areMet 102 = .ok (.getfield 28, 3) := by decide +kernel
theorem dX7_areMet_105 : decode cX7_areMet 105 = .ok (.iload_n 2, 1) := by decide +kernel
theorem dX7_areMet_106 : decode cX7_areMet 106 = .ok (.iaload, 1) := by decide +kernel
theorem dX7_areMet_107 : decode cX7_areMet 107 = .ok (.aload_n 0, 1) := by decide +kernel
theorem dX7_areMet_108 : decode cX7_areMet 108 = .ok (.getfield 28, 3) := by decide +kernel
theorem dX7_areMet_111 : decode cX7_areMet 111 = .ok (.iload_n 2, 1) := by decide +kernel
theorem dX7_areMet_112 : decode cX7_areMet 112 = .ok (.iconst 1, 1) := by decide +kernel
theorem dX7_areMet_113 : decode cX7_areMet 113 = .ok (.iadd, 1) := by decide +kernel
theorem dX7_areMet_114 : decode cX7_areMet 114 = .ok (.iaload, 1) := by decide +kernel
theorem dX7_areMet_115 : decode cX7_areMet 115 = .ok (.invokestatic 74, 3) := by decide +kernel
theorem dX7_areMet_118 : decode cX7_areMet 118 = .ok (.if_icmp .lt 44, 3) := by decide +kernel
theorem dX7_areMet_121 : decode cX7_areMet 121 = .ok (.aload_n 0, 1) := by decide +kernel
theorem dX7_areMet_122 : decode cX7_areMet 122 = .ok (.getfield 28, 3) := by decide +kernel
theorem dX7_areMet_125 : decode cX7_areMet 125 = .ok (.iload_n 2, 1) := by decide +kernel
theorem dX7_areMet_126 : decode cX7_areMet 126 = .ok (.iaload, 1) := by decide +kernel
theorem dX7_areMet_127 : decode cX7_areMet 127 = .ok (.aload_n 0, 1) := by decide +kernel
theorem dX7_areMet_128 : decode cX7_areMet 128 = .ok (.getfield 28, 3) := by decide +kernel
theorem dX7_areMet_131 : decode cX7_areMet 131 = .ok (.iload_n 2, 1) := by decide +kernel
theorem dX7_areMet_132 : decode cX7_areMet 132 = .ok (.iconst 1, 1) := by decide +kernel
theorem dX7_areMet_133 : decode cX7_areMet 133 = .ok (.iadd, 1) := by decide +kernel
theorem dX7_areMet_134 : decode cX7_areMet 134 = .ok (.iaload, 1) := by decide +kernel
theorem dX7_areMet_135 : decode cX7_areMet 135 = .ok (.invokestatic 78, 3) := by decide +kernel
theorem dX7_areMet_138 : decode cX7_areMet 138 = .ok (.aload_n 0, 1) := by decide +kernel
theorem dX7_areMet_139 : decode cX7_areMet 139 = .ok (.getfield 28, 3) := by decide +kernel
theorem dX7_areMet_142 : decode cX7_areMet 142 = .ok (.iload_n 1, 1) := by decide +kernel
theorem dX7_areMet_143 : decode cX7_areMet 143 = .ok (.iaload, 1) := by decide +kernel
theorem dX7_areMet_144 : decode cX7_areMet 144 = .ok (.aload_n 0, 1) := by decide +kernel
theorem dX7_areMet_145 : decode cX7_areMet 145 = .ok (.getfield 28, 3) := by decide +kernel
theorem dX7_areMet_148 : decode cX7_areMet 148 = .ok (.iload_n 1, 1) := by decide +kernel
theorem dX7_areMet_149 : decode cX7_areMet 149 = .ok (.iconst 1, 1) := by decide +kernel
theorem dX7_areMet_150 : decode cX7_areMet 150 = .ok (.iadd, 1) := by decide +kernel
theorem dX7_areMet_151 : decode cX7_areMet 151 = .ok (.iaload, 1) := by decide +kernel
theorem dX7_areMet_152 : decode cX7_areMet 152 = .ok (.invokestatic 74, 3) := by decide +kernel
theorem dX7_areMet_155 : decode cX7_areMet 155 = .ok (.if_icmp .lt 7, 3) := by decide +kernel
theorem dX7_areMet_158 : decode cX7_areMet 158 = .ok (.iconst 1, 1) := by decide +kernel
theorem dX7_areMet_159 : decode cX7_areMet 159 = .ok (.goto 4, 3) := by decide +kernel
theorem dX7_areMet_162 : decode cX7_areMet 162 = .ok (.iconst 0, 1) := by decide +kernel
theorem dX7_areMet_163 : decode cX7_areMet 163 = .ok (.ireturn, 1) := by decide +kernel
set_option maxRecDepth 20000 in
theorem ggX7_hitBy_X7_lays : GoodIn wsX7_hitBy wsX7_lays := goodIn_r _ [6, 7, 8, 1, 9, 10, 11, 5, 12, 13, 14, 15, 16, 17, 18, 37, 38, 39, 40, 41, 42, 43, 44, 45, 46, 47, 48, 49, 50, 51, 52, 53, 54, 55] (by decide +kernel) (by decide +kernel)
set_option maxRecDepth 20000 in
theorem gX7_hitBy_X7_lays : GoodIn wsX7_hitBy (wsV RX7 81 RX7 yX7_lays wsX7_lays) := goodIn_app (goodIn_of _ (by decide +kernel)) ggX7_hitBy_X7_lays
set_option maxRecDepth 20000 in
theorem ggX7_hitBy_X7_turnsTo : GoodIn wsX7_hitBy wsX7_turnsTo := goodIn_r _ [22, 7, 8, 9, 1, 10, 11, 5, 12, 13, 14, 15, 37, 38, 39, 40, 41, 42, 43, 44, 45, 46, 47, 48, 49, 50, 51, 52, 53, 54, 55] (by decide +kernel) (by decide +kernel)
set_option maxRecDepth 20000 in
theorem gX7_hitBy_X7_turnsTo : GoodIn wsX7_hitBy (wsV RX7 85 RX7 yX7_turnsTo wsX7_turnsTo) := goodIn_app (goodIn_of _ (by decide +kernel)) ggX7_hitBy_X7_turnsTo
set_option maxRecDepth 20000 in
theorem ggX7_hitBy_X7_isWithin : GoodIn wsX7_hitBy wsX7_isWithin := goodIn_r _ [26, 7, 8, 27, 28, 5, 29, 30, 31, 32, 37, 38, 39, 40, 41, 42, 43, 44, 45, 46, 47, 48, 49, 50, 51, 52, 53, 54, 55] (by decide +kernel) (by decide +kernel)
set_option maxRecDepth 20000 in
theorem gX7_hitBy_X7_isWithin : GoodIn wsX7_hitBy (wsV RX7 88 RX7 yX7_isWithin wsX7_isWithin) := goodIn_app (goodIn_of _ (by decide +kernel)) ggX7_hitBy_X7_isWithin
set_option maxRecDepth 20000 in
theorem ggX7_hitBy_X7_areMet : GoodIn wsX7_hitBy wsX7_areMet := goodIn_r _ [36, 7, 8, 30, 31, 5, 32, 27, 28, 29, 37, 38, 39, 40, 41, 42, 43, 44, 45, 46, 47, 48, 49, 50, 51, 52, 53, 54, 55] (by decide +kernel) (by decide +kernel)
set_option maxRecDepth 20000 in
theorem gX7_hitBy_X7_areMet : GoodIn wsX7_hitBy (wsV RX7 92 RX7 yX7_areMet wsX7_areMet) := goodIn_app (goodIn_of _ (by decide +kernel)) ggX7_hitBy_X7_areMet
theorem dX7_hitBy_0 : decode cX7_hitBy 0 = .ok (.aload_n 0, 1) := by decide +kernel
theorem dX7_hitBy_1 : decode cX7_hitBy 1 = .ok (.iload_n 2, 1) := by decide +kernel
theorem dX7_hitBy_2 : decode cX7_hitBy 2 = .ok (.invokevirtual 81, 3) := by decide +kernel
theorem dX7_hitBy_5 : decode cX7_hitBy 5 = .ok (.aload_n 0, 1) := by decide +kernel
theorem dX7_hitBy_6 : decode cX7_hitBy 6 = .ok (.iload_n 1, 1) := by decide +kernel
theorem dX7_hitBy_7 : decode cX7_hitBy 7 = .ok (.invokevirtual 85, 3) := by decide +kernel
theorem dX7_hitBy_10 : decode cX7_hitBy 10 = .ok (.aload_n 0, 1) := by decide +kernel
theorem dX7_hitBy_11 : decode cX7_hitBy 11 = .ok (.getfield 7, 3) := by decide +kernel
theorem dX7_hitBy_14 : decode cX7_hitBy 14 = .ok (.bipush 8, 2) := by decide +kernel
theorem dX7_hitBy_16 : decode cX7_hitBy 16 = .ok (.iload_n 1, 1) := by decide +kernel
theorem dX7_hitBy_17 : decode cX7_hitBy 17 = .ok (.iadd, 1) := by decide +kernel
theorem dX7_hitBy_18 : decode cX7_hitBy 18 = .ok (.iaload, 1) := by decide +kernel
theorem dX7_hitBy_19 : decode cX7_hitBy 19 = .ok (.istore_n 3, 1) := by decide +kernel
theorem dX7_hitBy_20 : decode cX7_hitBy 20 = .ok (.iconst 0, 1) := by decide +kernel
theorem dX7_hitBy_21 : decode cX7_hitBy 21 = .ok (.istore 4, 2) := by decide +kernel
theorem dX7_hitBy_23 : decode cX7_hitBy 23 = .ok (.iconst 0, 1) := by decide +kernel
theorem dX7_hitBy_24 : decode cX7_hitBy 24 = .ok (.istore 5, 2) := by decide +kernel
theorem dX7_hitBy_26 : decode cX7_hitBy 26 = .ok (.iconst 0, 1) := by decide +kernel
theorem dX7_hitBy_27 : decode cX7_hitBy 27 = .ok (.istore 6, 2) := by decide +kernel
theorem dX7_hitBy_29 : decode cX7_hitBy 29 = .ok (.iload 6, 2) := by decide +kernel
theorem dX7_hitBy_31 : decode cX7_hitBy 31 = .ok (.aload_n 0, 1) := by decide +kernel
theorem dX7_hitBy_32 : decode cX7_hitBy 32 = .ok (.getfield 7, 3) := by decide +kernel
theorem dX7_hitBy_35 : decode cX7_hitBy 35 = .ok (.iconst 0, 1) := by decide +kernel
theorem dX7_hitBy_36 : decode cX7_hitBy 36 = .ok (.iaload, 1) := by decide +kernel
theorem dX7_hitBy_37 : decode cX7_hitBy 37 = .ok (.if_icmp .gt 83, 3) := by decide +kernel
theorem dX7_hitBy_40 : decode cX7_hitBy 40 = .ok (.iload 4, 2) := by decide +kernel
theorem dX7_hitBy_42 : decode cX7_hitBy 42 = .ok (.ifCond .ne 24, 3) := by decide +kernel
theorem dX7_hitBy_45 : decode cX7_hitBy 45 = .ok (.aload_n 0, 1) := by decide +kernel
theorem dX7_hitBy_46 : decode cX7_hitBy 46 = .ok (.iload 6, 2) := by decide +kernel
theorem dX7_hitBy_48 : decode cX7_hitBy 48 = .ok (.aload_n 0, 1) := by decide +kernel
theorem dX7_hitBy_49 : decode cX7_hitBy 49 = .ok (.getfield 7, 3) := by decide +kernel
theorem dX7_hitBy_52 : decode cX7_hitBy 52 = .ok (.bipush 21, 2) := by decide +kernel
theorem dX7_hitBy_54 : decode cX7_hitBy 54 = .ok (.iaload, 1) := by decide +kernel
theorem dX7_hitBy_55 : decode cX7_hitBy 55 = .ok (.iload_n 3, 1) := by decide +kernel
theorem dX7_hitBy_56 : decode cX7_hitBy 56 = .ok (.sipush (-1000), 3) := by decide +kernel
theorem dX7_hitBy_59 : decode cX7_hitBy 59 = .ok (.iconst (-1), 1) := by decide +kernel
theorem dX7_hitBy_60 : decode cX7_hitBy 60 = .ok (.invokevirtual 88, 3) := by decide +kernel
theorem dX7_hitBy_63 : decode cX7_hitBy 63 = .ok (.ifCond .eq 7, 3) := by decide +kernel
theorem dX7_hitBy_66 : decode cX7_hitBy 66 = .ok (.iconst 1, 1) := by decide +kernel
theorem dX7_hitBy_67 : decode cX7_hitBy 67 = .ok (.goto 4, 3) := by decide +kernel
theorem dX7_hitBy_70 : decode cX7_hitBy 70 = .ok (.iconst 0, 1) := by decide +kernel
theorem dX7_hitBy_71 : decode cX7_hitBy 71 = .ok (.istore 4, 2) := by decide +kernel
theorem dX7_hitBy_73 : decode cX7_hitBy 73 = .ok (.iload 5, 2) := by decide +kernel
theorem dX7_hitBy_75 : decode cX7_hitBy 75 = .ok (.ifCond .ne 32, 3) := by decide +kernel
theorem dX7_hitBy_78 : decode cX7_hitBy 78 = .ok (.aload_n 0, 1) := by decide +kernel
theorem dX7_hitBy_79 : decode cX7_hitBy 79 = .ok (.getfield 7, 3) := by decide +kernel
theorem dX7_hitBy_82 : decode cX7_hitBy 82 = .ok (.bipush 22, 2) := by decide +kernel
theorem dX7_hitBy_84 : decode cX7_hitBy 84 = .ok (.iaload, 1) := by decide +kernel
theorem dX7_hitBy_85 : decode cX7_hitBy 85 = .ok (.ifCond .le 26, 3) := by decide +kernel
theorem dX7_hitBy_88 : decode cX7_hitBy 88 = .ok (.aload_n 0, 1) := by decide +kernel
theorem dX7_hitBy_89 : decode cX7_hitBy 89 = .ok (.iload 6, 2) := by decide +kernel
theorem dX7_hitBy_91 : decode cX7_hitBy 91 = .ok (.iconst 0, 1) := by decide +kernel
theorem dX7_hitBy_92 : decode cX7_hitBy 92 = .ok (.iload_n 3, 1) := by decide +kernel
theorem dX7_hitBy_93 : decode cX7_hitBy 93 = .ok (.iconst 1, 1) := by decide +kernel
theorem dX7_hitBy_94 : decode cX7_hitBy 94 = .ok (.aload_n 0, 1) := by decide +kernel
theorem dX7_hitBy_95 : decode cX7_hitBy 95 = .ok (.getfield 7, 3) := by decide +kernel
theorem dX7_hitBy_98 : decode cX7_hitBy 98 = .ok (.bipush 22, 2) := by decide +kernel
theorem dX7_hitBy_100 : decode cX7_hitBy 100 = .ok (.iaload, 1) := by decide +kernel
theorem dX7_hitBy_101 : decode cX7_hitBy 101 = .ok (.invokevirtual 88, 3) := by decide +kernel
theorem dX7_hitBy_104 : decode cX7_hitBy 104 = .ok (.ifCond .eq 7, 3) := by decide +kernel
theorem dX7_hitBy_107 : decode cX7_hitBy 107 = .ok (.iconst 1, 1) := by decide +kernel
theorem dX7_hitBy_108 : decode cX7_hitBy 108 = .ok (.goto 4, 3) := by decide +kernel
theorem dX7_hitBy_111 : decode cX7_hitBy 111 = .ok (.iconst 0, 1) := by decide +kernel
theorem dX7_hitBy_112 : decode cX7_hitBy 112 = .ok (.istore 5, 2) := by decide +kernel
theorem dX7_hitBy_114 : decode cX7_hitBy 114 = .ok (.iinc 6 1, 3) := by decide +kernel
theorem dX7_hitBy_117 : decode cX7_hitBy 117 = .ok (.goto (-88), 3) := by decide +kernel
theorem dX7_hitBy_120 : decode cX7_hitBy 120 = .ok (.iload 4, 2) := by decide +kernel
theorem dX7_hitBy_122 : decode cX7_hitBy 122 = .ok (.ifCond .ne 8, 3) := by decide +kernel
theorem dX7_hitBy_125 : decode cX7_hitBy 125 = .ok (.iload 5, 2) := by decide +kernel
theorem dX7_hitBy_127 : decode cX7_hitBy 127 = .ok (.ifCond .eq 14, 3) := by decide +kernel
theorem dX7_hitBy_130 : decode cX7_hitBy 130 = .ok (.iload 4, 2) := by decide +kernel
theorem dX7_hitBy_132 : decode cX7_hitBy 132 = .ok (.ifCond .eq 7, 3) := by decide +kernel
theorem dX7_hitBy_135 : decode cX7_hitBy 135 = .ok (.iconst 1, 1) := by decide +kernel
theorem dX7_hitBy_136 : decode cX7_hitBy 136 = .ok (.goto 4, 3) := by decide +kernel
theorem dX7_hitBy_139 : decode cX7_hitBy 139 = .ok (.iconst 2, 1) := by decide +kernel
theorem dX7_hitBy_140 : decode cX7_hitBy 140 = .ok (.ireturn, 1) := by decide +kernel
theorem dX7_hitBy_141 : decode cX7_hitBy 141 = .ok (.aload_n 0, 1) := by decide +kernel
theorem dX7_hitBy_142 : decode cX7_hitBy 142 = .ok (.iload_n 2, 1) := by decide +kernel
theorem dX7_hitBy_143 : decode cX7_hitBy 143 = .ok (.iconst 1, 1) := by decide +kernel
theorem dX7_hitBy_144 : decode cX7_hitBy 144 = .ok (.iload_n 1, 1) := by decide +kernel
theorem dX7_hitBy_145 : decode cX7_hitBy 145 = .ok (.ishl, 1) := by decide +kernel
theorem dX7_hitBy_146 : decode cX7_hitBy 146 = .ok (.ior, 1) := by decide +kernel
theorem dX7_hitBy_147 : decode cX7_hitBy 147 = .ok (.invokevirtual 81, 3) := by decide +kernel
theorem dX7_hitBy_150 : decode cX7_hitBy 150 = .ok (.iconst 0, 1) := by decide +kernel
theorem dX7_hitBy_151 : decode cX7_hitBy 151 = .ok (.istore 6, 2) := by decide +kernel
theorem dX7_hitBy_153 : decode cX7_hitBy 153 = .ok (.iconst 0, 1) := by decide +kernel
theorem dX7_hitBy_154 : decode cX7_hitBy 154 = .ok (.istore 7, 2) := by decide +kernel
theorem dX7_hitBy_156 : decode cX7_hitBy 156 = .ok (.iload 7, 2) := by decide +kernel
theorem dX7_hitBy_158 : decode cX7_hitBy 158 = .ok (.aload_n 0, 1) := by decide +kernel
theorem dX7_hitBy_159 : decode cX7_hitBy 159 = .ok (.getfield 7, 3) := by decide +kernel
theorem dX7_hitBy_162 : decode cX7_hitBy 162 = .ok (.iconst 0, 1) := by decide +kernel
theorem dX7_hitBy_163 : decode cX7_hitBy 163 = .ok (.iaload, 1) := by decide +kernel
theorem dX7_hitBy_164 : decode cX7_hitBy 164 = .ok (.if_icmp .gt 55, 3) := by decide +kernel
theorem dX7_hitBy_167 : decode cX7_hitBy 167 = .ok (.iload 7, 2) := by decide +kernel
theorem dX7_hitBy_169 : decode cX7_hitBy 169 = .ok (.iconst 2, 1) := by decide +kernel
theorem dX7_hitBy_170 : decode cX7_hitBy 170 = .ok (.iadd, 1) := by decide +kernel
theorem dX7_hitBy_171 : decode cX7_hitBy 171 = .ok (.istore 8, 2) := by decide +kernel
theorem dX7_hitBy_173 : decode cX7_hitBy 173 = .ok (.iload 8, 2) := by decide +kernel
theorem dX7_hitBy_175 : decode cX7_hitBy 175 = .ok (.aload_n 0, 1) := by decide +kernel
theorem dX7_hitBy_176 : decode cX7_hitBy 176 = .ok (.getfield 7, 3) := by decide +kernel
theorem dX7_hitBy_179 : decode cX7_hitBy 179 = .ok (.iconst 0, 1) := by decide +kernel
theorem dX7_hitBy_180 : decode cX7_hitBy 180 = .ok (.iaload, 1) := by decide +kernel
theorem dX7_hitBy_181 : decode cX7_hitBy 181 = .ok (.if_icmp .gt 32, 3) := by decide +kernel
theorem dX7_hitBy_184 : decode cX7_hitBy 184 = .ok (.iload 6, 2) := by decide +kernel
theorem dX7_hitBy_186 : decode cX7_hitBy 186 = .ok (.ifCond .ne 14, 3) := by decide +kernel
theorem dX7_hitBy_189 : decode cX7_hitBy 189 = .ok (.aload_n 0, 1) := by decide +kernel
theorem dX7_hitBy_190 : decode cX7_hitBy 190 = .ok (.iload 7, 2) := by decide +kernel
theorem dX7_hitBy_192 : decode cX7_hitBy 192 = .ok (.iload 8, 2) := by decide +kernel
theorem dX7_hitBy_194 : decode cX7_hitBy 194 = .ok (.invokevirtual 92, 3) := by decide +kernel
theorem dX7_hitBy_197 : decode cX7_hitBy 197 = .ok (.ifCond .eq 7, 3) := by decide +kernel
theorem dX7_hitBy_200 : decode cX7_hitBy 200 = .ok (.iconst 1, 1) := by decide +kernel
theorem dX7_hitBy_201 : decode cX7_hitBy 201 = .ok (.goto 4, 3) := by decide +kernel
theorem dX7_hitBy_204 : decode cX7_hitBy 204 = .ok (.iconst 0, 1) := by decide +kernel
theorem dX7_hitBy_205 : decode cX7_hitBy 205 = .ok (.istore 6, 2) := by decide +kernel
theorem dX7_hitBy_207 : decode cX7_hitBy 207 = .ok (.iinc 8 1, 3) := by decide +kernel
theorem dX7_hitBy_210 : decode cX7_hitBy 210 = .ok (.goto (-37), 3) := by decide +kernel
theorem dX7_hitBy_213 : decode cX7_hitBy 213 = .ok (.iinc 7 1, 3) := by decide +kernel
theorem dX7_hitBy_216 : decode cX7_hitBy 216 = .ok (.goto (-60), 3) := by decide +kernel
theorem dX7_hitBy_219 : decode cX7_hitBy 219 = .ok (.iload 6, 2) := by decide +kernel
theorem dX7_hitBy_221 : decode cX7_hitBy 221 = .ok (.ifCond .eq 7, 3) := by decide +kernel
theorem dX7_hitBy_224 : decode cX7_hitBy 224 = .ok (.iconst 3, 1) := by decide +kernel
theorem dX7_hitBy_225 : decode cX7_hitBy 225 = .ok (.goto 4, 3) := by decide +kernel
theorem dX7_hitBy_228 : decode cX7_hitBy 228 = .ok (.iconst 0, 1) := by decide +kernel
theorem dX7_hitBy_229 : decode cX7_hitBy 229 = .ok (.ireturn, 1) := by decide +kernel
set_option maxRecDepth 20000 in
theorem ggX7_isFree_X7_has : GoodIn wsX7_isFree wsX7_has := goodIn_r _ [4] (by decide +kernel) (by decide +kernel)
set_option maxRecDepth 20000 in
theorem gX7_isFree_X7_has : GoodIn wsX7_isFree (va_wsS RX7 70 yX7_has wsX7_has) := goodIn_app (goodIn_of _ (by decide +kernel)) ggX7_isFree_X7_has
set_option maxRecDepth 20000 in
theorem ggX7_isFree_X7_hitBy : GoodIn wsX7_isFree wsX7_hitBy := goodIn_r _ [8, 9, 10, 11, 12, 3, 13, 14, 15, 16, 17, 18, 19, 20, 21, 22, 1, 2, 4, 23, 24, 25, 26, 27, 28, 29, 30, 31, 32, 33, 34, 35, 36, 37, 38, 39, 40, 41, 42, 43, 44, 45, 46, 47, 48, 49, 50, 51, 52, 53, 54, 55, 56, 57, 58, 59] (by decide +kernel) (by decide +kernel)
set_option maxRecDepth 20000 in
theorem gX7_isFree_X7_hitBy : GoodIn wsX7_isFree (wsV RX7 95 RX7 yX7_hitBy wsX7_hitBy) := goodIn_app (goodIn_of _ (by decide +kernel)) ggX7_isFree_X7_hitBy
theorem dX7_isFree_0 : decode cX7_isFree 0 = .ok (.iload_n 2, 1) := by decide +kernel
theorem dX7_isFree_1 : decode cX7_isFree 1 = .ok (.iload_n 1, 1) := by decide +kernel
theorem dX7_isFree_2 : decode cX7_isFree 2 = .ok (.invokestatic 70, 3) := by decide +kernel
theorem dX7_isFree_5 : decode cX7_isFree 5 = .ok (.ifCond .ne 16, 3) := by decide +kernel
theorem dX7_isFree_8 : decode cX7_isFree 8 = .ok (.aload_n 0, 1) := by decide +kernel
theorem dX7_isFree_9 : decode cX7_isFree 9 = .ok (.iload_n 1, 1) := by decide +kernel
theorem dX7_isFree_10 : decode cX7_isFree 10 = .ok (.iload_n 2, 1) := by decide +kernel
theorem dX7_isFree_11 : decode cX7_isFree 11 = .ok (.invokevirtual 95, 3) := by decide +kernel
theorem dX7_isFree_14 : decode cX7_isFree 14 = .ok (.ifCond .ne 7, 3) := by decide +kernel
theorem dX7_isFree_17 : decode cX7_isFree 17 = .ok (.iconst 1, 1) := by decide +kernel
theorem dX7_isFree_18 : decode cX7_isFree 18 = .ok (.goto 4, 3) := by decide +kernel
theorem dX7_isFree_21 : decode cX7_isFree 21 = .ok (.iconst 0, 1) := by decide +kernel
theorem dX7_isFree_22 : decode cX7_isFree 22 = .ok (.ireturn, 1) := by decide +kernel
set_option maxRecDepth 20000 in
theorem ggX7_mayBend_X7_within : GoodIn wsX7_mayBend wsX7_within := goodIn_r _ [4] (by decide +kernel) (by decide +kernel)
set_option maxRecDepth 20000 in
theorem gX7_mayBend_X7_within : GoodIn wsX7_mayBend (va_wsS RX7 52 yX7_within wsX7_within) := goodIn_app (goodIn_of _ (by decide +kernel)) ggX7_mayBend_X7_within
theorem dX7_mayBend_0 : decode cX7_mayBend 0 = .ok (.iload_n 1, 1) := by decide +kernel
theorem dX7_mayBend_1 : decode cX7_mayBend 1 = .ok (.iconst 1, 1) := by decide +kernel
theorem dX7_mayBend_2 : decode cX7_mayBend 2 = .ok (.bipush 20, 2) := by decide +kernel
theorem dX7_mayBend_4 : decode cX7_mayBend 4 = .ok (.invokestatic 52, 3) := by decide +kernel
theorem dX7_mayBend_7 : decode cX7_mayBend 7 = .ok (.ifCond .eq 26, 3) := by decide +kernel
theorem dX7_mayBend_10 : decode cX7_mayBend 10 = .ok (.iload_n 2, 1) := by decide +kernel
theorem dX7_mayBend_11 : decode cX7_mayBend 11 = .ok (.iconst 1, 1) := by decide +kernel
theorem dX7_mayBend_12 : decode cX7_mayBend 12 = .ok (.if_icmp .eq 8, 3) := by decide +kernel
theorem dX7_mayBend_15 : decode cX7_mayBend 15 = .ok (.iload_n 2, 1) := by decide +kernel
theorem dX7_mayBend_16 : decode cX7_mayBend 16 = .ok (.iconst (-1), 1) := by decide +kernel
theorem dX7_mayBend_17 : decode cX7_mayBend 17 = .ok (.if_icmp .ne 16, 3) := by decide +kernel
theorem dX7_mayBend_20 : decode cX7_mayBend 20 = .ok (.iload_n 3, 1) := by decide +kernel
theorem dX7_mayBend_21 : decode cX7_mayBend 21 = .ok (.iconst 0, 1) := by decide +kernel
theorem dX7_mayBend_22 : decode cX7_mayBend 22 = .ok (.iconst 2, 1) := by decide +kernel
theorem dX7_mayBend_23 : decode cX7_mayBend 23 = .ok (.invokestatic 52, 3) := by decide +kernel
theorem dX7_mayBend_26 : decode cX7_mayBend 26 = .ok (.ifCond .eq 7, 3) := by decide +kernel
theorem dX7_mayBend_29 : decode cX7_mayBend 29 = .ok (.iconst 1, 1) := by decide +kernel
theorem dX7_mayBend_30 : decode cX7_mayBend 30 = .ok (.goto 4, 3) := by decide +kernel
theorem dX7_mayBend_33 : decode cX7_mayBend 33 = .ok (.iconst 0, 1) := by decide +kernel
theorem dX7_mayBend_34 : decode cX7_mayBend 34 = .ok (.ireturn, 1) := by decide +kernel
set_option maxRecDepth 20000 in
theorem ggX7_mayPress_X7_within : GoodIn wsX7_mayPress wsX7_within := goodIn_r _ [4] (by decide +kernel) (by decide +kernel)
set_option maxRecDepth 20000 in
theorem gX7_mayPress_X7_within : GoodIn wsX7_mayPress (va_wsS RX7 52 yX7_within wsX7_within) := goodIn_app (goodIn_of _ (by decide +kernel)) ggX7_mayPress_X7_within
theorem dX7_mayPress_0 : decode cX7_mayPress 0 = .ok (.iload_n 1, 1) := by decide +kernel
theorem dX7_mayPress_1 : decode cX7_mayPress 1 = .ok (.iconst 0, 1) := by decide +kernel
theorem dX7_mayPress_2 : decode cX7_mayPress 2 = .ok (.bipush 20, 2) := by decide +kernel
theorem dX7_mayPress_4 : decode cX7_mayPress 4 = .ok (.invokestatic 52, 3) := by decide +kernel
theorem dX7_mayPress_7 : decode cX7_mayPress 7 = .ok (.ifCond .eq 17, 3) := by decide +kernel
theorem dX7_mayPress_10 : decode cX7_mayPress 10 = .ok (.iload_n 2, 1) := by decide +kernel
theorem dX7_mayPress_11 : decode cX7_mayPress 11 = .ok (.iconst 0, 1) := by decide +kernel
theorem dX7_mayPress_12 : decode cX7_mayPress 12 = .ok (.bipush 40, 2) := by decide +kernel
theorem dX7_mayPress_14 : decode cX7_mayPress 14 = .ok (.invokestatic 52, 3) := by decide +kernel
theorem dX7_mayPress_17 : decode cX7_mayPress 17 = .ok (.ifCond .eq 7, 3) := by decide +kernel
theorem dX7_mayPress_20 : decode cX7_mayPress 20 = .ok (.iconst 1, 1) := by decide +kernel
theorem dX7_mayPress_21 : decode cX7_mayPress 21 = .ok (.goto 4, 3) := by decide +kernel
theorem dX7_mayPress_24 : decode cX7_mayPress 24 = .ok (.iconst 0, 1) := by decide +kernel
theorem dX7_mayPress_25 : decode cX7_mayPress 25 = .ok (.ireturn, 1) := by decide +kernel
set_option maxRecDepth 20000 in
theorem ggX7_mayTake_X7_within : GoodIn wsX7_mayTake wsX7_within := goodIn_r _ [4] (by decide +kernel) (by decide +kernel)
set_option maxRecDepth 20000 in
theorem gX7_mayTake_X7_within : GoodIn wsX7_mayTake (va_wsS RX7 52 yX7_within wsX7_within) := goodIn_app (goodIn_of _ (by decide +kernel)) ggX7_mayTake_X7_within
theorem dX7_mayTake_0 : decode cX7_mayTake 0 = .ok (.iload_n 1, 1) := by decide +kernel
theorem dX7_mayTake_1 : decode cX7_mayTake 1 = .ok (.iconst 0, 1) := by decide +kernel
theorem dX7_mayTake_2 : decode cX7_mayTake 2 = .ok (.iconst 2, 1) := by decide +kernel
theorem dX7_mayTake_3 : decode cX7_mayTake 3 = .ok (.invokestatic 52, 3) := by decide +kernel
theorem dX7_mayTake_6 : decode cX7_mayTake 6 = .ok (.ifCond .eq 17, 3) := by decide +kernel
theorem dX7_mayTake_9 : decode cX7_mayTake 9 = .ok (.iload_n 2, 1) := by decide +kernel
theorem dX7_mayTake_10 : decode cX7_mayTake 10 = .ok (.iconst 0, 1) := by decide +kernel
theorem dX7_mayTake_11 : decode cX7_mayTake 11 = .ok (.bipush 99, 2) := by decide +kernel
theorem dX7_mayTake_13 : decode cX7_mayTake 13 = .ok (.invokestatic 52, 3) := by decide +kernel
theorem dX7_mayTake_16 : decode cX7_mayTake 16 = .ok (.ifCond .eq 7, 3) := by decide +kernel
theorem dX7_mayTake_19 : decode cX7_mayTake 19 = .ok (.iconst 1, 1) := by decide +kernel
theorem dX7_mayTake_20 : decode cX7_mayTake 20 = .ok (.goto 4, 3) := by decide +kernel
theorem dX7_mayTake_23 : decode cX7_mayTake 23 = .ok (.iconst 0, 1) := by decide +kernel
theorem dX7_mayTake_24 : decode cX7_mayTake 24 = .ok (.ireturn, 1) := by decide +kernel
theorem dX7_strips_0 : decode cX7_strips 0 = .ok (.aload_n 0, 1) := by decide +kernel
theorem dX7_strips_1 : decode cX7_strips 1 = .ok (.getfield 7, 3) := by decide +kernel
