theorem dX7_mix_1 : decode cX7_mix 1 = .ok (.ldc2_w 201, 3) := by decide +kernel
theorem dX7_mix_4 : decode cX7_mix 4 = .ok (.aload_n 0, 1) := by decide +kernel
theorem dX7_mix_5 : decode cX7_mix 5 = .ok (.getfield 203, 3) := by decide +kernel
theorem dX7_mix_8 : decode cX7_mix 8 = .ok (.lmul, 1) := by decide +kernel
theorem dX7_mix_9 : decode cX7_mix 9 = .ok (.iload_n 1, 1) := by decide +kernel
theorem dX7_mix_10 : decode cX7_mix 10 = .ok (.i2l, 1) := by decide +kernel
theorem dX7_mix_11 : decode cX7_mix 11 = .ok (.ladd, 1) := by decide +kernel
theorem dX7_mix_12 : decode cX7_mix 12 = .ok (.putfield 203, 3) := by decide +kernel
theorem dX7_mix_15 : decode cX7_mix 15 = .ok (.return_, 1) := by decide +kernel
set_option maxRecDepth 20000 in
theorem ggX7_digest_X7_toldIs : GoodIn wsX7_digest wsX7_toldIs := goodIn_r _ [11, 12, 13, 14, 106, 107, 108, 109, 110, 111, 112, 113, 114, 115, 116, 117, 118, 119, 120, 121, 122, 123, 124] (by decide +kernel) (by decide +kernel)
set_option maxRecDepth 20000 in
theorem gX7_digest_X7_toldIs : GoodIn wsX7_digest (wsV RX7 198 RX7 yX7_toldIs wsX7_toldIs) := goodIn_app (goodIn_of _ (by decide +kernel)) ggX7_digest_X7_toldIs
set_option maxRecDepth 20000 in
theorem ggX7_digest_X7_mix : GoodIn wsX7_digest wsX7_mix := goodIn_r _ [18, 19, 2, 106, 107, 108, 109, 110, 111, 112, 113, 114, 115, 116, 117, 118, 119, 120, 121, 122, 123, 124] (by decide +kernel) (by decide +kernel)
set_option maxRecDepth 20000 in
theorem gX7_digest_X7_mix : GoodIn wsX7_digest (wsV RX7 209 RX7 yX7_mix wsX7_mix) := goodIn_app (goodIn_of _ (by decide +kernel)) ggX7_digest_X7_mix
set_option maxRecDepth 20000 in
theorem ggX7_digest_X7_countIs : GoodIn wsX7_digest wsX7_countIs := goodIn_r _ [23, 3, 24, 25, 10, 26, 27, 28, 29, 30, 31, 32, 33, 34, 35, 36, 37, 106, 107, 108, 109, 110, 111, 112, 113, 114, 115, 116, 117, 118, 119, 120, 121, 122, 123, 124] (by decide +kernel) (by decide +kernel)
set_option maxRecDepth 20000 in
theorem gX7_digest_X7_countIs : GoodIn wsX7_digest (wsV RX7 161 RX7 yX7_countIs wsX7_countIs) := goodIn_app (goodIn_of _ (by decide +kernel)) ggX7_digest_X7_countIs
set_option maxRecDepth 20000 in
theorem ggX7_digest_X7_ofBend : GoodIn wsX7_digest wsX7_ofBend := goodIn_r _ [41, 3, 106, 107, 108, 109, 110, 111, 112, 113, 114, 115, 116, 117, 118, 119, 120, 121, 122, 123, 124] (by decide +kernel) (by decide +kernel)
set_option maxRecDepth 20000 in
theorem gX7_digest_X7_ofBend : GoodIn wsX7_digest (wsV RX7 133 RX7 yX7_ofBend wsX7_ofBend) := goodIn_app (goodIn_of _ (by decide +kernel)) ggX7_digest_X7_ofBend
set_option maxRecDepth 20000 in
theorem ggX7_digest_X7_lays : GoodIn wsX7_digest wsX7_lays := goodIn_r _ [45, 4, 5, 3, 46, 47, 48, 10, 49, 50, 51, 52, 35, 36, 37, 106, 107, 108, 109, 110, 111, 112, 113, 114, 115, 116, 117, 118, 119, 120, 121, 122, 123, 124] (by decide +kernel) (by decide +kernel)
set_option maxRecDepth 20000 in
theorem gX7_digest_X7_lays : GoodIn wsX7_digest (wsV RX7 81 RX7 yX7_lays wsX7_lays) := goodIn_app (goodIn_of _ (by decide +kernel)) ggX7_digest_X7_lays
set_option maxRecDepth 20000 in
theorem ggX7_digest_X7_boxIs : GoodIn wsX7_digest wsX7_boxIs := goodIn_r _ [56, 3, 4, 5, 42, 43, 44, 10, 45, 46, 47, 48, 49, 50, 51, 52, 35, 36, 37, 57, 58, 59, 60, 61, 62, 106, 107, 108, 109, 110, 111, 112, 113, 114, 115, 116, 117, 118, 119, 120, 121, 122, 123, 124] (by decide +kernel) (by decide +kernel)
set_option maxRecDepth 20000 in
theorem gX7_digest_X7_boxIs : GoodIn wsX7_digest (wsV RX7 136 RX7 yX7_boxIs wsX7_boxIs) := goodIn_app (goodIn_of _ (by decide +kernel)) ggX7_digest_X7_boxIs
set_option maxRecDepth 20000 in
theorem ggX7_digest_X7_free : GoodIn wsX7_digest wsX7_free := goodIn_r _ [66, 3, 67, 68, 69, 10, 70, 35, 36, 37, 71, 72, 73, 74, 42, 43, 44, 45, 4, 5, 46, 47, 48, 49, 50, 51, 52, 75, 76, 77, 78, 79, 80, 81, 82, 57, 58, 59, 60, 61, 62, 83, 84, 85, 86, 106, 107, 108, 109, 110, 111, 112, 113, 114, 115, 116, 117, 118, 119, 120, 121, 122, 123, 124] (by decide +kernel) (by decide +kernel)
set_option maxRecDepth 20000 in
theorem gX7_digest_X7_free : GoodIn wsX7_digest (wsV RX7 212 RX7 yX7_free wsX7_free) := goodIn_app (goodIn_of _ (by decide +kernel)) ggX7_digest_X7_free
set_option maxRecDepth 20000 in
theorem ggX7_digest_X7_laysOrders : GoodIn wsX7_digest wsX7_laysOrders := goodIn_r _ [90, 91, 6, 92, 3, 27, 28, 29, 10, 30, 67, 68, 69, 70, 35, 36, 37, 71, 72, 73, 74, 42, 43, 44, 45, 4, 5, 46, 47, 48, 49, 50, 51, 52, 75, 76, 77, 78, 79, 80, 81, 82, 57, 58, 59, 60, 61, 62, 83, 84, 85, 86, 93, 94, 95, 96, 106, 107, 108, 109, 110, 111, 112, 113, 114, 115, 116, 117, 118, 119, 120, 121, 122, 123, 124] (by decide +kernel) (by decide +kernel)
set_option maxRecDepth 20000 in
theorem gX7_digest_X7_laysOrders : GoodIn wsX7_digest (wsV RX7 146 RX7 yX7_laysOrders wsX7_laysOrders) := goodIn_app (goodIn_of _ (by decide +kernel)) ggX7_digest_X7_laysOrders
set_option maxRecDepth 20000 in
theorem ggX7_digest_X7_changesIs : GoodIn wsX7_digest wsX7_changesIs := goodIn_r _ [100, 6, 101, 102, 103, 10, 104, 3, 91, 92, 105, 35, 36, 37, 93, 94, 95, 96, 106, 107, 108, 109, 110, 111, 112, 113, 114, 115, 116, 117, 118, 119, 120, 121, 122, 123, 124] (by decide +kernel) (by decide +kernel)
set_option maxRecDepth 20000 in
theorem gX7_digest_X7_changesIs : GoodIn wsX7_digest (wsV RX7 155 RX7 yX7_changesIs wsX7_changesIs) := goodIn_app (goodIn_of _ (by decide +kernel)) ggX7_digest_X7_changesIs
theorem dX7_digest_0 : decode cX7_digest 0 = .ok (.aload_n 0, 1) := by decide +kernel
theorem dX7_digest_1 : decode cX7_digest 1 = .ok (.ldc2_w 207, 3) := by decide +kernel
theorem dX7_digest_4 : decode cX7_digest 4 = .ok (.putfield 203, 3) := by decide +kernel
theorem dX7_digest_7 : decode cX7_digest 7 = .ok (.iconst 0, 1) := by decide +kernel
theorem dX7_digest_8 : decode cX7_digest 8 = .ok (.istore_n 1, 1) := by decide +kernel
theorem dX7_digest_9 : decode cX7_digest 9 = .ok (.iload_n 1, 1) := by decide +kernel
theorem dX7_digest_10 : decode cX7_digest 10 = .ok (.iconst 5, 1) := by decide +kernel
theorem dX7_digest_11 : decode cX7_digest 11 = .ok (.if_icmp .ge 18, 3) := by decide +kernel
theorem dX7_digest_14 : decode cX7_digest 14 = .ok (.aload_n 0, 1) := by decide +kernel
theorem dX7_digest_15 : decode cX7_digest 15 = .ok (.aload_n 0, 1) := by decide +kernel
theorem dX7_digest_16 : decode cX7_digest 16 = .ok (.iload_n 1, 1) := by decide +kernel
theorem dX7_digest_17 : decode cX7_digest 17 = .ok (.invokevirtual 198, 3) := by decide +kernel
theorem dX7_digest_20 : decode cX7_digest 20 = .ok (.invokevirtual 209, 3) := by decide +kernel
theorem dX7_digest_23 : decode cX7_digest 23 = .ok (.iinc 1 1, 3) := by decide +kernel
theorem dX7_digest_26 : decode cX7_digest 26 = .ok (.goto (-17), 3) := by decide +kernel
theorem dX7_digest_29 : decode cX7_digest 29 = .ok (.iconst 0, 1) := by decide +kernel
theorem dX7_digest_30 : decode cX7_digest 30 = .ok (.istore_n 1, 1) := by decide +kernel
theorem dX7_digest_31 : decode cX7_digest 31 = .ok (.iload_n 1, 1) := by decide +kernel
theorem dX7_digest_32 : decode cX7_digest 32 = .ok (.bipush 11, 2) := by decide +kernel
theorem dX7_digest_34 : decode cX7_digest 34 = .ok (.if_icmp .ge 18, 3) := by decide +kernel
theorem dX7_digest_37 : decode cX7_digest 37 = .ok (.aload_n 0, 1) := by decide +kernel
theorem dX7_digest_38 : decode cX7_digest 38 = .ok (.aload_n 0, 1) := by decide +kernel
theorem dX7_digest_39 : decode cX7_digest 39 = .ok (.iload_n 1, 1) := by decide +kernel
theorem dX7_digest_40 : decode cX7_digest 40 = .ok (.invokevirtual 161, 3) := by decide +kernel
theorem dX7_digest_43 : decode cX7_digest 43 = .ok (.invokevirtual 209, 3) := by decide +kernel
theorem dX7_digest_46 : decode cX7_digest 46 = .ok (.iinc 1 1, 3) := by decide +kernel
theorem dX7_digest_49 : decode cX7_digest 49 = .ok (.goto (-18), 3) := by decide +kernel
theorem dX7_digest_52 : decode cX7_digest 52 = .ok (.aload_n 0, 1) := by decide +kernel
theorem dX7_digest_53 : decode cX7_digest 53 = .ok (.aload_n 0, 1) := by decide +kernel
theorem dX7_digest_54 : decode cX7_digest 54 = .ok (.getfield 7, 3) := by decide +kernel
theorem dX7_digest_57 : decode cX7_digest 57 = .ok (.iconst 1, 1) := by decide +kernel
theorem dX7_digest_58 : decode cX7_digest 58 = .ok (.iaload, 1) := by decide +kernel
theorem dX7_digest_59 : decode cX7_digest 59 = .ok (.invokevirtual 209, 3) := by decide +kernel
theorem dX7_digest_62 : decode cX7_digest 62 = .ok (.iconst 0, 1) := by decide +kernel
theorem dX7_digest_63 : decode cX7_digest 63 = .ok (.istore_n 1, 1) := by decide +kernel
theorem dX7_digest_64 : decode cX7_digest 64 = .ok (.iload_n 1, 1) := by decide +kernel
theorem dX7_digest_65 : decode cX7_digest 65 = .ok (.iconst 4, 1) := by decide +kernel
theorem dX7_digest_66 : decode cX7_digest 66 = .ok (.aload_n 0, 1) := by decide +kernel
theorem dX7_digest_67 : decode cX7_digest 67 = .ok (.getfield 7, 3) := by decide +kernel
theorem dX7_digest_70 : decode cX7_digest 70 = .ok (.iconst 0, 1) := by decide +kernel
theorem dX7_digest_71 : decode cX7_digest 71 = .ok (.iaload, 1) := by decide +kernel
theorem dX7_digest_72 : decode cX7_digest 72 = .ok (.imul, 1) := by decide +kernel
theorem dX7_digest_73 : decode cX7_digest 73 = .ok (.if_icmp .ge 23, 3) := by decide +kernel
theorem dX7_digest_76 : decode cX7_digest 76 = .ok (.aload_n 0, 1) := by decide +kernel
theorem dX7_digest_77 : decode cX7_digest 77 = .ok (.aload_n 0, 1) := by decide +kernel
theorem dX7_digest_78 : decode cX7_digest 78 = .ok (.iload_n 1, 1) := by decide +kernel
theorem dX7_digest_79 : decode cX7_digest 79 = .ok (.iconst 4, 1) := by decide +kernel
theorem dX7_digest_80 : decode cX7_digest 80 = .ok (.idiv, 1) := by decide +kernel
theorem dX7_digest_81 : decode cX7_digest 81 = .ok (.iload_n 1, 1) := by decide +kernel
theorem dX7_digest_82 : decode cX7_digest 82 = .ok (.iconst 4, 1) := by decide +kernel
theorem dX7_digest_83 : decode cX7_digest 83 = .ok (.irem, 1) := by decide +kernel
theorem dX7_digest_84 : decode cX7_digest 84 = .ok (.invokevirtual 133, 3) := by decide +kernel
theorem dX7_digest_87 : decode cX7_digest 87 = .ok (.invokevirtual 209, 3) := by decide +kernel
theorem dX7_digest_90 : decode cX7_digest 90 = .ok (.iinc 1 1, 3) := by decide +kernel
theorem dX7_digest_93 : decode cX7_digest 93 = .ok (.goto (-29), 3) := by decide +kernel
theorem dX7_digest_96 : decode cX7_digest 96 = .ok (.aload_n 0, 1) := by decide +kernel
theorem dX7_digest_97 : decode cX7_digest 97 = .ok (.aload_n 0, 1) := by decide +kernel
theorem dX7_digest_98 : decode cX7_digest 98 = .ok (.getfield 7, 3) := by decide +kernel
theorem dX7_digest_101 : decode cX7_digest 101 = .ok (.bipush 20, 2) := by decide +kernel
theorem dX7_digest_103 : decode cX7_digest 103 = .ok (.iaload, 1) := by decide +kernel
theorem dX7_digest_104 : decode cX7_digest 104 = .ok (.invokevirtual 81, 3) := by decide +kernel
theorem dX7_digest_107 : decode cX7_digest 107 = .ok (.iconst 0, 1) := by decide +kernel
theorem dX7_digest_108 : decode cX7_digest 108 = .ok (.istore_n 1, 1) := by decide +kernel
theorem dX7_digest_109 : decode cX7_digest 109 = .ok (.iload_n 1, 1) := by decide +kernel
theorem dX7_digest_110 : decode cX7_digest 110 = .ok (.aload_n 0, 1) := by decide +kernel
theorem dX7_digest_111 : decode cX7_digest 111 = .ok (.getfield 7, 3) := by decide +kernel
theorem dX7_digest_114 : decode cX7_digest 114 = .ok (.iconst 0, 1) := by decide +kernel
theorem dX7_digest_115 : decode cX7_digest 115 = .ok (.iaload, 1) := by decide +kernel
theorem dX7_digest_116 : decode cX7_digest 116 = .ok (.iconst 2, 1) := by decide +kernel
theorem dX7_digest_117 : decode cX7_digest 117 = .ok (.iadd, 1) := by decide +kernel
theorem dX7_digest_118 : decode cX7_digest 118 = .ok (.if_icmp .ge 29, 3) := by decide +kernel
theorem dX7_digest_121 : decode cX7_digest 121 = .ok (.aload_n 0, 1) := by decide +kernel
theorem dX7_digest_122 : decode cX7_digest 122 = .ok (.aload_n 0, 1) := by decide +kernel
theorem dX7_digest_123 : decode cX7_digest 123 = .ok (.getfield 25, 3) := by decide +kernel
theorem dX7_digest_126 : decode cX7_digest 126 = .ok (.iload_n 1, 1) := by decide +kernel
theorem dX7_digest_127 : decode cX7_digest 127 = .ok (.iaload, 1) := by decide +kernel
theorem dX7_digest_128 : decode cX7_digest 128 = .ok (.invokevirtual 209, 3) := by decide +kernel
theorem dX7_digest_131 : decode cX7_digest 131 = .ok (.aload_n 0, 1) := by decide +kernel
theorem dX7_digest_132 : decode cX7_digest 132 = .ok (.aload_n 0, 1) := by decide +kernel
theorem dX7_digest_133 : decode cX7_digest 133 = .ok (.getfield 28, 3) := by decide +kernel
theorem dX7_digest_136 : decode cX7_digest 136 = .ok (.iload_n 1, 1) := by decide +kernel
theorem dX7_digest_137 : decode cX7_digest 137 = .ok (.iaload, 1) := by decide +kernel
theorem dX7_digest_138 : decode cX7_digest 138 = .ok (.invokevirtual 209, 3) := by decide +kernel
theorem dX7_digest_141 : decode cX7_digest 141 = .ok (.iinc 1 1, 3) := by decide +kernel
theorem dX7_digest_144 : decode cX7_digest 144 = .ok (.goto (-35), 3) := by decide +kernel
theorem dX7_digest_147 : decode cX7_digest 147 = .ok (.iconst 0, 1) := by decide +kernel
theorem dX7_digest_148 : decode cX7_digest 148 = .ok (.istore_n 1, 1) := by decide +kernel
theorem dX7_digest_149 : decode cX7_digest 149 = .ok (.iload_n 1, 1) := by decide +kernel
theorem dX7_digest_150 : decode cX7_digest 150 = .ok (.iconst 4, 1) := by decide +kernel
theorem dX7_digest_151 : decode cX7_digest 151 = .ok (.if_icmp .ge 18, 3) := by decide +kernel
theorem dX7_digest_154 : decode cX7_digest 154 = .ok (.aload_n 0, 1) := by decide +kernel
theorem dX7_digest_155 : decode cX7_digest 155 = .ok (.aload_n 0, 1) := by decide +kernel
theorem dX7_digest_156 : decode cX7_digest 156 = .ok (.iload_n 1, 1) := by decide +kernel
theorem dX7_digest_157 : decode cX7_digest 157 = .ok (.invokevirtual 136, 3) := by decide +kernel
theorem dX7_digest_160 : decode cX7_digest 160 = .ok (.invokevirtual 209, 3) := by decide +kernel
theorem dX7_digest_163 : decode cX7_digest 163 = .ok (.iinc 1 1, 3) := by decide +kernel
theorem dX7_digest_166 : decode cX7_digest 166 = .ok (.goto (-17), 3) := by decide +kernel
theorem dX7_digest_169 : decode cX7_digest 169 = .ok (.aload_n 0, 1) := by decide +kernel
theorem dX7_digest_170 : decode cX7_digest 170 = .ok (.aload_n 0, 1) := by decide +kernel
theorem dX7_digest_171 : decode cX7_digest 171 = .ok (.invokevirtual 212, 3) := by decide +kernel
theorem dX7_digest_174 : decode cX7_digest 174 = .ok (.invokevirtual 209, 3) := by decide +kernel
theorem dX7_digest_177 : decode cX7_digest 177 = .ok (.aload_n 0, 1) := by decide +kernel
theorem dX7_digest_178 : decode cX7_digest 178 = .ok (.invokevirtual 146, 3) := by decide +kernel
theorem dX7_digest_181 : decode cX7_digest 181 = .ok (.aload_n 0, 1) := by decide +kernel
theorem dX7_digest_182 : decode cX7_digest 182 = .ok (.aload_n 0, 1) := by decide +kernel
theorem dX7_digest_183 : decode cX7_digest 183 = .ok (.getfield 37, 3) := by decide +kernel
theorem dX7_digest_186 : decode cX7_digest 186 = .ok (.iconst 0, 1) := by decide +kernel
theorem dX7_digest_187 : decode cX7_digest 187 = .ok (.iaload, 1) := by decide +kernel
theorem dX7_digest_188 : decode cX7_digest 188 = .ok (.invokevirtual 209, 3) := by decide +kernel
theorem dX7_digest_191 : decode cX7_digest 191 = .ok (.aload_n 0, 1) := by decide +kernel
theorem dX7_digest_192 : decode cX7_digest 192 = .ok (.aload_n 0, 1) := by decide +kernel
theorem dX7_digest_193 : decode cX7_digest 193 = .ok (.iconst 0, 1) := by decide +kernel
theorem dX7_digest_194 : decode cX7_digest 194 = .ok (.invokevirtual 155, 3) := by decide +kernel
theorem dX7_digest_197 : decode cX7_digest 197 = .ok (.invokevirtual 209, 3) := by decide +kernel
theorem dX7_digest_200 : decode cX7_digest 200 = .ok (.aload_n 0, 1) := by decide +kernel
theorem dX7_digest_201 : decode cX7_digest 201 = .ok (.aload_n 0, 1) := by decide +kernel
theorem dX7_digest_202 : decode cX7_digest 202 = .ok (.iconst 1, 1) := by decide +kernel
theorem dX7_digest_203 : decode cX7_digest 203 = .ok (.invokevirtual 155, 3) := by decide +kernel
theorem dX7_digest_206 : decode cX7_digest 206 = .ok (.invokevirtual 209, 3) := by decide +kernel
theorem dX7_digest_209 : decode cX7_digest 209 = .ok (.aload_n 0, 1) := by decide +kernel
theorem dX7_digest_210 : decode cX7_digest 210 = .ok (.aload_n 0, 1) := by decide +kernel
theorem dX7_digest_211 : decode cX7_digest 211 = .ok (.getfield 37, 3) := by decide +kernel
theorem dX7_digest_214 : decode cX7_digest 214 = .ok (.aload_n 0, 1) := by decide +kernel
theorem dX7_digest_215 : decode cX7_digest 215 = .ok (.getfield 7, 3) := by decide +kernel
theorem dX7_digest_218 : decode cX7_digest 218 = .ok (.bipush 20, 2) := by decide +kernel
theorem dX7_digest_220 : decode cX7_digest 220 = .ok (.iaload, 1) := by decide +kernel
theorem dX7_digest_221 : decode cX7_digest 221 = .ok (.iaload, 1) := by decide +kernel
theorem dX7_digest_222 : decode cX7_digest 222 = .ok (.invokevirtual 209, 3) := by decide +kernel
theorem dX7_digest_225 : decode cX7_digest 225 = .ok (.aload_n 0, 1) := by decide +kernel
theorem dX7_digest_226 : decode cX7_digest 226 = .ok (.getfield 203, 3) := by decide +kernel
theorem dX7_digest_229 : decode cX7_digest 229 = .ok (.lreturn, 1) := by decide +kernel
theorem dJ6_bitCount_0f7a4_0 : decode cJ6_bitCount_0f7a4 0 = .ok (.iload_n 0, 1) := by decide +kernel
theorem dJ6_bitCount_0f7a4_1 : decode cJ6_bitCount_0f7a4 1 = .ok (.iload_n 0, 1) := by decide +kernel
theorem dJ6_bitCount_0f7a4_2 : decode cJ6_bitCount_0f7a4 2 = .ok (.iconst 1, 1) := by decide +kernel
theorem dJ6_bitCount_0f7a4_3 : decode cJ6_bitCount_0f7a4 3 = .ok (.iushr, 1) := by decide +kernel
theorem dJ6_bitCount_0f7a4_4 : decode cJ6_bitCount_0f7a4 4 = .ok (.ldc_w 265, 3) := by decide +kernel
theorem dJ6_bitCount_0f7a4_7 : decode cJ6_bitCount_0f7a4 7 = .ok (.iand, 1) := by decide +kernel
theorem dJ6_bitCount_0f7a4_8 : decode cJ6_bitCount_0f7a4 8 = .ok (.isub, 1) := by decide +kernel
theorem dJ6_bitCount_0f7a4_9 : decode cJ6_bitCount_0f7a4 9 = .ok (.istore_n 0, 1) := by decide +kernel
theorem dJ6_bitCount_0f7a4_10 : decode cJ6_bitCount_0f7a4 10 = .ok (.iload_n 0, 1) := by decide +kernel
theorem dJ6_bitCount_0f7a4_11 : decode cJ6_bitCount_0f7a4 11 = .ok (.ldc_w 266, 3) := by decide +kernel
theorem dJ6_bitCount_0f7a4_14 : decode cJ6_bitCount_0f7a4 14 = .ok (.iand, 1) := by decide +kernel
theorem dJ6_bitCount_0f7a4_15 : decode cJ6_bitCount_0f7a4 15 = .ok (.iload_n 0, 1) := by decide +kernel
theorem dJ6_bitCount_0f7a4_16 : decode cJ6_bitCount_0f7a4 16 = .ok (.iconst 2, 1) := by decide +kernel
theorem dJ6_bitCount_0f7a4_17 : decode cJ6_bitCount_0f7a4 17 = .ok (.iushr, 1) := by decide +kernel
theorem dJ6_bitCount_0f7a4_18 : decode cJ6_bitCount_0f7a4 18 = .ok (.ldc_w 266, 3) := by decide +kernel
theorem dJ6_bitCount_0f7a4_21 : decode cJ6_bitCount_0f7a4 21 = .ok (.iand, 1) := by decide +kernel
theorem dJ6_bitCount_0f7a4_22 : decode cJ6_bitCount_0f7a4 22 = .ok (.iadd, 1) := by decide +kernel
theorem dJ6_bitCount_0f7a4_23 : decode cJ6_bitCount_0f7a4 23 = .ok (.istore_n 0, 1) := by decide +kernel
theorem dJ6_bitCount_0f7a4_24 : decode cJ6_bitCount_0f7a4 24 = .ok (.iload_n 0, 1) := by decide +kernel
theorem dJ6_bitCount_0f7a4_25 : decode cJ6_bitCount_0f7a4 25 = .ok (.iload_n 0, 1) := by decide +kernel
theorem dJ6_bitCount_0f7a4_26 : decode cJ6_bitCount_0f7a4 26 = .ok (.iconst 4, 1) := by decide +kernel
theorem dJ6_bitCount_0f7a4_27 : decode cJ6_bitCount_0f7a4 27 = .ok (.iushr, 1) := by decide +kernel
theorem dJ6_bitCount_0f7a4_28 : decode cJ6_bitCount_0f7a4 28 = .ok (.iadd, 1) := by decide +kernel
theorem dJ6_bitCount_0f7a4_29 : decode cJ6_bitCount_0f7a4 29 = .ok (.ldc_w 267, 3) := by decide +kernel
theorem dJ6_bitCount_0f7a4_32 : decode cJ6_bitCount_0f7a4 32 = .ok (.iand, 1) := by decide +kernel
theorem dJ6_bitCount_0f7a4_33 : decode cJ6_bitCount_0f7a4 33 = .ok (.istore_n 0, 1) := by decide +kernel
theorem dJ6_bitCount_0f7a4_34 : decode cJ6_bitCount_0f7a4 34 = .ok (.iload_n 0, 1) := by decide +kernel
theorem dJ6_bitCount_0f7a4_35 : decode cJ6_bitCount_0f7a4 35 = .ok (.iload_n 0, 1) := by decide +kernel
theorem dJ6_bitCount_0f7a4_36 : decode cJ6_bitCount_0f7a4 36 = .ok (.bipush 8, 2) := by decide +kernel
theorem dJ6_bitCount_0f7a4_38 : decode cJ6_bitCount_0f7a4 38 = .ok (.iushr, 1) := by decide +kernel
theorem dJ6_bitCount_0f7a4_39 : decode cJ6_bitCount_0f7a4 39 = .ok (.iadd, 1) := by decide +kernel
theorem dJ6_bitCount_0f7a4_40 : decode cJ6_bitCount_0f7a4 40 = .ok (.istore_n 0, 1) := by decide +kernel
theorem dJ6_bitCount_0f7a4_41 : decode cJ6_bitCount_0f7a4 41 = .ok (.iload_n 0, 1) := by decide +kernel
theorem dJ6_bitCount_0f7a4_42 : decode cJ6_bitCount_0f7a4 42 = .ok (.iload_n 0, 1) := by decide +kernel
theorem dJ6_bitCount_0f7a4_43 : decode cJ6_bitCount_0f7a4 43 = .ok (.bipush 16, 2) := by decide +kernel
theorem dJ6_bitCount_0f7a4_45 : decode cJ6_bitCount_0f7a4 45 = .ok (.iushr, 1) := by decide +kernel
theorem dJ6_bitCount_0f7a4_46 : decode cJ6_bitCount_0f7a4 46 = .ok (.iadd, 1) := by decide +kernel
theorem dJ6_bitCount_0f7a4_47 : decode cJ6_bitCount_0f7a4 47 = .ok (.istore_n 0, 1) := by decide +kernel
theorem dJ6_bitCount_0f7a4_48 : decode cJ6_bitCount_0f7a4 48 = .ok (.iload_n 0, 1) := by decide +kernel
theorem dJ6_bitCount_0f7a4_49 : decode cJ6_bitCount_0f7a4 49 = .ok (.bipush 63, 2) := by decide +kernel
theorem dJ6_bitCount_0f7a4_51 : decode cJ6_bitCount_0f7a4 51 = .ok (.iand, 1) := by decide +kernel
theorem dJ6_bitCount_0f7a4_52 : decode cJ6_bitCount_0f7a4 52 = .ok (.ireturn, 1) := by decide +kernel
theorem dJ9_max_7cf53_0 : decode cJ9_max_7cf53 0 = .ok (.iload_n 0, 1) := by decide +kernel
theorem dJ9_max_7cf53_1 : decode cJ9_max_7cf53 1 = .ok (.iload_n 1, 1) := by decide +kernel
theorem dJ9_max_7cf53_2 : decode cJ9_max_7cf53 2 = .ok (.if_icmp .lt 7, 3) := by decide +kernel
theorem dJ9_max_7cf53_5 : decode cJ9_max_7cf53 5 = .ok (.iload_n 0, 1) := by decide +kernel
theorem dJ9_max_7cf53_6 : decode cJ9_max_7cf53 6 = .ok (.goto 4, 3) := by decide +kernel
theorem dJ9_max_7cf53_9 : decode cJ9_max_7cf53 9 = .ok (.iload_n 1, 1) := by decide +kernel
theorem dJ9_max_7cf53_10 : decode cJ9_max_7cf53 10 = .ok (.ireturn, 1) := by decide +kernel
theorem dJ9_min_7cf53_0 : decode cJ9_min_7cf53 0 = .ok (.iload_n 0, 1) := by decide +kernel
theorem dJ9_min_7cf53_1 : decode cJ9_min_7cf53 1 = .ok (.iload_n 1, 1) := by decide +kernel
theorem dJ9_min_7cf53_2 : decode cJ9_min_7cf53 2 = .ok (.if_icmp .gt 7, 3) := by decide +kernel
theorem dJ9_min_7cf53_5 : decode cJ9_min_7cf53 5 = .ok (.iload_n 0, 1) := by decide +kernel
theorem dJ9_min_7cf53_6 : decode cJ9_min_7cf53 6 = .ok (.goto 4, 3) := by decide +kernel
theorem dJ9_min_7cf53_9 : decode cJ9_min_7cf53 9 = .ok (.iload_n 1, 1) := by decide +kernel
theorem dJ9_min_7cf53_10 : decode cJ9_min_7cf53 10 = .ok (.ireturn, 1) := by decide +kernel
theorem dJ7_fill_53178_0 : decode cJ7_fill_53178 0 = .ok (.iconst 0, 1) := by decide +kernel
theorem dJ7_fill_53178_1 : decode cJ7_fill_53178 1 = .ok (.istore_n 2, 1) := by decide +kernel
theorem dJ7_fill_53178_2 : decode cJ7_fill_53178 2 = .ok (.aload_n 0, 1) := by decide +kernel
theorem dJ7_fill_53178_3 : decode cJ7_fill_53178 3 = .ok (.arraylength, 1) := by decide +kernel
theorem dJ7_fill_53178_4 : decode cJ7_fill_53178 4 = .ok (.istore_n 3, 1) := by decide +kernel
theorem dJ7_fill_53178_5 : decode cJ7_fill_53178 5 = .ok (.iload_n 2, 1) := by decide +kernel
theorem dJ7_fill_53178_6 : decode cJ7_fill_53178 6 = .ok (.iload_n 3, 1) := by decide +kernel
theorem dJ7_fill_53178_7 : decode cJ7_fill_53178 7 = .ok (.if_icmp .ge 13, 3) := by decide +kernel
theorem dJ7_fill_53178_10 : decode cJ7_fill_53178 10 = .ok (.aload_n 0, 1) := by decide +kernel
theorem dJ7_fill_53178_11 : decode cJ7_fill_53178 11 = .ok (.iload_n 2, 1) := by decide +kernel
theorem dJ7_fill_53178_12 : decode cJ7_fill_53178 12 = .ok (.iload_n 1, 1) := by decide +kernel
theorem dJ7_fill_53178_13 : decode cJ7_fill_53178 13 = .ok (.iastore, 1) := by decide +kernel
theorem dJ7_fill_53178_14 : decode cJ7_fill_53178 14 = .ok (.iinc 2 1, 3) := by decide +kernel
theorem dJ7_fill_53178_17 : decode cJ7_fill_53178 17 = .ok (.goto (-12), 3) := by decide +kernel
theorem dJ7_fill_53178_20 : decode cJ7_fill_53178 20 = .ok (.return_, 1) := by decide +kernel
