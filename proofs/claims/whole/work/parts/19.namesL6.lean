theorem ggd_0 : GoodIn wsL_law [Cond.code yX6_digest cX6_digest 5 (some .long)] := goodIn_r _ [726] (by decide +kernel) (by decide +kernel)
set_option maxRecDepth 20000 in
theorem ggd_wsX6_digest_r1 : GoodIn wsL_law wsX6_digest_r1 := goodIn_r _ [727, 728, 15, 391, 408, 23, 409, 464, 538, 539, 729, 712, 713, 2, 714, 36, 37, 38, 35, 591, 31, 702, 159, 160] (by decide +kernel) (by decide +kernel)
set_option maxRecDepth 20000 in
theorem ggd_wsX6_digest_r2 : GoodIn wsL_law wsX6_digest_r2 := goodIn_r _ [161, 162, 730, 558, 559, 560, 561, 562, 563, 564, 307, 308, 309, 310, 311, 312, 565, 474, 475, 14, 476, 48, 566, 567] (by decide +kernel) (by decide +kernel)
set_option maxRecDepth 20000 in
theorem ggd_wsX6_digest_r3 : GoodIn wsL_law wsX6_digest_r3 := goodIn_r _ [568, 569, 47, 46, 570, 571, 572, 573, 44, 574, 731, 388, 389, 390, 392, 393, 394, 265, 266, 267, 395, 269, 270, 271] (by decide +kernel) (by decide +kernel)
set_option maxRecDepth 20000 in
theorem ggd_wsX6_digest_r4 : GoodIn wsL_law wsX6_digest_r4 := goodIn_r _ [49, 732, 405, 406, 407, 19, 410, 411, 412, 146, 147, 413, 277, 278, 18, 279, 280, 59, 58, 56, 281, 282, 57, 283] (by decide +kernel) (by decide +kernel)
set_option maxRecDepth 20000 in
theorem ggd_wsX6_digest_r5 : GoodIn wsL_law wsX6_digest_r5 := goodIn_r _ [284, 733, 419, 420, 421, 422, 423, 424, 425, 289, 168, 169, 170, 426, 427, 428, 429, 303, 304, 305, 465, 466, 467, 22] (by decide +kernel) (by decide +kernel)
set_option maxRecDepth 20000 in
theorem ggd_wsX6_digest_r6 : GoodIn wsL_law wsX6_digest_r6 := goodIn_r _ [468, 72, 73, 68, 69, 74, 75, 469, 470, 471, 472, 70, 66, 455, 473, 76, 77, 78, 79, 477, 452, 453, 454, 64] (by decide +kernel) (by decide +kernel)
set_option maxRecDepth 20000 in
theorem ggd_wsX6_digest_r7 : GoodIn wsL_law wsX6_digest_r7 := goodIn_r _ [71, 276, 285, 286, 287, 288, 290, 291, 292, 293, 294, 295, 296, 297, 298, 65, 299, 300, 301, 302, 478, 479, 480, 481] (by decide +kernel) (by decide +kernel)
set_option maxRecDepth 20000 in
theorem ggd_wsX6_digest_r8 : GoodIn wsL_law wsX6_digest_r8 := goodIn_r _ [67, 482, 483, 484, 485, 486, 487, 488, 489, 490, 491, 492, 493, 494, 495, 496, 497, 498, 499, 500, 501, 502, 451, 552] (by decide +kernel) (by decide +kernel)
set_option maxRecDepth 20000 in
theorem ggd_wsX60 : GoodIn wsL_law wsX60 := goodIn_r _ [746, 747, 748, 749, 750, 751, 752, 753, 754] (by decide +kernel) (by decide +kernel)
set_option maxRecDepth 20000 in
theorem ggd_wsX40 : GoodIn wsL_law wsX40 := goodIn_r _ [774, 775, 776, 777, 778, 779, 780, 781] (by decide +kernel) (by decide +kernel)
set_option maxRecDepth 20000 in
theorem ggd_wsX10 : GoodIn wsL_law wsX10 := goodIn_r _ [786, 787, 788, 789, 790, 791, 792, 793, 794, 795, 796, 797] (by decide +kernel) (by decide +kernel)
set_option maxRecDepth 20000 in
theorem ggd_wsX20 : GoodIn wsL_law wsX20 := goodIn_r _ [803, 804, 805, 806, 807, 808] (by decide +kernel) (by decide +kernel)
set_option maxRecDepth 20000 in
theorem ggd_wsX00 : GoodIn wsL_law wsX00 := goodIn_r _ [800, 801, 802] (by decide +kernel) (by decide +kernel)
set_option maxRecDepth 20000 in
theorem ggd_wsX30 : GoodIn wsL_law wsX30 := goodIn_r _ [782, 783, 784, 785] (by decide +kernel) (by decide +kernel)
theorem ggL_law_X6_digest : GoodIn wsL_law wsX6_digest := fun w h => (List.mem_cons.mp h).elim (fun e => ggd_0 w (List.mem_singleton.mpr e)) (fun h => (goodIn_app (goodIn_app (goodIn_app (goodIn_app (goodIn_app (goodIn_app (goodIn_app ggd_wsX6_digest_r1 (goodIn_app ggd_wsX6_digest_r2 (goodIn_app ggd_wsX6_digest_r3 (goodIn_app ggd_wsX6_digest_r4 (goodIn_app ggd_wsX6_digest_r5 (goodIn_app ggd_wsX6_digest_r6 (goodIn_app ggd_wsX6_digest_r7 ggd_wsX6_digest_r8))))))) ggd_wsX60) ggd_wsX40) ggd_wsX10) ggd_wsX20) ggd_wsX00) ggd_wsX30) w h)
set_option maxRecDepth 20000 in
theorem gL_law_X6_digest : GoodIn wsL_law (wsV RL 105 RX6 yX6_digest wsX6_digest) := goodIn_app (goodIn_of _ (by decide +kernel)) ggL_law_X6_digest
