set_option maxRecDepth 20000 in
theorem ggL_law_X6_init : GoodIn wsL_law wsX6_init := goodIn_r _ [8, 9, 10, 11, 12, 13, 14, 15, 16, 17, 18, 19, 20, 21, 22, 23, 24, 25, 26, 27, 28, 29, 30, 31, 32, 33, 34, 35, 36, 37, 38, 39, 40, 41, 42, 43, 44, 45, 46, 47, 48, 49, 50, 51, 52, 53, 54, 55, 56, 57, 58, 59, 60, 61, 62, 63, 64, 65, 66, 67, 68, 69, 70, 71, 72, 73, 74, 75, 76, 77, 78, 79, 80, 81, 82, 83, 84, 85, 86, 87, 88, 89, 90, 91, 92, 93, 94, 95, 96, 97, 98, 99, 100, 101, 102, 103, 104, 774, 775, 776, 777, 778, 779, 780, 781, 746, 747, 748, 749, 750, 751, 752, 753, 754, 782, 783, 784, 785, 786, 787, 788, 789, 790, 791, 792, 793, 794, 795, 796, 797, 798, 799, 800, 801, 802, 803, 804, 805, 806, 807, 808] (by decide +kernel) (by decide +kernel)
set_option maxRecDepth 20000 in
theorem gL_law_X6_init : GoodIn wsL_law (wsX6_init) := ggL_law_X6_init
set_option maxRecDepth 20000 in
theorem ggL_law_X7_init : GoodIn wsL_law wsX7_init := goodIn_r _ [107, 108, 10, 11, 43, 109, 110, 111, 112, 113, 114, 115, 116, 117, 118, 119, 120, 121, 122, 755, 756, 757, 758, 759, 760, 761, 762, 763, 764, 765, 766, 767, 768, 769, 770, 771, 772, 773] (by decide +kernel) (by decide +kernel)
set_option maxRecDepth 20000 in
theorem gL_law_X7_init : GoodIn wsL_law (wsX7_init) := ggL_law_X7_init
set_option maxRecDepth 20000 in
theorem ggL_law_X6_strip : GoodIn wsL_law wsX6_strip := goodIn_r _ [126, 31, 15, 27, 127, 128, 129, 30, 130, 91, 92, 131, 132, 133, 14, 134, 44, 135, 136, 137, 138, 45, 46, 47, 48, 49, 50, 51, 139, 140, 141, 26, 142, 84, 143, 144, 145, 85, 146, 2, 147, 148, 149, 150, 22, 151, 64, 65, 72, 76, 77, 78, 79, 152, 153, 154, 155, 156, 157, 158, 159, 160, 161, 162, 36, 37, 38, 163, 164, 165, 166, 93, 167, 168, 169, 170, 746, 747, 748, 749, 750, 751, 752, 753, 754, 800, 801, 802, 774, 775, 776, 777, 778, 779, 780, 781, 798, 799, 786, 787, 788, 789, 790, 791, 792, 793, 794, 795, 796, 797] (by decide +kernel) (by decide +kernel)
set_option maxRecDepth 20000 in
theorem gL_law_X6_strip : GoodIn wsL_law (wsV RL 13 RX6 yX6_strip wsX6_strip) := goodIn_app (goodIn_of _ (by decide +kernel)) ggL_law_X6_strip
set_option maxRecDepth 20000 in
theorem ggL_law_X7_strip : GoodIn wsL_law wsX7_strip := goodIn_r _ [174, 175, 176, 5, 177, 178, 179, 180, 181, 112, 182, 183, 184, 185, 186, 111, 109, 187, 188, 189, 190, 755, 756, 757, 758, 759, 760, 761, 762, 763, 764, 765, 766, 767, 768, 769, 770, 771, 772, 773] (by decide +kernel) (by decide +kernel)
set_option maxRecDepth 20000 in
theorem gL_law_X7_strip : GoodIn wsL_law (wsV RL 17 RX7 yX7_strip wsX7_strip) := goodIn_app (goodIn_of _ (by decide +kernel)) ggL_law_X7_strip
set_option maxRecDepth 20000 in
theorem ggL_law_X6_bend : GoodIn wsL_law wsX6_bend := goodIn_r _ [194, 31, 15, 27, 127, 128, 129, 30, 130, 91, 92, 131, 132, 133, 14, 134, 44, 135, 136, 137, 138, 45, 46, 47, 48, 49, 50, 51, 195, 196, 197, 26, 198, 84, 143, 199, 200, 144, 85, 146, 2, 147, 148, 149, 150, 22, 151, 64, 65, 72, 76, 77, 78, 79, 152, 153, 154, 155, 156, 157, 158, 159, 160, 161, 162, 36, 37, 38, 163, 164, 165, 166, 93, 167, 168, 169, 170, 746, 747, 748, 749, 750, 751, 752, 753, 754, 800, 801, 802, 774, 775, 776, 777, 778, 779, 780, 781, 798, 799, 786, 787, 788, 789, 790, 791, 792, 793, 794, 795, 796, 797] (by decide +kernel) (by decide +kernel)
set_option maxRecDepth 20000 in
theorem gL_law_X6_bend : GoodIn wsL_law (wsV RL 18 RX6 yX6_bend wsX6_bend) := goodIn_app (goodIn_of _ (by decide +kernel)) ggL_law_X6_bend
set_option maxRecDepth 20000 in
theorem ggL_law_X7_bend : GoodIn wsL_law wsX7_bend := goodIn_r _ [204, 109, 205, 206, 207, 5, 208, 175, 176, 177, 178, 179, 180, 181, 112, 182, 183, 184, 185, 186, 111, 209, 210, 211, 212, 755, 756, 757, 758, 759, 760, 761, 762, 763, 764, 765, 766, 767, 768, 769, 770, 771, 772, 773] (by decide +kernel) (by decide +kernel)
set_option maxRecDepth 20000 in
theorem gL_law_X7_bend : GoodIn wsL_law (wsV RL 22 RX7 yX7_bend wsX7_bend) := goodIn_app (goodIn_of _ (by decide +kernel)) ggL_law_X7_bend
set_option maxRecDepth 20000 in
theorem ggL_law_X6_press : GoodIn wsL_law wsX6_press := goodIn_r _ [216, 31, 15, 27, 127, 128, 129, 30, 130, 91, 92, 131, 132, 133, 14, 134, 44, 135, 136, 137, 138, 45, 46, 47, 48, 49, 50, 51, 217, 218, 219, 26, 220, 84, 221, 222, 85, 146, 2, 147, 148, 149, 150, 22, 151, 64, 65, 72, 76, 77, 78, 79, 152, 153, 154, 155, 156, 157, 158, 159, 160, 161, 162, 36, 37, 38, 163, 164, 165, 166, 93, 167, 168, 169, 170, 746, 747, 748, 749, 750, 751, 752, 753, 754, 800, 801, 802, 774, 775, 776, 777, 778, 779, 780, 781, 798, 799, 786, 787, 788, 789, 790, 791, 792, 793, 794, 795, 796, 797] (by decide +kernel) (by decide +kernel)
set_option maxRecDepth 20000 in
theorem gL_law_X6_press : GoodIn wsL_law (wsV RL 23 RX6 yX6_press wsX6_press) := goodIn_app (goodIn_of _ (by decide +kernel)) ggL_law_X6_press
set_option maxRecDepth 20000 in
theorem ggL_law_X7_press : GoodIn wsL_law wsX7_press := goodIn_r _ [226, 227, 228, 229, 5, 230, 175, 176, 177, 178, 179, 180, 181, 112, 182, 183, 184, 185, 186, 111, 109, 231, 232, 233, 234, 755, 756, 757, 758, 759, 760, 761, 762, 763, 764, 765, 766, 767, 768, 769, 770, 771, 772, 773] (by decide +kernel) (by decide +kernel)
set_option maxRecDepth 20000 in
theorem gL_law_X7_press : GoodIn wsL_law (wsV RL 27 RX7 yX7_press wsX7_press) := goodIn_app (goodIn_of _ (by decide +kernel)) ggL_law_X7_press
