set_option maxRecDepth 20000 in
theorem ggL_law_X6_takes : GoodIn wsL_law wsX6_takes := goodIn_r _ [238, 31, 15, 27, 127, 128, 129, 30, 130, 91, 92, 131, 132, 133, 14, 134, 44, 135, 136, 137, 138, 45, 46, 47, 48, 49, 50, 51, 239, 240, 241, 26, 242, 84, 243, 146, 2, 147, 152, 153, 154, 155, 156, 157, 158, 159, 160, 161, 162, 36, 37, 38, 163, 164, 165, 166, 93, 167, 168, 169, 170, 746, 747, 748, 749, 750, 751, 752, 753, 754, 800, 801, 802, 774, 775, 776, 777, 778, 779, 780, 781, 798, 799] (by decide +kernel) (by decide +kernel)
set_option maxRecDepth 20000 in
theorem gL_law_X6_takes : GoodIn wsL_law (wsV RL 28 RX6 yX6_takes wsX6_takes) := goodIn_app (goodIn_of _ (by decide +kernel)) ggL_law_X6_takes
set_option maxRecDepth 20000 in
theorem ggL_law_X7_takes : GoodIn wsL_law wsX7_takes := goodIn_r _ [247, 248, 249, 250, 5, 251, 175, 176, 177, 178, 179, 180, 181, 112, 182, 183, 184, 185, 186, 111, 109, 252, 253, 254, 255, 755, 756, 757, 758, 759, 760, 761, 762, 763, 764, 765, 766, 767, 768, 769, 770, 771, 772, 773] (by decide +kernel) (by decide +kernel)
set_option maxRecDepth 20000 in
theorem gL_law_X7_takes : GoodIn wsL_law (wsV RL 31 RX7 yX7_takes wsX7_takes) := goodIn_app (goodIn_of _ (by decide +kernel)) ggL_law_X7_takes
set_option maxRecDepth 20000 in
theorem ggL_law_X6_makes : GoodIn wsL_law wsX6_makes := goodIn_r _ [259, 31, 15, 27, 127, 128, 129, 30, 130, 91, 92, 131, 132, 133, 14, 134, 44, 135, 136, 137, 138, 45, 46, 47, 48, 49, 50, 51, 260, 261, 262, 26, 263, 84, 85, 145, 264, 265, 266, 267, 268, 269, 270, 271, 272, 273, 274, 22, 275, 71, 70, 276, 277, 278, 18, 279, 280, 59, 58, 56, 281, 282, 57, 283, 284, 285, 286, 287, 288, 289, 168, 169, 170, 290, 291, 292, 293, 294, 295, 296, 297, 298, 65, 299, 300, 301, 302, 303, 304, 305, 306, 307, 308, 309, 310, 311, 312, 152, 153, 154, 2, 155, 156, 157, 158, 159, 160, 161, 162, 36, 37, 38, 163, 164, 165, 166, 93, 167, 746, 747, 748, 749, 750, 751, 752, 753, 754, 800, 801, 802, 774, 775, 776, 777, 778, 779, 780, 781, 798, 799, 786, 787, 788, 789, 790, 791, 792, 793, 794, 795, 796, 797, 782, 783, 784, 785] (by decide +kernel) (by decide +kernel)
set_option maxRecDepth 20000 in
theorem gL_law_X6_makes : GoodIn wsL_law (wsV RL 32 RX6 yX6_makes wsX6_makes) := goodIn_app (goodIn_of _ (by decide +kernel)) ggL_law_X6_makes
set_option maxRecDepth 20000 in
theorem ggL_law_X7_makes : GoodIn wsL_law wsX7_makes := goodIn_r _ [316, 109, 317, 318, 319, 5, 320, 175, 176, 177, 178, 179, 180, 181, 112, 321, 322, 323, 324, 325, 326, 327, 328, 329, 330, 331, 332, 333, 334, 335, 114, 115, 116, 336, 337, 338, 339, 340, 341, 342, 343, 344, 345, 346, 347, 348, 349, 350, 351, 352, 353, 354, 355, 356, 357, 358, 359, 182, 183, 184, 185, 186, 111, 360, 361, 362, 755, 756, 757, 758, 759, 760, 761, 762, 763, 764, 765, 766, 767, 768, 769, 770, 771, 772, 773] (by decide +kernel) (by decide +kernel)
set_option maxRecDepth 20000 in
theorem gL_law_X7_makes : GoodIn wsL_law (wsV RL 35 RX7 yX7_makes wsX7_makes) := goodIn_app (goodIn_of _ (by decide +kernel)) ggL_law_X7_makes
set_option maxRecDepth 20000 in
theorem ggL_law_X6_unmakes : GoodIn wsL_law wsX6_unmakes := goodIn_r _ [366, 31, 15, 27, 127, 128, 129, 30, 130, 91, 92, 131, 132, 133, 14, 134, 44, 135, 136, 137, 138, 45, 46, 47, 48, 49, 50, 51, 367, 368, 369, 26, 370, 84, 145, 264, 265, 266, 267, 268, 269, 270, 271, 306, 307, 308, 309, 310, 311, 312, 152, 153, 154, 2, 155, 156, 157, 158, 159, 160, 161, 162, 36, 37, 38, 163, 164, 165, 166, 93, 167, 168, 169, 170, 746, 747, 748, 749, 750, 751, 752, 753, 754, 800, 801, 802, 774, 775, 776, 777, 778, 779, 780, 781, 798, 799] (by decide +kernel) (by decide +kernel)
set_option maxRecDepth 20000 in
theorem gL_law_X6_unmakes : GoodIn wsL_law (wsV RL 36 RX6 yX6_unmakes wsX6_unmakes) := goodIn_app (goodIn_of _ (by decide +kernel)) ggL_law_X6_unmakes
set_option maxRecDepth 20000 in
theorem ggL_law_X7_unmakes : GoodIn wsL_law wsX7_unmakes := goodIn_r _ [374, 109, 317, 318, 319, 5, 320, 175, 176, 177, 178, 179, 180, 181, 112, 325, 326, 327, 182, 183, 184, 185, 186, 111, 360, 361, 362, 755, 756, 757, 758, 759, 760, 761, 762, 763, 764, 765, 766, 767, 768, 769, 770, 771, 772, 773] (by decide +kernel) (by decide +kernel)
set_option maxRecDepth 20000 in
theorem gL_law_X7_unmakes : GoodIn wsL_law (wsV RL 39 RX7 yX7_unmakes wsX7_unmakes) := goodIn_app (goodIn_of _ (by decide +kernel)) ggL_law_X7_unmakes
set_option maxRecDepth 20000 in
theorem ggL_law_X6_again : GoodIn wsL_law wsX6_again := goodIn_r _ [378, 31, 15, 27, 127, 128, 129, 30, 130, 91, 92, 131, 132, 133, 14, 134, 44, 135, 136, 137, 138, 45, 46, 47, 48, 49, 50, 51, 379, 380, 381, 26, 382, 84, 145, 306, 307, 308, 309, 310, 311, 312, 152, 153, 154, 2, 155, 156, 157, 158, 159, 160, 161, 162, 36, 37, 38, 163, 164, 165, 166, 93, 167, 168, 169, 170, 746, 747, 748, 749, 750, 751, 752, 753, 754, 800, 801, 802, 774, 775, 776, 777, 778, 779, 780, 781, 798, 799] (by decide +kernel) (by decide +kernel)
set_option maxRecDepth 20000 in
theorem gL_law_X6_again : GoodIn wsL_law (wsV RL 40 RX6 yX6_again wsX6_again) := goodIn_app (goodIn_of _ (by decide +kernel)) ggL_law_X6_again
set_option maxRecDepth 20000 in
theorem ggL_law_X7_again : GoodIn wsL_law wsX7_again := goodIn_r _ [386, 109, 182, 183, 184, 5, 185, 186, 111, 360, 361, 362, 755, 756, 757, 758, 759, 760, 761, 762, 763, 764, 765, 766, 767, 768, 769, 770, 771, 772, 773] (by decide +kernel) (by decide +kernel)
set_option maxRecDepth 20000 in
theorem gL_law_X7_again : GoodIn wsL_law (wsV RL 44 RX7 yX7_again wsX7_again) := goodIn_app (goodIn_of _ (by decide +kernel)) ggL_law_X7_again
