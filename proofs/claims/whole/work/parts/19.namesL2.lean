set_option maxRecDepth 20000 in
theorem ggL_law_X6_of : GoodIn wsL_law wsX6_of := goodIn_r _ [390, 15, 391, 392, 393, 394, 265, 266, 14, 267, 48, 159, 160, 161, 2, 162, 36, 37, 38, 395, 269, 270, 271, 49, 746, 747, 748, 749, 750, 751, 752, 753, 754, 774, 775, 776, 777, 778, 779, 780, 781] (by decide +kernel) (by decide +kernel)
set_option maxRecDepth 20000 in
theorem gL_law_X6_of : GoodIn wsL_law (wsV RL 45 RX6 yX6_of wsX6_of) := goodIn_app (goodIn_of _ (by decide +kernel)) ggL_law_X6_of
set_option maxRecDepth 20000 in
theorem ggL_law_X7_of : GoodIn wsL_law wsX7_of := goodIn_r _ [399, 317, 318, 319, 5, 320, 109, 175, 176, 177, 400, 401, 402, 403, 178, 179, 180, 181, 112, 755, 756, 757, 758, 759, 760, 761, 762, 763, 764, 765, 766, 767, 768, 769, 770, 771, 772, 773] (by decide +kernel) (by decide +kernel)
set_option maxRecDepth 20000 in
theorem gL_law_X7_of : GoodIn wsL_law (wsV RL 48 RX7 yX7_of wsX7_of) := goodIn_app (goodIn_of _ (by decide +kernel)) ggL_law_X7_of
set_option maxRecDepth 20000 in
theorem ggL_law_X6_joint : GoodIn wsL_law wsX6_joint := goodIn_r _ [407, 15, 408, 19, 409, 410, 411, 412, 146, 2, 147, 159, 160, 161, 162, 36, 37, 38, 413, 277, 278, 18, 279, 280, 59, 58, 56, 281, 282, 57, 283, 284, 746, 747, 748, 749, 750, 751, 752, 753, 754, 774, 775, 776, 777, 778, 779, 780, 781, 782, 783, 784, 785] (by decide +kernel) (by decide +kernel)
set_option maxRecDepth 20000 in
theorem gL_law_X6_joint : GoodIn wsL_law (wsV RL 49 RX6 yX6_joint wsX6_joint) := goodIn_app (goodIn_of _ (by decide +kernel)) ggL_law_X6_joint
set_option maxRecDepth 20000 in
theorem ggL_law_X7_joint : GoodIn wsL_law wsX7_joint := goodIn_r _ [417, 109, 114, 115, 175, 176, 5, 177, 178, 179, 180, 181, 112, 332, 333, 334, 335, 116, 336, 337, 338, 339, 340, 341, 325, 326, 327, 755, 756, 757, 758, 759, 760, 761, 762, 763, 764, 765, 766, 767, 768, 769, 770, 771, 772, 773] (by decide +kernel) (by decide +kernel)
set_option maxRecDepth 20000 in
theorem gL_law_X7_joint : GoodIn wsL_law (wsV RL 52 RX7 yX7_joint wsX7_joint) := goodIn_app (goodIn_of _ (by decide +kernel)) ggL_law_X7_joint
set_option maxRecDepth 20000 in
theorem ggL_law_X6_box : GoodIn wsL_law wsX6_box := goodIn_r _ [421, 19, 15, 409, 410, 411, 412, 146, 2, 147, 159, 160, 161, 162, 36, 37, 38, 413, 277, 278, 18, 279, 280, 59, 58, 56, 281, 282, 57, 283, 284, 422, 423, 424, 425, 289, 168, 169, 170, 426, 427, 428, 429, 303, 304, 305, 746, 747, 748, 749, 750, 751, 752, 753, 754, 774, 775, 776, 777, 778, 779, 780, 781, 782, 783, 784, 785] (by decide +kernel) (by decide +kernel)
set_option maxRecDepth 20000 in
theorem gL_law_X6_box : GoodIn wsL_law (wsV RL 53 RX6 yX6_box wsX6_box) := goodIn_app (goodIn_of _ (by decide +kernel)) ggL_law_X6_box
set_option maxRecDepth 20000 in
theorem ggL_law_X7_box : GoodIn wsL_law wsX7_box := goodIn_r _ [433, 175, 176, 5, 177, 434, 435, 436, 437, 109, 114, 115, 332, 333, 334, 335, 116, 336, 337, 338, 339, 340, 341, 325, 326, 327, 350, 351, 352, 353, 354, 355, 178, 179, 180, 181, 112, 755, 756, 757, 758, 759, 760, 761, 762, 763, 764, 765, 766, 767, 768, 769, 770, 771, 772, 773] (by decide +kernel) (by decide +kernel)
set_option maxRecDepth 20000 in
theorem gL_law_X7_box : GoodIn wsL_law (wsV RL 56 RX7 yX7_box wsX7_box) := goodIn_app (goodIn_of _ (by decide +kernel)) ggL_law_X7_box
set_option maxRecDepth 20000 in
theorem ggL_law_X6_hits : GoodIn wsL_law wsX6_hits := goodIn_r _ [441, 15, 23, 409, 394, 265, 266, 14, 267, 48, 159, 160, 161, 2, 162, 36, 37, 38, 395, 269, 270, 271, 49, 442, 273, 274, 22, 275, 71, 70, 276, 277, 278, 18, 279, 280, 59, 58, 56, 281, 282, 57, 283, 284, 285, 286, 287, 288, 289, 168, 169, 170, 290, 291, 292, 293, 294, 295, 296, 297, 298, 65, 299, 300, 301, 302, 303, 304, 305, 746, 747, 748, 749, 750, 751, 752, 753, 754, 774, 775, 776, 777, 778, 779, 780, 781, 786, 787, 788, 789, 790, 791, 792, 793, 794, 795, 796, 797, 782, 783, 784, 785] (by decide +kernel) (by decide +kernel)
set_option maxRecDepth 20000 in
theorem gL_law_X6_hits : GoodIn wsL_law (wsV RL 57 RX6 yX6_hits wsX6_hits) := goodIn_app (goodIn_of _ (by decide +kernel)) ggL_law_X6_hits
set_option maxRecDepth 20000 in
theorem ggL_law_X7_hits : GoodIn wsL_law wsX7_hits := goodIn_r _ [446, 109, 317, 318, 319, 5, 320, 175, 176, 177, 178, 179, 180, 181, 112, 325, 326, 327, 328, 329, 330, 331, 332, 333, 334, 335, 114, 115, 116, 336, 337, 338, 339, 340, 341, 342, 343, 344, 345, 346, 347, 348, 349, 350, 351, 352, 353, 354, 355, 356, 357, 358, 359, 755, 756, 757, 758, 759, 760, 761, 762, 763, 764, 765, 766, 767, 768, 769, 770, 771, 772, 773] (by decide +kernel) (by decide +kernel)
set_option maxRecDepth 20000 in
theorem gL_law_X7_hits : GoodIn wsL_law (wsV RL 60 RX7 yX7_hits wsX7_hits) := goodIn_app (goodIn_of _ (by decide +kernel)) ggL_law_X7_hits
