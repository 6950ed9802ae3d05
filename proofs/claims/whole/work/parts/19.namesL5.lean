set_option maxRecDepth 20000 in
theorem ggL_law_X6_does : GoodIn wsL_law wsX6_does := goodIn_r _ [612, 35, 31, 15, 613, 27, 23, 614, 615, 616, 34, 617, 104, 103, 102, 618, 619, 620, 621, 99, 622, 623, 624, 625, 100, 626, 627, 628, 629, 630, 631, 632, 101, 633, 634, 635, 636, 127, 128, 129, 30, 130, 91, 92, 131, 132, 133, 14, 134, 44, 135, 136, 137, 138, 45, 46, 47, 48, 49, 50, 51, 637, 638, 639, 26, 640, 641, 642, 643, 644, 645, 646, 140, 141, 142, 84, 143, 144, 145, 85, 146, 2, 147, 148, 149, 150, 22, 151, 64, 65, 72, 76, 77, 78, 79, 647, 648, 649, 650, 196, 197, 198, 199, 200, 651, 261, 262, 263, 264, 265, 266, 267, 268, 269, 270, 271, 272, 273, 274, 275, 71, 70, 276, 277, 278, 18, 279, 280, 59, 58, 56, 281, 282, 57, 283, 284, 285, 286, 287, 288, 289, 168, 169, 170, 290, 291, 292, 293, 294, 295, 296, 297, 298, 299, 300, 301, 302, 303, 304, 305, 306, 307, 308, 309, 310, 311, 312, 652, 368, 369, 370, 653, 218, 219, 220, 221, 222, 654, 240, 241, 242, 243, 655, 380, 381, 382, 156, 157, 158, 656, 657, 658, 659, 660, 163, 164, 165, 166, 93, 167, 746, 747, 748, 749, 750, 751, 752, 753, 754, 803, 804, 805, 806, 807, 808, 800, 801, 802, 774, 775, 776, 777, 778, 779, 780, 781, 798, 799, 786, 787, 788, 789, 790, 791, 792, 793, 794, 795, 796, 797, 782, 783, 784, 785] (by decide +kernel) (by decide +kernel)
set_option maxRecDepth 20000 in
theorem gL_law_X6_does : GoodIn wsL_law (wsV RL 93 RX6 yX6_does wsX6_does) := goodIn_app (goodIn_of _ (by decide +kernel)) ggL_law_X6_does
set_option maxRecDepth 20000 in
theorem ggL_law_X7_does : GoodIn wsL_law wsX7_does := goodIn_r _ [664, 665, 110, 109, 666, 667, 668, 669, 5, 670, 600, 671, 672, 673, 674, 675, 676, 677, 678, 113, 679, 680, 681, 682, 121, 683, 684, 685, 686, 687, 688, 689, 122, 175, 176, 177, 690, 691, 692, 693, 187, 188, 189, 190, 205, 206, 207, 208, 209, 210, 211, 212, 317, 318, 319, 320, 321, 322, 323, 324, 325, 326, 327, 328, 329, 330, 331, 332, 333, 334, 335, 114, 115, 116, 336, 337, 338, 339, 340, 341, 342, 343, 344, 345, 346, 347, 348, 349, 350, 351, 352, 353, 354, 355, 356, 357, 358, 359, 227, 228, 229, 230, 231, 232, 233, 234, 248, 249, 250, 251, 252, 253, 254, 255, 694, 695, 696, 697, 182, 183, 184, 185, 186, 111, 755, 756, 757, 758, 759, 760, 761, 762, 763, 764, 765, 766, 767, 768, 769, 770, 771, 772, 773] (by decide +kernel) (by decide +kernel)
set_option maxRecDepth 20000 in
theorem gL_law_X7_does : GoodIn wsL_law (wsV RL 96 RX7 yX7_does wsX7_does) := goodIn_app (goodIn_of _ (by decide +kernel)) ggL_law_X7_does
set_option maxRecDepth 20000 in
theorem ggL_law_X6_back : GoodIn wsL_law wsX6_back := goodIn_r _ [701, 31, 702, 15, 23, 159, 160, 161, 2, 162, 36, 37, 38, 703, 704, 705, 30, 706, 92, 93, 91, 131, 132, 133, 14, 134, 44, 135, 136, 137, 138, 45, 46, 47, 48, 49, 50, 51, 660, 149, 150, 22, 151, 64, 65, 72, 76, 77, 78, 79, 746, 747, 748, 749, 750, 751, 752, 753, 754, 800, 801, 802, 774, 775, 776, 777, 778, 779, 780, 781, 786, 787, 788, 789, 790, 791, 792, 793, 794, 795, 796, 797] (by decide +kernel) (by decide +kernel)
set_option maxRecDepth 20000 in
theorem gL_law_X6_back : GoodIn wsL_law (wsV RL 97 RX6 yX6_back wsX6_back) := goodIn_app (goodIn_of _ (by decide +kernel)) ggL_law_X6_back
set_option maxRecDepth 20000 in
theorem ggL_law_X7_back : GoodIn wsL_law wsX7_back := goodIn_r _ [710, 186, 109, 111, 178, 179, 180, 5, 181, 112, 755, 756, 757, 758, 759, 760, 761, 762, 763, 764, 765, 766, 767, 768, 769, 770, 771, 772, 773] (by decide +kernel) (by decide +kernel)
set_option maxRecDepth 20000 in
theorem gL_law_X7_back : GoodIn wsL_law (wsV RL 100 RX7 yX7_back wsX7_back) := goodIn_app (goodIn_of _ (by decide +kernel)) ggL_law_X7_back
set_option maxRecDepth 20000 in
theorem ggL_law_X6_told : GoodIn wsL_law wsX6_told := goodIn_r _ [714, 36, 37, 38, 35, 591, 31, 702, 159, 160, 161, 2, 162, 746, 747, 748, 749, 750, 751, 752, 753, 754, 803, 804, 805, 806, 807, 808, 800, 801, 802] (by decide +kernel) (by decide +kernel)
set_option maxRecDepth 20000 in
theorem gL_law_X6_told : GoodIn wsL_law (wsV RL 101 RX6 yX6_told wsX6_told) := goodIn_app (goodIn_of _ (by decide +kernel)) ggL_law_X6_told
set_option maxRecDepth 20000 in
theorem ggL_law_X7_told : GoodIn wsL_law wsX7_told := goodIn_r _ [718, 175, 176, 5, 177, 719, 720, 721, 722, 112, 600, 186, 178, 179, 180, 181, 755, 756, 757, 758, 759, 760, 761, 762, 763, 764, 765, 766, 767, 768, 769, 770, 771, 772, 773] (by decide +kernel) (by decide +kernel)
set_option maxRecDepth 20000 in
theorem gL_law_X7_told : GoodIn wsL_law (wsV RL 104 RX7 yX7_told wsX7_told) := goodIn_app (goodIn_of _ (by decide +kernel)) ggL_law_X7_told
set_option maxRecDepth 20000 in
theorem ggL_law_X7_digest : GoodIn wsL_law wsX7_digest := goodIn_r _ [737, 738, 739, 109, 114, 115, 118, 719, 720, 721, 5, 722, 112, 600, 186, 740, 741, 742, 743, 744, 579, 580, 581, 582, 360, 361, 362, 511, 512, 513, 514, 583, 584, 585, 586, 325, 326, 327, 400, 401, 402, 403, 332, 333, 334, 335, 116, 336, 337, 338, 339, 340, 341, 434, 435, 436, 437, 350, 351, 352, 353, 354, 355, 745, 457, 458, 459, 321, 322, 323, 324, 328, 329, 330, 331, 342, 343, 344, 345, 346, 347, 348, 349, 356, 357, 358, 359, 507, 508, 509, 510, 117, 119, 515, 516, 517, 518, 544, 545, 546, 547, 530, 531, 532, 533, 120, 755, 756, 757, 758, 759, 760, 761, 762, 763, 764, 765, 766, 767, 768, 769, 770, 771, 772, 773] (by decide +kernel) (by decide +kernel)
set_option maxRecDepth 20000 in
theorem gL_law_X7_digest : GoodIn wsL_law (wsV RL 109 RX7 yX7_digest wsX7_digest) := goodIn_app (goodIn_of _ (by decide +kernel)) ggL_law_X7_digest
