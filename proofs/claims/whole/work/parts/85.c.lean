/-! THE LAW: names, words, rows (words of its calls) -/
set_option maxRecDepth 20000 in
theorem ggL_law_X5_open : GoodIn wsL_law wsX5_open := goodIn_r _ [211, 16, 212, 198, 199, 2, 200, 105, 106, 107, 108, 109, 110, 111, 112, 103, 113, 114, 115, 116, 117, 33, 118, 119, 120, 121, 122, 123, 15, 124, 41, 125, 126, 127, 128, 43, 44, 45, 46, 47, 48, 49, 213, 214, 215, 216, 217, 218, 219, 220, 221, 222, 223, 684, 685, 686, 687, 688, 689, 690, 691, 692, 693, 710, 711, 712, 713, 714, 715, 716, 717, 718, 719, 720, 721] (by decide +kernel) (by decide +kernel)
set_option maxRecDepth 20000 in
theorem gL_law_X5_open : GoodIn wsL_law (wsV RL 28 RX5 yX5_open wsX5_open) := goodIn_app (goodIn_of _ (by decide +kernel)) ggL_law_X5_open
set_option maxRecDepth 20000 in
theorem ggL_law_X6_open : GoodIn wsL_law wsX6_open := goodIn_r _ [227, 80, 205, 206, 5, 207, 133, 134, 135, 136, 137, 138, 139, 140, 141, 142, 143, 144, 82, 228, 229, 230, 231, 694, 695, 696, 697, 698, 699, 700, 701, 702, 703, 704, 705, 706, 707, 708, 709] (by decide +kernel) (by decide +kernel)
set_option maxRecDepth 20000 in
theorem gL_law_X6_open : GoodIn wsL_law (wsV RL 32 RX6 yX6_open wsX6_open) := goodIn_app (goodIn_of _ (by decide +kernel)) ggL_law_X6_open
set_option maxRecDepth 20000 in
theorem ggL_law_X5_guard : GoodIn wsL_law wsX5_guard := goodIn_r _ [235, 16, 236, 20, 150, 151, 2, 152, 198, 199, 200, 105, 106, 107, 108, 109, 110, 111, 112, 103, 113, 114, 115, 116, 117, 33, 118, 119, 120, 121, 122, 123, 15, 124, 41, 125, 126, 127, 128, 43, 44, 45, 46, 47, 48, 49, 237, 238, 239, 19, 240, 55, 56, 241, 242, 243, 244, 53, 245, 54, 246, 247, 248, 249, 160, 161, 162, 163, 164, 166, 167, 250, 251, 252, 253, 254, 255, 256, 257, 258, 259, 260, 261, 262, 263, 264, 265, 266, 267, 268, 269, 270, 271, 272, 273, 274, 275, 276, 57, 277, 684, 685, 686, 687, 688, 689, 690, 691, 692, 693, 710, 711, 712, 713, 714, 715, 716, 717, 718, 719, 720, 721, 722, 723, 724, 725, 726, 727] (by decide +kernel) (by decide +kernel)
set_option maxRecDepth 20000 in
theorem gL_law_X5_guard : GoodIn wsL_law (wsV RL 33 RX5 yX5_guard wsX5_guard) := goodIn_app (goodIn_of _ (by decide +kernel)) ggL_law_X5_guard
set_option maxRecDepth 20000 in
theorem ggL_law_X6_guard : GoodIn wsL_law wsX6_guard := goodIn_r _ [281, 87, 176, 177, 5, 178, 133, 134, 135, 136, 137, 138, 139, 80, 140, 141, 142, 143, 144, 82, 282, 283, 284, 285, 88, 86, 89, 286, 287, 288, 289, 290, 291, 292, 293, 182, 183, 184, 185, 186, 187, 294, 295, 296, 297, 298, 299, 300, 301, 302, 303, 304, 305, 694, 695, 696, 697, 698, 699, 700, 701, 702, 703, 704, 705, 706, 707, 708, 709] (by decide +kernel) (by decide +kernel)
set_option maxRecDepth 20000 in
theorem gL_law_X6_guard : GoodIn wsL_law (wsV RL 37 RX6 yX6_guard wsX6_guard) := goodIn_app (goodIn_of _ (by decide +kernel)) ggL_law_X6_guard
set_option maxRecDepth 20000 in
theorem ggL_law_X5_enter : GoodIn wsL_law wsX5_enter := goodIn_r _ [309, 16, 310, 96, 150, 151, 2, 152, 105, 106, 107, 108, 109, 110, 111, 112, 103, 113, 114, 115, 116, 117, 33, 118, 119, 120, 121, 122, 123, 15, 124, 41, 125, 126, 127, 128, 43, 44, 45, 46, 47, 48, 49, 311, 312, 313, 314, 684, 685, 686, 687, 688, 689, 690, 691, 692, 693, 710, 711, 712, 713, 714, 715, 716, 717, 718, 719, 720, 721] (by decide +kernel) (by decide +kernel)
set_option maxRecDepth 20000 in
theorem gL_law_X5_enter : GoodIn wsL_law (wsV RL 38 RX5 yX5_enter wsX5_enter) := goodIn_app (goodIn_of _ (by decide +kernel)) ggL_law_X5_enter
set_option maxRecDepth 20000 in
theorem ggL_law_X6_enter : GoodIn wsL_law wsX6_enter := goodIn_r _ [318, 80, 176, 177, 5, 178, 133, 134, 135, 140, 141, 142, 143, 144, 82, 694, 695, 696, 697, 698, 699, 700, 701, 702, 703, 704, 705, 706, 707, 708, 709] (by decide +kernel) (by decide +kernel)
set_option maxRecDepth 20000 in
theorem gL_law_X6_enter : GoodIn wsL_law (wsV RL 41 RX6 yX6_enter wsX6_enter) := goodIn_app (goodIn_of _ (by decide +kernel)) ggL_law_X6_enter
set_option maxRecDepth 20000 in
theorem ggL_law_X5_read : GoodIn wsL_law wsX5_read := goodIn_r _ [322, 32, 16, 323, 324, 325, 326, 327, 31, 328, 329, 330, 331, 332, 333, 75, 334, 335, 336, 337, 338, 339, 105, 106, 107, 2, 108, 109, 110, 111, 112, 103, 113, 114, 115, 116, 117, 33, 118, 119, 120, 121, 122, 123, 15, 124, 41, 125, 126, 127, 128, 43, 44, 45, 46, 47, 48, 49, 340, 341, 342, 343, 344, 345, 346, 347, 348, 349, 350, 351, 352, 151, 152, 353, 312, 313, 314, 684, 685, 686, 687, 688, 689, 690, 691, 692, 693, 710, 711, 712, 713, 714, 715, 716, 717, 718, 719, 720, 721, 732, 733] (by decide +kernel) (by decide +kernel)
set_option maxRecDepth 20000 in
theorem gL_law_X5_read : GoodIn wsL_law (wsV RL 42 RX5 yX5_read wsX5_read) := goodIn_app (goodIn_of _ (by decide +kernel)) ggL_law_X5_read
set_option maxRecDepth 20000 in
theorem ggL_law_X6_read : GoodIn wsL_law wsX6_read := goodIn_r _ [357, 358, 359, 360, 361, 362, 5, 363, 364, 80, 365, 366, 367, 368, 85, 133, 134, 135, 369, 370, 371, 372, 373, 374, 375, 376, 140, 141, 142, 143, 144, 82, 694, 695, 696, 697, 698, 699, 700, 701, 702, 703, 704, 705, 706, 707, 708, 709] (by decide +kernel) (by decide +kernel)
set_option maxRecDepth 20000 in
theorem gL_law_X6_read : GoodIn wsL_law (wsV RL 46 RX6 yX6_read wsX6_read) := goodIn_app (goodIn_of _ (by decide +kernel)) ggL_law_X6_read
