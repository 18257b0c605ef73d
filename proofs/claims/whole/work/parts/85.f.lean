/-! THE LAW: names, words, rows (words of its calls) -/
set_option maxRecDepth 20000 in
theorem ggL_law_X5_waiting : GoodIn wsL_law wsX5_waiting := goodIn_r _ [618, 28, 16, 483, 548, 549, 550, 27, 551, 66, 68, 552, 122, 123, 15, 124, 41, 125, 126, 127, 128, 43, 44, 45, 46, 47, 48, 49, 553, 238, 239, 19, 240, 55, 56, 241, 242, 243, 244, 53, 245, 54, 151, 2, 152, 246, 247, 248, 249, 160, 161, 111, 112, 103, 113, 162, 163, 164, 166, 167, 250, 251, 252, 253, 199, 200, 254, 255, 256, 257, 258, 259, 260, 261, 262, 263, 264, 265, 266, 267, 268, 269, 270, 271, 272, 273, 274, 275, 276, 57, 554, 555, 556, 557, 70, 558, 486, 487, 488, 559, 498, 499, 500, 501, 467, 468, 469, 470, 560, 383, 384, 23, 385, 386, 61, 387, 388, 389, 390, 391, 392, 393, 394, 395, 396, 397, 398, 399, 400, 401, 402, 403, 404, 405, 406, 407, 408, 409, 410, 411, 412, 413, 414, 350, 351, 352, 619, 620, 621, 622, 623, 684, 685, 686, 687, 688, 689, 690, 691, 692, 693, 710, 711, 712, 713, 714, 715, 716, 717, 718, 719, 720, 721, 729, 730, 731, 722, 723, 724, 725, 726, 727, 728] (by decide +kernel) (by decide +kernel)
set_option maxRecDepth 20000 in
theorem gL_law_X5_waiting : GoodIn wsL_law (wsV RL 79 RX5 yX5_waiting wsX5_waiting) := goodIn_app (goodIn_of _ (by decide +kernel)) ggL_law_X5_waiting
set_option maxRecDepth 20000 in
theorem ggL_law_X6_waiting : GoodIn wsL_law wsX6_waiting := goodIn_r _ [627, 80, 565, 566, 567, 5, 568, 81, 282, 283, 284, 285, 87, 88, 86, 89, 286, 287, 288, 289, 290, 291, 292, 293, 182, 183, 184, 185, 186, 187, 294, 295, 296, 297, 298, 299, 300, 301, 302, 303, 304, 305, 569, 570, 571, 572, 515, 516, 517, 518, 523, 524, 525, 526, 423, 424, 425, 426, 90, 427, 428, 429, 430, 431, 432, 433, 434, 573, 574, 575, 576, 694, 695, 696, 697, 698, 699, 700, 701, 702, 703, 704, 705, 706, 707, 708, 709] (by decide +kernel) (by decide +kernel)
set_option maxRecDepth 20000 in
theorem gL_law_X6_waiting : GoodIn wsL_law (wsV RL 82 RX6 yX6_waiting wsX6_waiting) := goodIn_app (goodIn_of _ (by decide +kernel)) ggL_law_X6_waiting
set_option maxRecDepth 20000 in
theorem ggL_law_X5_put : GoodIn wsL_law wsX5_put := goodIn_r _ [631, 32, 324, 632, 633, 2, 634, 635, 636, 637, 31, 638, 329, 75, 684, 685, 686, 687, 688, 689, 690, 691, 692, 693, 732, 733] (by decide +kernel) (by decide +kernel)
set_option maxRecDepth 20000 in
theorem gL_law_X5_put : GoodIn wsL_law (wsV RL 85 RX5 yX5_put wsX5_put) := goodIn_app (goodIn_of _ (by decide +kernel)) ggL_law_X5_put
set_option maxRecDepth 20000 in
theorem ggL_law_X6_put : GoodIn wsL_law wsX6_put := goodIn_r _ [642, 643, 359, 85, 133, 134, 5, 135, 694, 695, 696, 697, 698, 699, 700, 701, 702, 703, 704, 705, 706, 707, 708, 709] (by decide +kernel) (by decide +kernel)
set_option maxRecDepth 20000 in
theorem gL_law_X6_put : GoodIn wsL_law (wsV RL 89 RX6 yX6_put wsX6_put) := goodIn_app (goodIn_of _ (by decide +kernel)) ggL_law_X6_put
set_option maxRecDepth 20000 in
theorem ggL_law_X5_wipe : GoodIn wsL_law wsX5_wipe := goodIn_r _ [647, 32, 324, 684, 685, 686, 687, 688, 689, 690, 691, 692, 693, 732, 733] (by decide +kernel) (by decide +kernel)
set_option maxRecDepth 20000 in
theorem gL_law_X5_wipe : GoodIn wsL_law (wsV RL 90 RX5 yX5_wipe wsX5_wipe) := goodIn_app (goodIn_of _ (by decide +kernel)) ggL_law_X5_wipe
set_option maxRecDepth 20000 in
theorem ggL_law_X6_wipe : GoodIn wsL_law wsX6_wipe := goodIn_r _ [651, 359, 694, 695, 696, 697, 698, 699, 700, 701, 702, 703, 704, 705, 706, 707, 708, 709] (by decide +kernel) (by decide +kernel)
set_option maxRecDepth 20000 in
theorem gL_law_X6_wipe : GoodIn wsL_law (wsV RL 93 RX6 yX6_wipe wsX6_wipe) := goodIn_app (goodIn_of _ (by decide +kernel)) ggL_law_X6_wipe
set_option maxRecDepth 20000 in
theorem ggL_law_X5_fault : GoodIn wsL_law wsX5_fault := goodIn_r _ [655, 32, 325, 326, 327, 31, 328, 329, 330, 331, 332, 333, 75, 334, 335, 336, 337, 338, 339, 684, 685, 686, 687, 688, 689, 690, 691, 692, 693, 732, 733] (by decide +kernel) (by decide +kernel)
set_option maxRecDepth 20000 in
theorem gL_law_X5_fault : GoodIn wsL_law (wsV RL 94 RX5 yX5_fault wsX5_fault) := goodIn_app (goodIn_of _ (by decide +kernel)) ggL_law_X5_fault
set_option maxRecDepth 20000 in
theorem ggL_law_X6_fault : GoodIn wsL_law wsX6_fault := goodIn_r _ [659, 358, 364, 360, 361, 362, 5, 363, 80, 359, 365, 366, 367, 368, 85, 133, 134, 135, 369, 370, 371, 372, 373, 374, 375, 376, 694, 695, 696, 697, 698, 699, 700, 701, 702, 703, 704, 705, 706, 707, 708, 709] (by decide +kernel) (by decide +kernel)
set_option maxRecDepth 20000 in
theorem gL_law_X6_fault : GoodIn wsL_law (wsV RL 97 RX6 yX6_fault wsX6_fault) := goodIn_app (goodIn_of _ (by decide +kernel)) ggL_law_X6_fault
