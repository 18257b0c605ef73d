/-! THE LAW: names, words, rows (words of its calls) -/
set_option maxRecDepth 20000 in
theorem ggL_law_X5_pass : GoodIn wsL_law wsX5_pass := goodIn_r _ [380, 16, 381, 20, 24, 105, 106, 107, 2, 108, 109, 110, 111, 112, 103, 113, 114, 115, 116, 117, 33, 118, 119, 120, 121, 122, 123, 15, 124, 41, 125, 126, 127, 128, 43, 44, 45, 46, 47, 48, 49, 237, 238, 239, 19, 240, 55, 56, 241, 242, 243, 244, 53, 245, 54, 151, 152, 246, 247, 248, 249, 160, 161, 162, 163, 164, 166, 167, 250, 251, 252, 253, 199, 200, 254, 255, 256, 257, 258, 259, 260, 261, 262, 263, 264, 265, 266, 267, 268, 269, 270, 271, 272, 273, 274, 275, 276, 57, 382, 383, 384, 23, 385, 386, 61, 387, 388, 389, 390, 391, 392, 393, 394, 395, 396, 397, 398, 399, 400, 401, 402, 403, 404, 405, 406, 407, 408, 409, 410, 411, 412, 413, 414, 350, 351, 352, 684, 685, 686, 687, 688, 689, 690, 691, 692, 693, 710, 711, 712, 713, 714, 715, 716, 717, 718, 719, 720, 721, 722, 723, 724, 725, 726, 727, 728] (by decide +kernel) (by decide +kernel)
set_option maxRecDepth 20000 in
theorem gL_law_X5_pass : GoodIn wsL_law (wsV RL 47 RX5 yX5_pass wsX5_pass) := goodIn_app (goodIn_of _ (by decide +kernel)) ggL_law_X5_pass
set_option maxRecDepth 20000 in
theorem ggL_law_X6_pass : GoodIn wsL_law wsX6_pass := goodIn_r _ [418, 80, 133, 134, 5, 135, 140, 141, 142, 143, 144, 82, 282, 283, 284, 285, 87, 88, 86, 89, 286, 287, 288, 289, 290, 291, 292, 293, 182, 183, 184, 185, 186, 187, 294, 295, 296, 297, 298, 299, 300, 301, 302, 303, 304, 305, 419, 420, 421, 422, 423, 424, 425, 426, 90, 427, 428, 429, 430, 431, 432, 433, 434, 694, 695, 696, 697, 698, 699, 700, 701, 702, 703, 704, 705, 706, 707, 708, 709] (by decide +kernel) (by decide +kernel)
set_option maxRecDepth 20000 in
theorem gL_law_X6_pass : GoodIn wsL_law (wsV RL 50 RX6 yX6_pass wsX6_pass) := goodIn_app (goodIn_of _ (by decide +kernel)) ggL_law_X6_pass
set_option maxRecDepth 20000 in
theorem ggL_law_X5_cell : GoodIn wsL_law wsX5_cell := goodIn_r _ [438, 20, 16, 310, 236, 150, 151, 2, 152, 237, 238, 239, 19, 240, 55, 56, 241, 242, 243, 244, 53, 245, 54, 246, 247, 248, 15, 249, 45, 160, 161, 111, 112, 103, 113, 162, 163, 164, 166, 167, 250, 251, 252, 253, 199, 200, 254, 255, 256, 257, 258, 259, 260, 261, 262, 263, 264, 265, 266, 267, 268, 269, 270, 271, 272, 273, 274, 275, 276, 57, 277, 439, 440, 405, 406, 407, 441, 442, 443, 444, 684, 685, 686, 687, 688, 689, 690, 691, 692, 693, 710, 711, 712, 713, 714, 715, 716, 717, 718, 719, 720, 721, 722, 723, 724, 725, 726, 727] (by decide +kernel) (by decide +kernel)
set_option maxRecDepth 20000 in
theorem gL_law_X5_cell : GoodIn wsL_law (wsV RL 51 RX5 yX5_cell wsX5_cell) := goodIn_app (goodIn_of _ (by decide +kernel)) ggL_law_X5_cell
set_option maxRecDepth 20000 in
theorem ggL_law_X6_cell : GoodIn wsL_law wsX6_cell := goodIn_r _ [448, 80, 87, 88, 89, 176, 177, 5, 178, 133, 134, 135, 282, 283, 284, 285, 86, 286, 287, 288, 289, 290, 291, 292, 293, 182, 183, 184, 185, 186, 187, 294, 295, 296, 297, 298, 299, 300, 301, 302, 303, 304, 305, 449, 450, 451, 452, 453, 454, 455, 456, 694, 695, 696, 697, 698, 699, 700, 701, 702, 703, 704, 705, 706, 707, 708, 709] (by decide +kernel) (by decide +kernel)
set_option maxRecDepth 20000 in
theorem gL_law_X6_cell : GoodIn wsL_law (wsV RL 54 RX6 yX6_cell wsX6_cell) := goodIn_app (goodIn_of _ (by decide +kernel)) ggL_law_X6_cell
set_option maxRecDepth 20000 in
theorem ggL_law_X5_doorOf : GoodIn wsL_law wsX5_doorOf := goodIn_r _ [460, 20, 16, 196, 197, 212, 461, 198, 199, 2, 200, 237, 238, 239, 19, 240, 55, 56, 241, 242, 243, 244, 53, 245, 54, 151, 152, 246, 247, 248, 15, 249, 45, 160, 161, 111, 112, 103, 113, 162, 163, 164, 166, 167, 250, 251, 252, 253, 254, 255, 256, 257, 258, 259, 260, 261, 262, 263, 264, 265, 266, 267, 268, 269, 270, 271, 272, 273, 274, 275, 276, 57, 462, 463, 464, 465, 466, 467, 468, 469, 470, 684, 685, 686, 687, 688, 689, 690, 691, 692, 693, 710, 711, 712, 713, 714, 715, 716, 717, 718, 719, 720, 721, 722, 723, 724, 725, 726, 727] (by decide +kernel) (by decide +kernel)
set_option maxRecDepth 20000 in
theorem gL_law_X5_doorOf : GoodIn wsL_law (wsV RL 55 RX5 yX5_doorOf wsX5_doorOf) := goodIn_app (goodIn_of _ (by decide +kernel)) ggL_law_X5_doorOf
set_option maxRecDepth 20000 in
theorem ggL_law_X6_doorOf : GoodIn wsL_law wsX6_doorOf := goodIn_r _ [474, 80, 205, 206, 5, 207, 133, 134, 135, 475, 476, 477, 478, 87, 282, 283, 284, 285, 88, 86, 89, 286, 287, 288, 289, 290, 291, 292, 293, 182, 183, 184, 185, 186, 187, 294, 295, 296, 297, 298, 299, 300, 301, 302, 303, 304, 305, 694, 695, 696, 697, 698, 699, 700, 701, 702, 703, 704, 705, 706, 707, 708, 709] (by decide +kernel) (by decide +kernel)
set_option maxRecDepth 20000 in
theorem gL_law_X6_doorOf : GoodIn wsL_law (wsV RL 58 RX6 yX6_doorOf wsX6_doorOf) := goodIn_app (goodIn_of _ (by decide +kernel)) ggL_law_X6_doorOf
set_option maxRecDepth 20000 in
theorem ggL_law_X5_count : GoodIn wsL_law wsX5_count := goodIn_r _ [482, 16, 96, 381, 323, 483, 484, 32, 324, 110, 485, 486, 487, 15, 488, 43, 489, 490, 491, 492, 49, 168, 169, 170, 171, 45, 213, 214, 215, 216, 48, 493, 494, 495, 2, 496, 20, 237, 238, 239, 19, 240, 55, 56, 241, 242, 243, 244, 53, 245, 54, 151, 152, 246, 247, 248, 249, 160, 161, 111, 112, 103, 113, 162, 163, 164, 166, 167, 250, 251, 252, 253, 199, 200, 254, 255, 256, 257, 258, 259, 260, 261, 262, 263, 264, 265, 266, 267, 268, 269, 270, 271, 272, 273, 274, 275, 276, 57, 497, 498, 499, 500, 501, 467, 468, 469, 470, 502, 503, 504, 505, 101, 102, 104, 506, 507, 508, 509, 510, 44, 684, 685, 686, 687, 688, 689, 690, 691, 692, 693, 710, 711, 712, 713, 714, 715, 716, 717, 718, 719, 720, 721, 732, 733, 722, 723, 724, 725, 726, 727] (by decide +kernel) (by decide +kernel)
set_option maxRecDepth 20000 in
theorem gL_law_X5_count : GoodIn wsL_law (wsV RL 59 RX5 yX5_count wsX5_count) := goodIn_app (goodIn_of _ (by decide +kernel)) ggL_law_X5_count
set_option maxRecDepth 20000 in
theorem ggL_law_X6_count : GoodIn wsL_law wsX6_count := goodIn_r _ [514, 80, 359, 144, 515, 516, 517, 5, 518, 419, 420, 421, 422, 188, 189, 190, 191, 519, 520, 521, 522, 282, 283, 284, 285, 87, 88, 86, 89, 286, 287, 288, 289, 290, 291, 292, 293, 182, 183, 184, 185, 186, 187, 294, 295, 296, 297, 298, 299, 300, 301, 302, 303, 304, 305, 523, 524, 525, 526, 527, 528, 529, 530, 531, 532, 533, 534, 694, 695, 696, 697, 698, 699, 700, 701, 702, 703, 704, 705, 706, 707, 708, 709] (by decide +kernel) (by decide +kernel)
set_option maxRecDepth 20000 in
theorem gL_law_X6_count : GoodIn wsL_law (wsV RL 62 RX6 yX6_count wsX6_count) := goodIn_app (goodIn_of _ (by decide +kernel)) ggL_law_X6_count
