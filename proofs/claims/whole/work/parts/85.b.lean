/-! THE LAW: names, words, rows (words of its calls) -/
set_option maxRecDepth 20000 in
theorem ggL_law_X5_init : GoodIn wsL_law wsX5_init := goodIn_r _ [9, 10, 11, 12, 13, 14, 15, 16, 17, 18, 19, 20, 21, 22, 23, 24, 25, 26, 27, 28, 29, 30, 31, 32, 33, 34, 35, 36, 37, 38, 39, 40, 41, 42, 43, 44, 45, 46, 47, 48, 49, 50, 51, 52, 53, 54, 55, 56, 57, 58, 59, 60, 61, 62, 63, 64, 65, 66, 67, 68, 69, 70, 71, 72, 73, 74, 75, 710, 711, 712, 713, 714, 715, 716, 717, 718, 719, 720, 721, 684, 685, 686, 687, 688, 689, 690, 691, 692, 693, 722, 723, 724, 725, 726, 727, 728, 729, 730, 731, 732, 733] (by decide +kernel) (by decide +kernel)
set_option maxRecDepth 20000 in
theorem gL_law_X5_init : GoodIn wsL_law (wsX5_init) := ggL_law_X5_init
set_option maxRecDepth 20000 in
theorem ggL_law_X6_init : GoodIn wsL_law wsX6_init := goodIn_r _ [78, 79, 11, 12, 42, 80, 81, 82, 83, 35, 84, 85, 86, 87, 88, 89, 90, 91, 694, 695, 696, 697, 698, 699, 700, 701, 702, 703, 704, 705, 706, 707, 708, 709] (by decide +kernel) (by decide +kernel)
set_option maxRecDepth 20000 in
theorem gL_law_X6_init : GoodIn wsL_law (wsX6_init) := ggL_law_X6_init
set_option maxRecDepth 20000 in
theorem ggL_law_X5_setRoom : GoodIn wsL_law wsX5_setRoom := goodIn_r _ [95, 16, 96, 97, 98, 99, 15, 100, 43, 101, 102, 103, 104, 105, 106, 107, 2, 108, 109, 110, 111, 112, 113, 114, 115, 116, 117, 33, 118, 119, 120, 121, 122, 123, 124, 41, 125, 126, 127, 128, 44, 45, 46, 47, 48, 49, 684, 685, 686, 687, 688, 689, 690, 691, 692, 693, 710, 711, 712, 713, 714, 715, 716, 717, 718, 719, 720, 721] (by decide +kernel) (by decide +kernel)
set_option maxRecDepth 20000 in
theorem gL_law_X5_setRoom : GoodIn wsL_law (wsV RL 13 RX5 yX5_setRoom wsX5_setRoom) := goodIn_app (goodIn_of _ (by decide +kernel)) ggL_law_X5_setRoom
set_option maxRecDepth 20000 in
theorem ggL_law_X6_setRoom : GoodIn wsL_law wsX6_setRoom := goodIn_r _ [132, 80, 133, 134, 5, 135, 136, 137, 138, 139, 140, 141, 142, 143, 144, 82, 694, 695, 696, 697, 698, 699, 700, 701, 702, 703, 704, 705, 706, 707, 708, 709] (by decide +kernel) (by decide +kernel)
set_option maxRecDepth 20000 in
theorem gL_law_X6_setRoom : GoodIn wsL_law (wsV RL 17 RX6 yX6_setRoom wsX6_setRoom) := goodIn_app (goodIn_of _ (by decide +kernel)) ggL_law_X6_setRoom
set_option maxRecDepth 20000 in
theorem ggL_law_X5_rope : GoodIn wsL_law wsX5_rope := goodIn_r _ [148, 16, 149, 150, 151, 2, 152, 153, 154, 155, 156, 157, 158, 159, 160, 161, 111, 112, 103, 113, 162, 163, 164, 165, 166, 167, 168, 169, 170, 15, 171, 45, 105, 106, 107, 108, 109, 110, 114, 115, 116, 117, 33, 118, 119, 120, 121, 122, 123, 124, 41, 125, 126, 127, 128, 43, 44, 46, 47, 48, 49, 684, 685, 686, 687, 688, 689, 690, 691, 692, 693, 710, 711, 712, 713, 714, 715, 716, 717, 718, 719, 720, 721] (by decide +kernel) (by decide +kernel)
set_option maxRecDepth 20000 in
theorem gL_law_X5_rope : GoodIn wsL_law (wsV RL 18 RX5 yX5_rope wsX5_rope) := goodIn_app (goodIn_of _ (by decide +kernel)) ggL_law_X5_rope
set_option maxRecDepth 20000 in
theorem ggL_law_X6_rope : GoodIn wsL_law wsX6_rope := goodIn_r _ [175, 80, 176, 177, 5, 178, 133, 134, 135, 179, 180, 181, 182, 183, 184, 185, 186, 187, 188, 189, 190, 191, 136, 137, 138, 139, 140, 141, 142, 143, 144, 82, 694, 695, 696, 697, 698, 699, 700, 701, 702, 703, 704, 705, 706, 707, 708, 709] (by decide +kernel) (by decide +kernel)
set_option maxRecDepth 20000 in
theorem gL_law_X6_rope : GoodIn wsL_law (wsV RL 22 RX6 yX6_rope wsX6_rope) := goodIn_app (goodIn_of _ (by decide +kernel)) ggL_law_X6_rope
set_option maxRecDepth 20000 in
theorem ggL_law_X5_door : GoodIn wsL_law wsX5_door := goodIn_r _ [195, 16, 196, 197, 198, 199, 2, 200, 150, 151, 152, 105, 106, 107, 108, 109, 110, 111, 112, 103, 113, 114, 115, 116, 117, 33, 118, 119, 120, 121, 122, 123, 15, 124, 41, 125, 126, 127, 128, 43, 44, 45, 46, 47, 48, 49, 684, 685, 686, 687, 688, 689, 690, 691, 692, 693, 710, 711, 712, 713, 714, 715, 716, 717, 718, 719, 720, 721] (by decide +kernel) (by decide +kernel)
set_option maxRecDepth 20000 in
theorem gL_law_X5_door : GoodIn wsL_law (wsV RL 23 RX5 yX5_door wsX5_door) := goodIn_app (goodIn_of _ (by decide +kernel)) ggL_law_X5_door
set_option maxRecDepth 20000 in
theorem ggL_law_X6_door : GoodIn wsL_law wsX6_door := goodIn_r _ [204, 80, 205, 206, 5, 207, 133, 134, 135, 176, 177, 178, 136, 137, 138, 139, 140, 141, 142, 143, 144, 82, 694, 695, 696, 697, 698, 699, 700, 701, 702, 703, 704, 705, 706, 707, 708, 709] (by decide +kernel) (by decide +kernel)
set_option maxRecDepth 20000 in
theorem gL_law_X6_door : GoodIn wsL_law (wsV RL 27 RX6 yX6_door wsX6_door) := goodIn_app (goodIn_of _ (by decide +kernel)) ggL_law_X6_door
