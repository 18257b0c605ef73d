/-! THE LAW: its words are among the tables', chunk by chunk (laid by wip/whole/gen) -/
set_option maxRecDepth 20000 in
theorem gw_r1 : GoodIn lw_tbl wsL_law_r1 := goodIn_r _ [51, 52, 42, 565, 566, 48, 847, 53, 54, 55, 56, 57, 58, 59, 60, 43, 202, 130, 131, 44, 203, 155, 156, 45] (by decide +kernel) (by decide +kernel)
set_option maxRecDepth 20000 in
theorem gw_r2 : GoodIn lw_tbl wsL_law_r2 := goodIn_r _ [204, 165, 166, 46, 205, 187, 188, 47, 206, 207, 208, 129, 209, 61, 62, 63, 64, 65, 128, 79, 83, 86, 89, 93] (by decide +kernel) (by decide +kernel)
set_option maxRecDepth 20000 in
theorem gw_r3 : GoodIn lw_tbl wsL_law_r3 := goodIn_r _ [96, 100, 133, 134, 135, 136, 137, 138, 139, 140, 158, 159, 160, 161, 168, 169, 170, 171, 177, 173, 178, 175, 179, 172] (by decide +kernel) (by decide +kernel)
set_option maxRecDepth 20000 in
theorem gw_r4 : GoodIn lw_tbl wsL_law_r4 := goodIn_r _ [190, 191, 192, 195, 567, 568, 569, 570, 571, 572, 573, 575, 576, 577, 579, 580, 581, 582, 583, 584, 233, 234, 235, 236] (by decide +kernel) (by decide +kernel)
set_option maxRecDepth 20000 in
theorem gw_r5 : GoodIn lw_tbl wsL_law_r5 := goodIn_r _ [66, 237, 238, 239, 240, 241, 242, 49, 243, 244, 246, 0, 247, 211, 210, 259, 260, 261, 248, 250, 1, 251, 252, 253] (by decide +kernel) (by decide +kernel)
set_option maxRecDepth 20000 in
theorem gw_r6 : GoodIn lw_tbl wsL_law_r6 := goodIn_r _ [254, 255, 256, 257, 258, 68, 70, 72, 76, 620, 621, 622, 623, 624, 625, 626, 627, 629, 11, 630, 631, 633, 12, 634] (by decide +kernel) (by decide +kernel)
set_option maxRecDepth 20000 in
theorem gw_r7 : GoodIn lw_tbl wsL_law_r7 := goodIn_r _ [574, 262, 263, 264, 265, 88, 266, 267, 268, 269, 270, 271, 272, 273, 274, 275, 276, 277, 278, 279, 280, 281, 282, 283] (by decide +kernel) (by decide +kernel)
set_option maxRecDepth 20000 in
theorem gw_r8 : GoodIn lw_tbl wsL_law_r8 := goodIn_r _ [284, 285, 286, 287, 635, 636, 637, 638, 639, 640, 641, 642, 643, 644, 645, 646, 647, 648, 649, 650, 651, 653, 13, 654] (by decide +kernel) (by decide +kernel)
set_option maxRecDepth 20000 in
theorem gw_r9 : GoodIn lw_tbl wsL_law_r9 := goodIn_r _ [288, 289, 290, 291, 91, 95, 292, 293, 294, 655, 656, 657, 658, 659, 660, 661, 295, 296, 297, 298, 98, 299, 300, 301] (by decide +kernel) (by decide +kernel)
set_option maxRecDepth 20000 in
theorem gw_r10 : GoodIn lw_tbl wsL_law_r10 := goodIn_r _ [302, 303, 304, 50, 305, 306, 307, 308, 662, 663, 664, 665, 666, 668, 14, 669, 309, 310, 311, 312, 84, 313, 314, 315] (by decide +kernel) (by decide +kernel)
set_option maxRecDepth 20000 in
theorem gw_r11 : GoodIn lw_tbl wsL_law_r11 := goodIn_r _ [316, 317, 319, 2, 320, 92, 322, 323, 324, 325, 329, 330, 331, 332, 334, 336, 3, 337, 85, 99, 338, 340, 4, 341] (by decide +kernel) (by decide +kernel)
set_option maxRecDepth 20000 in
theorem gw_r12 : GoodIn lw_tbl wsL_law_r12 := goodIn_r _ [342, 343, 344, 345, 346, 347, 348, 349, 350, 352, 5, 353, 141, 354, 670, 671, 672, 673, 674, 676, 15, 677, 678, 680] (by decide +kernel) (by decide +kernel)
set_option maxRecDepth 20000 in
theorem gw_r13 : GoodIn lw_tbl wsL_law_r13 := goodIn_r _ [16, 681, 682, 684, 17, 685, 686, 688, 18, 689, 690, 692, 19, 693, 694, 696, 20, 697, 355, 356, 357, 358, 81, 359] (by decide +kernel) (by decide +kernel)
set_option maxRecDepth 20000 in
theorem gw_r14 : GoodIn lw_tbl wsL_law_r14 := goodIn_r _ [360, 361, 362, 698, 699, 700, 701, 364, 365, 366, 367, 71, 194, 368, 369, 370, 371, 193, 372, 374, 6, 375, 376, 377] (by decide +kernel) (by decide +kernel)
set_option maxRecDepth 20000 in
theorem gw_r15 : GoodIn lw_tbl wsL_law_r15 := goodIn_r _ [378, 379, 380, 381, 382, 383, 384, 385, 386, 388, 7, 389, 394, 390, 391, 392, 393, 395, 831, 832, 833, 834, 586, 578] (by decide +kernel) (by decide +kernel)
set_option maxRecDepth 20000 in
theorem gw_r16 : GoodIn lw_tbl wsL_law_r16 := goodIn_r _ [815, 817, 37, 818, 585, 819, 821, 38, 822, 823, 825, 39, 826, 827, 829, 40, 830, 396, 397, 398, 399, 69, 400, 401] (by decide +kernel) (by decide +kernel)
set_option maxRecDepth 20000 in
theorem gw_r17 : GoodIn lw_tbl wsL_law_r17 := goodIn_r _ [402, 403, 67, 404, 405, 406, 90, 97, 94, 80, 408, 101, 409, 410, 411, 412, 413, 414, 415, 416, 417, 418, 419, 420] (by decide +kernel) (by decide +kernel)
set_option maxRecDepth 20000 in
theorem gw_r18 : GoodIn lw_tbl wsL_law_r18 := goodIn_r _ [421, 423, 8, 424, 77, 73, 425, 702, 703, 704, 705, 706, 708, 21, 709, 710, 712, 22, 713, 714, 716, 23, 717, 718] (by decide +kernel) (by decide +kernel)
set_option maxRecDepth 20000 in
theorem gw_r19 : GoodIn lw_tbl wsL_law_r19 := goodIn_r _ [720, 24, 721, 426, 427, 428, 429, 430, 431, 432, 433, 434, 435, 722, 723, 724, 725, 726, 728, 25, 729, 730, 732, 26] (by decide +kernel) (by decide +kernel)
set_option maxRecDepth 20000 in
theorem gw_r20 : GoodIn lw_tbl wsL_law_r20 := goodIn_r _ [733, 436, 437, 438, 439, 102, 440, 441, 442, 443, 444, 445, 446, 447, 82, 734, 735, 736, 737, 738, 740, 27, 741, 448] (by decide +kernel) (by decide +kernel)
set_option maxRecDepth 20000 in
theorem gw_r21 : GoodIn lw_tbl wsL_law_r21 := goodIn_r _ [449, 450, 451, 75, 78, 452, 453, 454, 455, 456, 457, 458, 459, 460, 462, 9, 463, 464, 465, 466, 467, 468, 469, 470] (by decide +kernel) (by decide +kernel)
set_option maxRecDepth 20000 in
theorem gw_r22 : GoodIn lw_tbl wsL_law_r22 := goodIn_r _ [471, 472, 473, 474, 475, 476, 477, 742, 743, 744, 745, 746, 748, 28, 749, 750, 752, 29, 753, 754, 756, 30, 757, 758] (by decide +kernel) (by decide +kernel)
set_option maxRecDepth 20000 in
theorem gw_r23 : GoodIn lw_tbl wsL_law_r23 := goodIn_r _ [760, 31, 761, 762, 764, 32, 765, 478, 479, 480, 481, 482, 766, 767, 768, 769, 483, 484, 485, 486, 487, 488, 489, 490] (by decide +kernel) (by decide +kernel)
set_option maxRecDepth 20000 in
theorem gw_r24 : GoodIn lw_tbl wsL_law_r24 := goodIn_r _ [491, 492, 493, 494, 495, 496, 497, 498, 499, 770, 771, 772, 773, 774, 776, 33, 777, 778, 780, 34, 781, 782, 784, 35] (by decide +kernel) (by decide +kernel)
set_option maxRecDepth 20000 in
theorem gw_r25 : GoodIn lw_tbl wsL_law_r25 := goodIn_r _ [785, 500, 501, 502, 503, 504, 505, 506, 507, 87, 509, 510, 511, 512, 513, 514, 515, 516, 517, 786, 787, 788, 789, 790] (by decide +kernel) (by decide +kernel)
set_option maxRecDepth 20000 in
theorem gw_r26 : GoodIn lw_tbl wsL_law_r26 := goodIn_r _ [792, 36, 793, 518, 519, 520, 521, 522, 524, 10, 525, 794, 795, 796, 797, 526, 527, 528, 529, 530, 531, 532, 533, 74] (by decide +kernel) (by decide +kernel)
set_option maxRecDepth 20000 in
theorem gw_r27 : GoodIn lw_tbl wsL_law_r27 := goodIn_r _ [798, 799, 800, 801, 534, 535, 536, 537, 538, 539, 540, 541, 542, 543, 544, 802, 803, 804, 805, 806, 545, 546, 547, 548] (by decide +kernel) (by decide +kernel)
set_option maxRecDepth 20000 in
theorem gw_r28 : GoodIn lw_tbl wsL_law_r28 := goodIn_r _ [807, 808, 809, 810, 549, 550, 551, 552, 811, 812, 813, 814, 553, 554, 555, 556, 835, 836, 837, 838, 557, 558, 559, 560] (by decide +kernel) (by decide +kernel)
set_option maxRecDepth 20000 in
theorem gw_r29 : GoodIn lw_tbl wsL_law_r29 := goodIn_r _ [839, 840, 841, 842, 561, 562, 563, 564, 843, 844, 845, 846] (by decide +kernel) (by decide +kernel)
set_option maxRecDepth 20000 in
theorem gw_X0 : GoodIn lw_tbl wsX00 := goodIn_r _ [180, 182, 184] (by decide +kernel) (by decide +kernel)
set_option maxRecDepth 20000 in
theorem gw_X1 : GoodIn lw_tbl wsX10 := goodIn_r _ [103, 105, 107, 109, 111, 113, 115, 117, 119, 121, 123, 125] (by decide +kernel) (by decide +kernel)
set_option maxRecDepth 20000 in
theorem gw_X2 : GoodIn lw_tbl wsX20 := goodIn_r _ [162] (by decide +kernel) (by decide +kernel)
set_option maxRecDepth 20000 in
theorem gw_X3 : GoodIn lw_tbl wsX30 := goodIn_r _ [196, 198] (by decide +kernel) (by decide +kernel)
set_option maxRecDepth 20000 in
theorem gw_X4 : GoodIn lw_tbl wsX40 := goodIn_r _ [142, 144, 146, 148, 150, 152] (by decide +kernel) (by decide +kernel)
set_option maxRecDepth 20000 in
theorem gw_X5 : GoodIn lw_tbl wsX50 := goodIn_r _ [212, 214, 216, 218, 220, 222, 224, 226, 228, 230] (by decide +kernel) (by decide +kernel)
set_option maxRecDepth 20000 in
theorem gw_X6 : GoodIn lw_tbl wsX60 := goodIn_r _ [587, 589, 591, 593, 595, 597, 599, 601, 603, 605, 607, 609, 611, 613, 615, 617] (by decide +kernel) (by decide +kernel)
theorem gw_law : GoodIn lw_tbl wsL_law := goodIn_app (goodIn_app (goodIn_app (goodIn_app (goodIn_app (goodIn_app (goodIn_app (goodIn_app (goodIn_app gw_r1 (goodIn_app gw_r2 (goodIn_app gw_r3 (goodIn_app gw_r4 (goodIn_app gw_r5 (goodIn_app gw_r6 (goodIn_app gw_r7 (goodIn_app gw_r8 (goodIn_app gw_r9 (goodIn_app gw_r10 (goodIn_app gw_r11 (goodIn_app gw_r12 (goodIn_app gw_r13 (goodIn_app gw_r14 (goodIn_app gw_r15 (goodIn_app gw_r16 (goodIn_app gw_r17 (goodIn_app gw_r18 (goodIn_app gw_r19 (goodIn_app gw_r20 (goodIn_app gw_r21 (goodIn_app gw_r22 (goodIn_app gw_r23 (goodIn_app gw_r24 (goodIn_app gw_r25 (goodIn_app gw_r26 (goodIn_app gw_r27 (goodIn_app gw_r28 (gw_r29))))))))))))))))))))))))))))) gw_X5) gw_X6) gw_X1) gw_X4) gw_X2) gw_X0) gw_X3) (fun w h => by cases h)
theorem wsL_law_in : ∀ w ∈ wsL_law, w ∈ lw_tbl := fun w h => (gw_law w h).1
