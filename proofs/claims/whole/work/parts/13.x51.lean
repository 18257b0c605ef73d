theorem dX5_doorOf_87 : decode cX5_doorOf 87 = .ok (.iload_n 1, 1) := by decide +kernel
theorem dX5_doorOf_88 : decode cX5_doorOf 88 = .ok (.baload, 1) := by decide +kernel
theorem dX5_doorOf_89 : decode cX5_doorOf 89 = .ok (.ifCond .eq 7, 3) := by decide +kernel
theorem dX5_doorOf_92 : decode cX5_doorOf 92 = .ok (.iconst 1, 1) := by decide +kernel
theorem dX5_doorOf_93 : decode cX5_doorOf 93 = .ok (.goto 4, 3) := by decide +kernel
theorem dX5_doorOf_96 : decode cX5_doorOf 96 = .ok (.iconst 0, 1) := by decide +kernel
theorem dX5_doorOf_97 : decode cX5_doorOf 97 = .ok (.ireturn, 1) := by decide +kernel
theorem dX5_doorOf_98 : decode cX5_doorOf 98 = .ok (.aload_n 0, 1) := by decide +kernel
theorem dX5_doorOf_99 : decode cX5_doorOf 99 = .ok (.getfield 12, 3) := by decide +kernel
theorem dX5_doorOf_102 : decode cX5_doorOf 102 = .ok (.getfield 153, 3) := by decide +kernel
theorem dX5_doorOf_105 : decode cX5_doorOf 105 = .ok (.iload_n 1, 1) := by decide +kernel
theorem dX5_doorOf_106 : decode cX5_doorOf 106 = .ok (.iaload, 1) := by decide +kernel
theorem dX5_doorOf_107 : decode cX5_doorOf 107 = .ok (.ireturn, 1) := by decide +kernel
theorem dX5_doorOf_108 : decode cX5_doorOf 108 = .ok (.aload_n 0, 1) := by decide +kernel
theorem dX5_doorOf_109 : decode cX5_doorOf 109 = .ok (.getfield 19, 3) := by decide +kernel
theorem dX5_doorOf_112 : decode cX5_doorOf 112 = .ok (.iload_n 1, 1) := by decide +kernel
theorem dX5_doorOf_113 : decode cX5_doorOf 113 = .ok (.invokevirtual 156, 3) := by decide +kernel
theorem dX5_doorOf_116 : decode cX5_doorOf 116 = .ok (.ireturn, 1) := by decide +kernel
theorem dX5_doorOf_117 : decode cX5_doorOf 117 = .ok (.aload_n 0, 1) := by decide +kernel
theorem dX5_doorOf_118 : decode cX5_doorOf 118 = .ok (.getfield 19, 3) := by decide +kernel
theorem dX5_doorOf_121 : decode cX5_doorOf 121 = .ok (.aload_n 0, 1) := by decide +kernel
theorem dX5_doorOf_122 : decode cX5_doorOf 122 = .ok (.getfield 12, 3) := by decide +kernel
theorem dX5_doorOf_125 : decode cX5_doorOf 125 = .ok (.iload_n 1, 1) := by decide +kernel
theorem dX5_doorOf_126 : decode cX5_doorOf 126 = .ok (.invokevirtual 159, 3) := by decide +kernel
theorem dX5_doorOf_129 : decode cX5_doorOf 129 = .ok (.ireturn, 1) := by decide +kernel
theorem dX5_doorOf_130 : decode cX5_doorOf 130 = .ok (.bipush (-2), 2) := by decide +kernel
theorem dX5_doorOf_132 : decode cX5_doorOf 132 = .ok (.ireturn, 1) := by decide +kernel
set_option maxRecDepth 20000 in
theorem ggX5_count_X1_peopleInside : GoodIn wsX5_count wsX1_peopleInside := goodIn_r _ [14, 15, 130, 131, 132, 133, 134, 135, 136, 137, 138, 139, 140, 141] (by decide +kernel) (by decide +kernel)
set_option maxRecDepth 20000 in
theorem gX5_count_X1_peopleInside : GoodIn wsX5_count (wsV RX5 163 RX1 yX1_peopleInside wsX1_peopleInside) := goodIn_app (goodIn_of _ (by decide +kernel)) ggX5_count_X1_peopleInside
set_option maxRecDepth 20000 in
theorem ggX5_count_X1_peopleOut : GoodIn wsX5_count wsX1_peopleOut := goodIn_r _ [19, 20, 130, 131, 132, 133, 134, 135, 136, 137, 138, 139, 140, 141] (by decide +kernel) (by decide +kernel)
set_option maxRecDepth 20000 in
theorem gX5_count_X1_peopleOut : GoodIn wsX5_count (wsV RX5 166 RX1 yX1_peopleOut wsX1_peopleOut) := goodIn_app (goodIn_of _ (by decide +kernel)) ggX5_count_X1_peopleOut
set_option maxRecDepth 20000 in
theorem ggX5_count_X1_ropeCount : GoodIn wsX5_count wsX1_ropeCount := goodIn_r _ [24, 25, 130, 131, 132, 133, 134, 135, 136, 137, 138, 139, 140, 141] (by decide +kernel) (by decide +kernel)
set_option maxRecDepth 20000 in
theorem gX5_count_X1_ropeCount : GoodIn wsX5_count (wsV RX5 83 RX1 yX1_ropeCount wsX1_ropeCount) := goodIn_app (goodIn_of _ (by decide +kernel)) ggX5_count_X1_ropeCount
set_option maxRecDepth 20000 in
theorem ggX5_count_X1_openDoors : GoodIn wsX5_count wsX1_openDoors := goodIn_r _ [29, 30, 130, 131, 132, 133, 134, 135, 136, 137, 138, 139, 140, 141] (by decide +kernel) (by decide +kernel)
set_option maxRecDepth 20000 in
theorem gX5_count_X1_openDoors : GoodIn wsX5_count (wsV RX5 99 RX1 yX1_openDoors wsX1_openDoors) := goodIn_app (goodIn_of _ (by decide +kernel)) ggX5_count_X1_openDoors
set_option maxRecDepth 20000 in
theorem ggX5_count_X5_strandedNow : GoodIn wsX5_count wsX5_strandedNow := goodIn_r _ [35, 36, 1, 37, 38, 39, 40, 41, 42, 43, 44, 45, 46, 47, 48, 49, 50, 51, 34, 52, 53, 54, 55, 13, 56, 25, 57, 58, 59, 60, 61, 62, 63, 64, 65, 66, 67, 68, 69, 70, 71, 72, 73, 74, 75, 76, 77, 78, 79, 80, 81, 82, 83, 84, 85, 86, 87, 88, 89, 90, 91, 92, 93, 94, 95, 96, 97, 98, 99, 100, 101, 102, 103, 104, 105, 106, 120, 121, 122, 123, 124, 125, 126, 127, 128, 129, 144, 145, 146, 147, 148, 149, 130, 131, 132, 133, 134, 135, 136, 137, 138, 139, 140, 141] (by decide +kernel) (by decide +kernel)
set_option maxRecDepth 20000 in
theorem gX5_count_X5_strandedNow : GoodIn wsX5_count (wsV RX5 175 RX5 yX5_strandedNow wsX5_strandedNow) := goodIn_app (goodIn_of _ (by decide +kernel)) ggX5_count_X5_strandedNow
set_option maxRecDepth 20000 in
theorem ggX5_count_X1_unevenness : GoodIn wsX5_count wsX1_unevenness := goodIn_r _ [110, 30, 20, 111, 112, 61, 113, 114, 60, 62, 130, 131, 132, 133, 134, 135, 136, 137, 138, 139, 140, 141] (by decide +kernel) (by decide +kernel)
set_option maxRecDepth 20000 in
theorem gX5_count_X1_unevenness : GoodIn wsX5_count (wsV RX5 178 RX1 yX1_unevenness wsX1_unevenness) := goodIn_app (goodIn_of _ (by decide +kernel)) ggX5_count_X1_unevenness
set_option maxRecDepth 20000 in
theorem ggX5_count_X1_guardCount : GoodIn wsX5_count wsX1_guardCount := goodIn_r _ [118, 119, 130, 131, 132, 133, 134, 135, 136, 137, 138, 139, 140, 141] (by decide +kernel) (by decide +kernel)
set_option maxRecDepth 20000 in
theorem gX5_count_X1_guardCount : GoodIn wsX5_count (wsV RX5 181 RX1 yX1_guardCount wsX1_guardCount) := goodIn_app (goodIn_of _ (by decide +kernel)) ggX5_count_X1_guardCount
theorem dX5_count_0 : decode cX5_count 0 = .ok (.iload_n 1, 1) := by decide +kernel
theorem dX5_count_1 : decode cX5_count 1 = .ok (.tableswitch 177 0 13 #[71, 79, 87, 95, 103, 111, 119, 127, 135, 143, 148, 156, 164, 172], 71) := by decide +kernel
theorem dX5_count_72 : decode cX5_count 72 = .ok (.aload_n 0, 1) := by decide +kernel
theorem dX5_count_73 : decode cX5_count 73 = .ok (.getfield 12, 3) := by decide +kernel
theorem dX5_count_76 : decode cX5_count 76 = .ok (.getfield 62, 3) := by decide +kernel
theorem dX5_count_79 : decode cX5_count 79 = .ok (.ireturn, 1) := by decide +kernel
theorem dX5_count_80 : decode cX5_count 80 = .ok (.aload_n 0, 1) := by decide +kernel
theorem dX5_count_81 : decode cX5_count 81 = .ok (.getfield 12, 3) := by decide +kernel
theorem dX5_count_84 : decode cX5_count 84 = .ok (.getfield 137, 3) := by decide +kernel
theorem dX5_count_87 : decode cX5_count 87 = .ok (.ireturn, 1) := by decide +kernel
theorem dX5_count_88 : decode cX5_count 88 = .ok (.aload_n 0, 1) := by decide +kernel
theorem dX5_count_89 : decode cX5_count 89 = .ok (.getfield 12, 3) := by decide +kernel
theorem dX5_count_92 : decode cX5_count 92 = .ok (.invokevirtual 163, 3) := by decide +kernel
theorem dX5_count_95 : decode cX5_count 95 = .ok (.ireturn, 1) := by decide +kernel
theorem dX5_count_96 : decode cX5_count 96 = .ok (.aload_n 0, 1) := by decide +kernel
theorem dX5_count_97 : decode cX5_count 97 = .ok (.getfield 12, 3) := by decide +kernel
theorem dX5_count_100 : decode cX5_count 100 = .ok (.getfield 128, 3) := by decide +kernel
theorem dX5_count_103 : decode cX5_count 103 = .ok (.ireturn, 1) := by decide +kernel
theorem dX5_count_104 : decode cX5_count 104 = .ok (.aload_n 0, 1) := by decide +kernel
theorem dX5_count_105 : decode cX5_count 105 = .ok (.getfield 12, 3) := by decide +kernel
theorem dX5_count_108 : decode cX5_count 108 = .ok (.invokevirtual 166, 3) := by decide +kernel
theorem dX5_count_111 : decode cX5_count 111 = .ok (.ireturn, 1) := by decide +kernel
theorem dX5_count_112 : decode cX5_count 112 = .ok (.aload_n 0, 1) := by decide +kernel
theorem dX5_count_113 : decode cX5_count 113 = .ok (.getfield 12, 3) := by decide +kernel
theorem dX5_count_116 : decode cX5_count 116 = .ok (.getfield 169, 3) := by decide +kernel
theorem dX5_count_119 : decode cX5_count 119 = .ok (.ireturn, 1) := by decide +kernel
theorem dX5_count_120 : decode cX5_count 120 = .ok (.aload_n 0, 1) := by decide +kernel
theorem dX5_count_121 : decode cX5_count 121 = .ok (.getfield 12, 3) := by decide +kernel
theorem dX5_count_124 : decode cX5_count 124 = .ok (.getfield 172, 3) := by decide +kernel
theorem dX5_count_127 : decode cX5_count 127 = .ok (.ireturn, 1) := by decide +kernel
theorem dX5_count_128 : decode cX5_count 128 = .ok (.aload_n 0, 1) := by decide +kernel
theorem dX5_count_129 : decode cX5_count 129 = .ok (.getfield 12, 3) := by decide +kernel
theorem dX5_count_132 : decode cX5_count 132 = .ok (.invokevirtual 83, 3) := by decide +kernel
theorem dX5_count_135 : decode cX5_count 135 = .ok (.ireturn, 1) := by decide +kernel
theorem dX5_count_136 : decode cX5_count 136 = .ok (.aload_n 0, 1) := by decide +kernel
theorem dX5_count_137 : decode cX5_count 137 = .ok (.getfield 12, 3) := by decide +kernel
theorem dX5_count_140 : decode cX5_count 140 = .ok (.invokevirtual 99, 3) := by decide +kernel
theorem dX5_count_143 : decode cX5_count 143 = .ok (.ireturn, 1) := by decide +kernel
theorem dX5_count_144 : decode cX5_count 144 = .ok (.aload_n 0, 1) := by decide +kernel
theorem dX5_count_145 : decode cX5_count 145 = .ok (.invokevirtual 175, 3) := by decide +kernel
theorem dX5_count_148 : decode cX5_count 148 = .ok (.ireturn, 1) := by decide +kernel
theorem dX5_count_149 : decode cX5_count 149 = .ok (.aload_n 0, 1) := by decide +kernel
theorem dX5_count_150 : decode cX5_count 150 = .ok (.getfield 12, 3) := by decide +kernel
theorem dX5_count_153 : decode cX5_count 153 = .ok (.invokevirtual 178, 3) := by decide +kernel
theorem dX5_count_156 : decode cX5_count 156 = .ok (.ireturn, 1) := by decide +kernel
theorem dX5_count_157 : decode cX5_count 157 = .ok (.aload_n 0, 1) := by decide +kernel
theorem dX5_count_158 : decode cX5_count 158 = .ok (.getfield 12, 3) := by decide +kernel
theorem dX5_count_161 : decode cX5_count 161 = .ok (.invokevirtual 181, 3) := by decide +kernel
theorem dX5_count_164 : decode cX5_count 164 = .ok (.ireturn, 1) := by decide +kernel
theorem dX5_count_165 : decode cX5_count 165 = .ok (.aload_n 0, 1) := by decide +kernel
theorem dX5_count_166 : decode cX5_count 166 = .ok (.getfield 40, 3) := by decide +kernel
theorem dX5_count_169 : decode cX5_count 169 = .ok (.getfield 134, 3) := by decide +kernel
theorem dX5_count_172 : decode cX5_count 172 = .ok (.ireturn, 1) := by decide +kernel
theorem dX5_count_173 : decode cX5_count 173 = .ok (.aload_n 0, 1) := by decide +kernel
theorem dX5_count_174 : decode cX5_count 174 = .ok (.getfield 184, 3) := by decide +kernel
theorem dX5_count_177 : decode cX5_count 177 = .ok (.ireturn, 1) := by decide +kernel
theorem dX5_count_178 : decode cX5_count 178 = .ok (.bipush (-2), 2) := by decide +kernel
theorem dX5_count_180 : decode cX5_count 180 = .ok (.ireturn, 1) := by decide +kernel
set_option maxRecDepth 20000 in
theorem ggX5_distance_X5_isCell : GoodIn wsX5_distance wsX5_isCell := goodIn_r _ [6] (by decide +kernel) (by decide +kernel)
set_option maxRecDepth 20000 in
theorem gX5_distance_X5_isCell : GoodIn wsX5_distance (va_wsS RX5 66 yX5_isCell wsX5_isCell) := goodIn_app (goodIn_of _ (by decide +kernel)) ggX5_distance_X5_isCell
set_option maxRecDepth 20000 in
theorem ggX5_distance_X5_isDoor : GoodIn wsX5_distance wsX5_isDoor := goodIn_r _ [9] (by decide +kernel) (by decide +kernel)
set_option maxRecDepth 20000 in
theorem gX5_distance_X5_isDoor : GoodIn wsX5_distance (va_wsS RX5 86 yX5_isDoor wsX5_isDoor) := goodIn_app (goodIn_of _ (by decide +kernel)) ggX5_distance_X5_isDoor
set_option maxRecDepth 20000 in
theorem ggX5_distance_X4_find : GoodIn wsX5_distance wsX4_find := goodIn_r _ [14, 15, 16, 17, 18, 19, 13, 20, 21, 22, 23, 4, 5, 6, 24, 25, 26, 27, 28, 29, 30, 31, 32, 33, 34, 35, 36, 37, 38, 39, 40, 41, 42, 43, 44, 8, 9, 45, 46, 47, 48, 49, 50, 51, 52, 53, 54, 55, 56, 57, 58, 59, 60, 61, 62, 63, 64, 65, 66, 67, 68, 80, 81, 82, 83, 84, 85, 86, 87, 88, 89, 90, 91, 92, 93, 94, 95, 96, 97] (by decide +kernel) (by decide +kernel)
set_option maxRecDepth 20000 in
theorem gX5_distance_X4_find : GoodIn wsX5_distance (wsV RX5 111 RX4 yX4_find wsX4_find) := goodIn_app (goodIn_of _ (by decide +kernel)) ggX5_distance_X4_find
set_option maxRecDepth 20000 in
theorem ggX5_distance_X4_stepsTo : GoodIn wsX5_distance wsX4_stepsTo := goodIn_r _ [44, 21, 8, 5, 9, 4, 6, 80, 81, 82, 83, 84, 85] (by decide +kernel) (by decide +kernel)
set_option maxRecDepth 20000 in
theorem gX5_distance_X4_stepsTo : GoodIn wsX5_distance (wsV RX5 187 RX4 yX4_stepsTo wsX4_stepsTo) := goodIn_app (goodIn_of _ (by decide +kernel)) ggX5_distance_X4_stepsTo
theorem dX5_distance_0 : decode cX5_distance 0 = .ok (.iload_n 1, 1) := by decide +kernel
theorem dX5_distance_1 : decode cX5_distance 1 = .ok (.invokestatic 66, 3) := by decide +kernel
theorem dX5_distance_4 : decode cX5_distance 4 = .ok (.ifCond .eq 10, 3) := by decide +kernel
theorem dX5_distance_7 : decode cX5_distance 7 = .ok (.iload_n 2, 1) := by decide +kernel
theorem dX5_distance_8 : decode cX5_distance 8 = .ok (.invokestatic 86, 3) := by decide +kernel
theorem dX5_distance_11 : decode cX5_distance 11 = .ok (.ifCond .ne 5, 3) := by decide +kernel
theorem dX5_distance_14 : decode cX5_distance 14 = .ok (.iconst (-1), 1) := by decide +kernel
theorem dX5_distance_15 : decode cX5_distance 15 = .ok (.ireturn, 1) := by decide +kernel
theorem dX5_distance_16 : decode cX5_distance 16 = .ok (.aload_n 0, 1) := by decide +kernel
theorem dX5_distance_17 : decode cX5_distance 17 = .ok (.getfield 19, 3) := by decide +kernel
theorem dX5_distance_20 : decode cX5_distance 20 = .ok (.aload_n 0, 1) := by decide +kernel
theorem dX5_distance_21 : decode cX5_distance 21 = .ok (.getfield 12, 3) := by decide +kernel
theorem dX5_distance_24 : decode cX5_distance 24 = .ok (.invokevirtual 111, 3) := by decide +kernel
theorem dX5_distance_27 : decode cX5_distance 27 = .ok (.aload_n 0, 1) := by decide +kernel
theorem dX5_distance_28 : decode cX5_distance 28 = .ok (.getfield 19, 3) := by decide +kernel
theorem dX5_distance_31 : decode cX5_distance 31 = .ok (.iload_n 2, 1) := by decide +kernel
theorem dX5_distance_32 : decode cX5_distance 32 = .ok (.iload_n 1, 1) := by decide +kernel
theorem dX5_distance_33 : decode cX5_distance 33 = .ok (.invokevirtual 187, 3) := by decide +kernel
theorem dX5_distance_36 : decode cX5_distance 36 = .ok (.ireturn, 1) := by decide +kernel
set_option maxRecDepth 20000 in
theorem ggX5_untilOut_X0_startFrom : GoodIn wsX5_untilOut wsX0_startFrom := goodIn_r _ [7, 8, 9, 10, 11, 12, 13, 14, 15, 16, 17, 18, 19, 20, 21, 22, 23, 24, 25, 26, 27, 28, 29, 30, 31, 32, 33, 34, 35, 36, 37, 38, 39, 40, 41, 42, 43, 44, 45, 46, 47, 48, 49, 50, 51, 52, 53, 54, 55, 56, 57, 58, 59, 60, 61, 62, 63, 64, 65, 66, 67, 68, 69, 70, 71, 72, 73, 74, 75, 76, 77, 78, 79, 80, 81, 82, 83, 84, 85, 86, 87, 88, 155, 156, 157, 158, 159, 160, 161, 162, 163, 164, 165, 166, 167, 168, 169, 170, 171, 172, 173, 174, 175] (by decide +kernel) (by decide +kernel)
set_option maxRecDepth 20000 in
theorem gX5_untilOut_X0_startFrom : GoodIn wsX5_untilOut (wsV RX5 190 RX0 yX0_startFrom wsX0_startFrom) := goodIn_app (goodIn_of _ (by decide +kernel)) ggX5_untilOut_X0_startFrom
set_option maxRecDepth 20000 in
theorem ggX5_untilOut_X0_runUntilOut : GoodIn wsX5_untilOut wsX0_runUntilOut := goodIn_r _ [92, 8, 9, 93, 94, 95, 96, 13, 97, 20, 98, 99, 100, 30, 101, 102, 103, 104, 105, 32, 106, 107, 108, 109, 110, 111, 112, 113, 114, 115, 116, 117, 118, 119, 120, 121, 51, 52, 53, 122, 41, 42, 43, 123, 124, 125, 126, 87, 127, 128, 129, 130, 88, 131, 132, 133, 134, 33, 135, 136, 137, 138, 139, 140, 141, 142, 143, 144, 15, 155, 156, 157, 158, 159, 160, 161, 162, 163, 164, 165, 166, 167, 168, 169, 170, 171, 172, 173, 174, 175, 176] (by decide +kernel) (by decide +kernel)
set_option maxRecDepth 20000 in
theorem gX5_untilOut_X0_runUntilOut : GoodIn wsX5_untilOut (wsV RX5 193 RX0 yX0_runUntilOut wsX0_runUntilOut) := goodIn_app (goodIn_of _ (by decide +kernel)) ggX5_untilOut_X0_runUntilOut
theorem dX5_untilOut_0 : decode cX5_untilOut 0 = .ok (.aload_n 0, 1) := by decide +kernel
theorem dX5_untilOut_1 : decode cX5_untilOut 1 = .ok (.getfield 33, 3) := by decide +kernel
theorem dX5_untilOut_4 : decode cX5_untilOut 4 = .ok (.aload_n 0, 1) := by decide +kernel
theorem dX5_untilOut_5 : decode cX5_untilOut 5 = .ok (.getfield 12, 3) := by decide +kernel
theorem dX5_untilOut_8 : decode cX5_untilOut 8 = .ok (.invokevirtual 190, 3) := by decide +kernel
theorem dX5_untilOut_11 : decode cX5_untilOut 11 = .ok (.aload_n 0, 1) := by decide +kernel
theorem dX5_untilOut_12 : decode cX5_untilOut 12 = .ok (.getfield 33, 3) := by decide +kernel
theorem dX5_untilOut_15 : decode cX5_untilOut 15 = .ok (.invokevirtual 193, 3) := by decide +kernel
theorem dX5_untilOut_18 : decode cX5_untilOut 18 = .ok (.ireturn, 1) := by decide +kernel
set_option maxRecDepth 20000 in
theorem ggX5_ifRope_X5_isCell : GoodIn wsX5_ifRope wsX5_isCell := goodIn_r _ [6] (by decide +kernel) (by decide +kernel)
set_option maxRecDepth 20000 in
theorem gX5_ifRope_X5_isCell : GoodIn wsX5_ifRope (va_wsS RX5 66 yX5_isCell wsX5_isCell) := goodIn_app (goodIn_of _ (by decide +kernel)) ggX5_ifRope_X5_isCell
set_option maxRecDepth 20000 in
theorem ggX5_ifRope_X5_isSide : GoodIn wsX5_ifRope wsX5_isSide := goodIn_r _ [9] (by decide +kernel) (by decide +kernel)
set_option maxRecDepth 20000 in
theorem gX5_ifRope_X5_isSide : GoodIn wsX5_ifRope (va_wsS RX5 70 yX5_isSide wsX5_isSide) := goodIn_app (goodIn_of _ (by decide +kernel)) ggX5_ifRope_X5_isSide
set_option maxRecDepth 20000 in
theorem ggX5_ifRope_X5_edgeAt : GoodIn wsX5_ifRope wsX5_edgeAt := goodIn_r _ [12, 13, 14, 5, 15, 16, 17, 18, 19, 20, 21, 22] (by decide +kernel) (by decide +kernel)
set_option maxRecDepth 20000 in
theorem gX5_ifRope_X5_edgeAt : GoodIn wsX5_ifRope (va_wsS RX5 73 yX5_edgeAt wsX5_edgeAt) := goodIn_app (goodIn_of _ (by decide +kernel)) ggX5_ifRope_X5_edgeAt
set_option maxRecDepth 20000 in
theorem ggX5_ifRope_X5_isEdge : GoodIn wsX5_ifRope wsX5_isEdge := goodIn_r _ [25] (by decide +kernel) (by decide +kernel)
set_option maxRecDepth 20000 in
theorem gX5_ifRope_X5_isEdge : GoodIn wsX5_ifRope (va_wsS RX5 77 yX5_isEdge wsX5_isEdge) := goodIn_app (goodIn_of _ (by decide +kernel)) ggX5_ifRope_X5_isEdge
set_option maxRecDepth 20000 in
theorem ggX5_ifRope_X0_startWithRopeTurned : GoodIn wsX5_ifRope wsX0_startWithRopeTurned := goodIn_r _ [30, 31, 32, 33, 34, 35, 36, 37, 38, 39, 40, 41, 42, 43, 44, 45, 46, 47, 48, 49, 50, 24, 5, 25, 51, 52, 53, 54, 55, 56, 57, 58, 59, 60, 61, 62, 63, 64, 4, 6, 65, 66, 67, 68, 14, 15, 16, 17, 18, 19, 20, 21, 22, 69, 70, 71, 72, 73, 74, 75, 76, 77, 78, 79, 80, 81, 82, 83, 84, 85, 86, 87, 88, 89, 90, 91, 92, 93, 94, 95, 96, 97, 98, 181, 182, 183, 184, 185, 186, 187, 188, 189, 190, 191, 192, 193, 194, 195, 196, 197, 198, 199, 200, 201] (by decide +kernel) (by decide +kernel)
set_option maxRecDepth 20000 in
theorem gX5_ifRope_X0_startWithRopeTurned : GoodIn wsX5_ifRope (wsV RX5 196 RX0 yX0_startWithRopeTurned wsX0_startWithRopeTurned) := goodIn_app (goodIn_of _ (by decide +kernel)) ggX5_ifRope_X0_startWithRopeTurned
set_option maxRecDepth 20000 in
theorem ggX5_ifRope_X0_stranded : GoodIn wsX5_ifRope wsX0_stranded := goodIn_r _ [102, 33, 31, 103, 104, 105, 54, 106, 107, 108, 109, 110, 56, 111, 181, 182, 183, 196, 197, 198, 199, 200, 201, 184, 185, 186, 187, 188, 189, 190, 191, 192, 193, 194, 195] (by decide +kernel) (by decide +kernel)
set_option maxRecDepth 20000 in
theorem gX5_ifRope_X0_stranded : GoodIn wsX5_ifRope (wsV RX5 200 RX0 yX0_stranded wsX0_stranded) := goodIn_app (goodIn_of _ (by decide +kernel)) ggX5_ifRope_X0_stranded
set_option maxRecDepth 20000 in
theorem ggX5_ifRope_X0_runUntilOut : GoodIn wsX5_ifRope wsX0_runUntilOut := goodIn_r _ [115, 31, 33, 116, 117, 118, 119, 37, 120, 44, 103, 104, 105, 54, 106, 107, 108, 109, 110, 56, 111, 121, 122, 123, 124, 125, 126, 127, 128, 129, 130, 131, 132, 133, 134, 135, 17, 18, 19, 136, 4, 5, 6, 137, 138, 139, 140, 97, 141, 142, 143, 144, 98, 145, 146, 147, 148, 57, 149, 150, 151, 152, 153, 154, 155, 156, 157, 158, 39, 181, 182, 183, 184, 185, 186, 187, 188, 189, 190, 191, 192, 193, 194, 195, 196, 197, 198, 199, 200, 201, 202] (by decide +kernel) (by decide +kernel)
set_option maxRecDepth 20000 in
theorem gX5_ifRope_X0_runUntilOut : GoodIn wsX5_ifRope (wsV RX5 193 RX0 yX0_runUntilOut wsX0_runUntilOut) := goodIn_app (goodIn_of _ (by decide +kernel)) ggX5_ifRope_X0_runUntilOut
set_option maxRecDepth 20000 in
theorem ggX5_ifRope_X0_unevenness : GoodIn wsX5_ifRope wsX0_unevenness := goodIn_r _ [162, 31, 163, 164, 165, 37, 166, 49, 50, 167, 168, 18, 169, 170, 17, 19, 181, 182, 183, 184, 185, 186, 187, 188, 189, 190, 191, 192, 193, 194, 195] (by decide +kernel) (by decide +kernel)
set_option maxRecDepth 20000 in
theorem gX5_ifRope_X0_unevenness : GoodIn wsX5_ifRope (wsV RX5 203 RX0 yX0_unevenness wsX0_unevenness) := goodIn_app (goodIn_of _ (by decide +kernel)) ggX5_ifRope_X0_unevenness
theorem dX5_ifRope_0 : decode cX5_ifRope 0 = .ok (.iload_n 1, 1) := by decide +kernel
theorem dX5_ifRope_1 : decode cX5_ifRope 1 = .ok (.invokestatic 66, 3) := by decide +kernel
theorem dX5_ifRope_4 : decode cX5_ifRope 4 = .ok (.ifCond .ne 5, 3) := by decide +kernel
theorem dX5_ifRope_7 : decode cX5_ifRope 7 = .ok (.iconst (-1), 1) := by decide +kernel
theorem dX5_ifRope_8 : decode cX5_ifRope 8 = .ok (.ireturn, 1) := by decide +kernel
theorem dX5_ifRope_9 : decode cX5_ifRope 9 = .ok (.iload_n 2, 1) := by decide +kernel
theorem dX5_ifRope_10 : decode cX5_ifRope 10 = .ok (.invokestatic 70, 3) := by decide +kernel
theorem dX5_ifRope_13 : decode cX5_ifRope 13 = .ok (.ifCond .eq 12, 3) := by decide +kernel
theorem dX5_ifRope_16 : decode cX5_ifRope 16 = .ok (.iload_n 3, 1) := by decide +kernel
theorem dX5_ifRope_17 : decode cX5_ifRope 17 = .ok (.ifCond .lt 8, 3) := by decide +kernel
theorem dX5_ifRope_20 : decode cX5_ifRope 20 = .ok (.iload_n 3, 1) := by decide +kernel
theorem dX5_ifRope_21 : decode cX5_ifRope 21 = .ok (.iconst 2, 1) := by decide +kernel
theorem dX5_ifRope_22 : decode cX5_ifRope 22 = .ok (.if_icmp .le 6, 3) := by decide +kernel
theorem dX5_ifRope_25 : decode cX5_ifRope 25 = .ok (.bipush (-2), 2) := by decide +kernel
theorem dX5_ifRope_27 : decode cX5_ifRope 27 = .ok (.ireturn, 1) := by decide +kernel
theorem dX5_ifRope_28 : decode cX5_ifRope 28 = .ok (.iload_n 1, 1) := by decide +kernel
theorem dX5_ifRope_29 : decode cX5_ifRope 29 = .ok (.iload_n 2, 1) := by decide +kernel
theorem dX5_ifRope_30 : decode cX5_ifRope 30 = .ok (.invokestatic 73, 3) := by decide +kernel
theorem dX5_ifRope_33 : decode cX5_ifRope 33 = .ok (.istore 4, 2) := by decide +kernel
theorem dX5_ifRope_35 : decode cX5_ifRope 35 = .ok (.iload 4, 2) := by decide +kernel
theorem dX5_ifRope_37 : decode cX5_ifRope 37 = .ok (.invokestatic 77, 3) := by decide +kernel
theorem dX5_ifRope_40 : decode cX5_ifRope 40 = .ok (.ifCond .ne 6, 3) := by decide +kernel
theorem dX5_ifRope_43 : decode cX5_ifRope 43 = .ok (.bipush (-5), 2) := by decide +kernel
theorem dX5_ifRope_45 : decode cX5_ifRope 45 = .ok (.ireturn, 1) := by decide +kernel
theorem dX5_ifRope_46 : decode cX5_ifRope 46 = .ok (.aload_n 0, 1) := by decide +kernel
theorem dX5_ifRope_47 : decode cX5_ifRope 47 = .ok (.getfield 33, 3) := by decide +kernel
theorem dX5_ifRope_50 : decode cX5_ifRope 50 = .ok (.aload_n 0, 1) := by decide +kernel
theorem dX5_ifRope_51 : decode cX5_ifRope 51 = .ok (.getfield 12, 3) := by decide +kernel
theorem dX5_ifRope_54 : decode cX5_ifRope 54 = .ok (.iload 4, 2) := by decide +kernel
theorem dX5_ifRope_56 : decode cX5_ifRope 56 = .ok (.invokevirtual 196, 3) := by decide +kernel
theorem dX5_ifRope_59 : decode cX5_ifRope 59 = .ok (.iload_n 3, 1) := by decide +kernel
theorem dX5_ifRope_60 : decode cX5_ifRope 60 = .ok (.iconst 2, 1) := by decide +kernel
theorem dX5_ifRope_61 : decode cX5_ifRope 61 = .ok (.if_icmp .ne 11, 3) := by decide +kernel
theorem dX5_ifRope_64 : decode cX5_ifRope 64 = .ok (.aload_n 0, 1) := by decide +kernel
theorem dX5_ifRope_65 : decode cX5_ifRope 65 = .ok (.getfield 33, 3) := by decide +kernel
theorem dX5_ifRope_68 : decode cX5_ifRope 68 = .ok (.invokevirtual 200, 3) := by decide +kernel
theorem dX5_ifRope_71 : decode cX5_ifRope 71 = .ok (.ireturn, 1) := by decide +kernel
theorem dX5_ifRope_72 : decode cX5_ifRope 72 = .ok (.aload_n 0, 1) := by decide +kernel
theorem dX5_ifRope_73 : decode cX5_ifRope 73 = .ok (.getfield 33, 3) := by decide +kernel
theorem dX5_ifRope_76 : decode cX5_ifRope 76 = .ok (.invokevirtual 193, 3) := by decide +kernel
theorem dX5_ifRope_79 : decode cX5_ifRope 79 = .ok (.istore 5, 2) := by decide +kernel
theorem dX5_ifRope_81 : decode cX5_ifRope 81 = .ok (.iload_n 3, 1) := by decide +kernel
theorem dX5_ifRope_82 : decode cX5_ifRope 82 = .ok (.ifCond .ne 8, 3) := by decide +kernel
theorem dX5_ifRope_85 : decode cX5_ifRope 85 = .ok (.iload 5, 2) := by decide +kernel
theorem dX5_ifRope_87 : decode cX5_ifRope 87 = .ok (.goto 10, 3) := by decide +kernel
theorem dX5_ifRope_90 : decode cX5_ifRope 90 = .ok (.aload_n 0, 1) := by decide +kernel
theorem dX5_ifRope_91 : decode cX5_ifRope 91 = .ok (.getfield 33, 3) := by decide +kernel
theorem dX5_ifRope_94 : decode cX5_ifRope 94 = .ok (.invokevirtual 203, 3) := by decide +kernel
theorem dX5_ifRope_97 : decode cX5_ifRope 97 = .ok (.ireturn, 1) := by decide +kernel
set_option maxRecDepth 20000 in
theorem ggX5_bestRope_X5_strandedNow : GoodIn wsX5_bestRope wsX5_strandedNow := goodIn_r _ [7, 8, 2, 9, 10, 11, 12, 13, 14, 15, 16, 17, 18, 19, 20, 21, 22, 23, 6, 24, 25, 26, 27, 28, 29, 30, 31, 32, 33, 34, 35, 36, 37, 38, 39, 40, 41, 42, 43, 44, 45, 46, 47, 48, 49, 50, 51, 52, 53, 54, 55, 56, 57, 58, 59, 60, 61, 62, 63, 64, 65, 66, 67, 68, 69, 70, 71, 72, 73, 74, 75, 76, 77, 78, 79, 80, 179, 180, 181, 182, 183, 184, 185, 186, 187, 188, 189, 190, 191, 192, 193, 194, 195, 196, 197, 198, 199, 200, 201, 202, 203, 204, 205, 206] (by decide +kernel) (by decide +kernel)
set_option maxRecDepth 20000 in
theorem gX5_bestRope_X5_strandedNow : GoodIn wsX5_bestRope (wsV RX5 175 RX5 yX5_strandedNow wsX5_strandedNow) := goodIn_app (goodIn_of _ (by decide +kernel)) ggX5_bestRope_X5_strandedNow
set_option maxRecDepth 20000 in
theorem ggX5_bestRope_X5_canHang : GoodIn wsX5_bestRope wsX5_canHang := goodIn_r _ [84, 2, 85, 86, 40, 6, 41, 87, 88, 89, 90, 31, 32, 33, 34, 35, 36, 37, 38, 39, 179, 180, 181, 182, 183, 184, 185, 186, 187, 188, 195, 196, 197, 198, 199, 200, 201, 202, 203, 204, 205, 206] (by decide +kernel) (by decide +kernel)
set_option maxRecDepth 20000 in
theorem gX5_bestRope_X5_canHang : GoodIn wsX5_bestRope (wsV RX5 204 RX5 yX5_canHang wsX5_canHang) := goodIn_app (goodIn_of _ (by decide +kernel)) ggX5_bestRope_X5_canHang
set_option maxRecDepth 20000 in
theorem ggX5_bestRope_X0_startWithRopeTurned : GoodIn wsX5_bestRope wsX0_startWithRopeTurned := goodIn_r _ [95, 96, 97, 98, 99, 100, 101, 28, 102, 103, 104, 105, 106, 107, 108, 109, 30, 110, 111, 112, 113, 40, 6, 41, 114, 10, 11, 12, 13, 14, 15, 16, 17, 18, 19, 20, 21, 22, 23, 24, 25, 26, 27, 29, 31, 32, 33, 34, 35, 36, 37, 38, 39, 42, 43, 44, 45, 46, 47, 48, 49, 50, 51, 52, 53, 54, 55, 56, 57, 58, 59, 60, 61, 62, 63, 64, 65, 66, 67, 68, 69, 70, 71, 207, 208, 209, 195, 196, 197, 198, 199, 200, 201, 202, 203, 204, 205, 206, 189, 190, 191, 192, 193, 194] (by decide +kernel) (by decide +kernel)
set_option maxRecDepth 20000 in
theorem gX5_bestRope_X0_startWithRopeTurned : GoodIn wsX5_bestRope (wsV RX5 196 RX0 yX0_startWithRopeTurned wsX0_startWithRopeTurned) := goodIn_app (goodIn_of _ (by decide +kernel)) ggX5_bestRope_X0_startWithRopeTurned
set_option maxRecDepth 20000 in
theorem ggX5_bestRope_X0_stranded : GoodIn wsX5_bestRope wsX0_stranded := goodIn_r _ [118, 98, 96, 119, 73, 74, 12, 75, 76, 77, 78, 79, 14, 80, 207, 208, 209, 189, 190, 191, 192, 193, 194, 195, 196, 197, 198, 199, 200, 201, 202, 203, 204, 205, 206] (by decide +kernel) (by decide +kernel)
set_option maxRecDepth 20000 in
theorem gX5_bestRope_X0_stranded : GoodIn wsX5_bestRope (wsV RX5 200 RX0 yX0_stranded wsX0_stranded) := goodIn_app (goodIn_of _ (by decide +kernel)) ggX5_bestRope_X0_stranded
set_option maxRecDepth 20000 in
theorem ggX5_bestRope_X0_runUntilOut : GoodIn wsX5_bestRope wsX0_runUntilOut := goodIn_r _ [123, 96, 98, 124, 125, 126, 127, 28, 128, 108, 119, 73, 74, 12, 75, 76, 77, 78, 79, 14, 80, 129, 130, 131, 132, 133, 134, 135, 136, 137, 138, 139, 140, 141, 142, 143, 34, 35, 36, 144, 23, 6, 24, 145, 146, 147, 148, 70, 149, 150, 151, 152, 71, 153, 154, 155, 156, 15, 157, 158, 159, 160, 161, 162, 163, 164, 165, 166, 103, 207, 208, 209, 195, 196, 197, 198, 199, 200, 201, 202, 203, 204, 205, 206, 189, 190, 191, 192, 193, 194, 210] (by decide +kernel) (by decide +kernel)
set_option maxRecDepth 20000 in
theorem gX5_bestRope_X0_runUntilOut : GoodIn wsX5_bestRope (wsV RX5 193 RX0 yX0_runUntilOut wsX0_runUntilOut) := goodIn_app (goodIn_of _ (by decide +kernel)) ggX5_bestRope_X0_runUntilOut
set_option maxRecDepth 20000 in
theorem ggX5_bestRope_X0_unevenness : GoodIn wsX5_bestRope wsX0_unevenness := goodIn_r _ [170, 96, 171, 172, 173, 28, 174, 112, 113, 175, 176, 35, 177, 178, 34, 36, 207, 208, 209, 195, 196, 197, 198, 199, 200, 201, 202, 203, 204, 205, 206] (by decide +kernel) (by decide +kernel)
set_option maxRecDepth 20000 in
theorem gX5_bestRope_X0_unevenness : GoodIn wsX5_bestRope (wsV RX5 203 RX0 yX0_unevenness wsX0_unevenness) := goodIn_app (goodIn_of _ (by decide +kernel)) ggX5_bestRope_X0_unevenness
theorem dX5_bestRope_0 : decode cX5_bestRope 0 = .ok (.iload_n 1, 1) := by decide +kernel
theorem dX5_bestRope_1 : decode cX5_bestRope 1 = .ok (.ifCond .lt 8, 3) := by decide +kernel
theorem dX5_bestRope_4 : decode cX5_bestRope 4 = .ok (.iload_n 1, 1) := by decide +kernel
theorem dX5_bestRope_5 : decode cX5_bestRope 5 = .ok (.iconst 2, 1) := by decide +kernel
theorem dX5_bestRope_6 : decode cX5_bestRope 6 = .ok (.if_icmp .le 6, 3) := by decide +kernel
theorem dX5_bestRope_9 : decode cX5_bestRope 9 = .ok (.bipush (-2), 2) := by decide +kernel
theorem dX5_bestRope_11 : decode cX5_bestRope 11 = .ok (.ireturn, 1) := by decide +kernel
theorem dX5_bestRope_12 : decode cX5_bestRope 12 = .ok (.aload_n 0, 1) := by decide +kernel
theorem dX5_bestRope_13 : decode cX5_bestRope 13 = .ok (.invokevirtual 175, 3) := by decide +kernel
theorem dX5_bestRope_16 : decode cX5_bestRope 16 = .ok (.istore_n 2, 1) := by decide +kernel
theorem dX5_bestRope_17 : decode cX5_bestRope 17 = .ok (.bipush (-6), 2) := by decide +kernel
theorem dX5_bestRope_19 : decode cX5_bestRope 19 = .ok (.istore_n 3, 1) := by decide +kernel
theorem dX5_bestRope_20 : decode cX5_bestRope 20 = .ok (.bipush (-6), 2) := by decide +kernel
theorem dX5_bestRope_22 : decode cX5_bestRope 22 = .ok (.istore 4, 2) := by decide +kernel
theorem dX5_bestRope_24 : decode cX5_bestRope 24 = .ok (.bipush (-6), 2) := by decide +kernel
theorem dX5_bestRope_26 : decode cX5_bestRope 26 = .ok (.istore 5, 2) := by decide +kernel
theorem dX5_bestRope_28 : decode cX5_bestRope 28 = .ok (.iconst 0, 1) := by decide +kernel
theorem dX5_bestRope_29 : decode cX5_bestRope 29 = .ok (.istore 6, 2) := by decide +kernel
theorem dX5_bestRope_31 : decode cX5_bestRope 31 = .ok (.iload 6, 2) := by decide +kernel
theorem dX5_bestRope_33 : decode cX5_bestRope 33 = .ok (.bipush 70, 2) := by decide +kernel
theorem dX5_bestRope_35 : decode cX5_bestRope 35 = .ok (.if_icmp .ge 111, 3) := by decide +kernel
theorem dX5_bestRope_38 : decode cX5_bestRope 38 = .ok (.aload_n 0, 1) := by decide +kernel
theorem dX5_bestRope_39 : decode cX5_bestRope 39 = .ok (.iload 6, 2) := by decide +kernel
theorem dX5_bestRope_41 : decode cX5_bestRope 41 = .ok (.invokevirtual 204, 3) := by decide +kernel
theorem dX5_bestRope_44 : decode cX5_bestRope 44 = .ok (.ifCond .ne 6, 3) := by decide +kernel
theorem dX5_bestRope_47 : decode cX5_bestRope 47 = .ok (.goto 93, 3) := by decide +kernel
theorem dX5_bestRope_50 : decode cX5_bestRope 50 = .ok (.aload_n 0, 1) := by decide +kernel
theorem dX5_bestRope_51 : decode cX5_bestRope 51 = .ok (.getfield 33, 3) := by decide +kernel
theorem dX5_bestRope_54 : decode cX5_bestRope 54 = .ok (.aload_n 0, 1) := by decide +kernel
theorem dX5_bestRope_55 : decode cX5_bestRope 55 = .ok (.getfield 12, 3) := by decide +kernel
theorem dX5_bestRope_58 : decode cX5_bestRope 58 = .ok (.iload 6, 2) := by decide +kernel
theorem dX5_bestRope_60 : decode cX5_bestRope 60 = .ok (.invokevirtual 196, 3) := by decide +kernel
theorem dX5_bestRope_63 : decode cX5_bestRope 63 = .ok (.aload_n 0, 1) := by decide +kernel
theorem dX5_bestRope_64 : decode cX5_bestRope 64 = .ok (.getfield 33, 3) := by decide +kernel
theorem dX5_bestRope_67 : decode cX5_bestRope 67 = .ok (.invokevirtual 200, 3) := by decide +kernel
theorem dX5_bestRope_70 : decode cX5_bestRope 70 = .ok (.iload_n 2, 1) := by decide +kernel
theorem dX5_bestRope_71 : decode cX5_bestRope 71 = .ok (.if_icmp .le 6, 3) := by decide +kernel
theorem dX5_bestRope_74 : decode cX5_bestRope 74 = .ok (.goto 66, 3) := by decide +kernel
theorem dX5_bestRope_77 : decode cX5_bestRope 77 = .ok (.aload_n 0, 1) := by decide +kernel
theorem dX5_bestRope_78 : decode cX5_bestRope 78 = .ok (.getfield 33, 3) := by decide +kernel
theorem dX5_bestRope_81 : decode cX5_bestRope 81 = .ok (.invokevirtual 193, 3) := by decide +kernel
theorem dX5_bestRope_84 : decode cX5_bestRope 84 = .ok (.istore 7, 2) := by decide +kernel
theorem dX5_bestRope_86 : decode cX5_bestRope 86 = .ok (.aload_n 0, 1) := by decide +kernel
theorem dX5_bestRope_87 : decode cX5_bestRope 87 = .ok (.getfield 33, 3) := by decide +kernel
theorem dX5_bestRope_90 : decode cX5_bestRope 90 = .ok (.invokevirtual 203, 3) := by decide +kernel
theorem dX5_bestRope_93 : decode cX5_bestRope 93 = .ok (.istore 8, 2) := by decide +kernel
theorem dX5_bestRope_95 : decode cX5_bestRope 95 = .ok (.iload 7, 2) := by decide +kernel
theorem dX5_bestRope_97 : decode cX5_bestRope 97 = .ok (.bipush (-6), 2) := by decide +kernel
theorem dX5_bestRope_99 : decode cX5_bestRope 99 = .ok (.if_icmp .eq 41, 3) := by decide +kernel
theorem dX5_bestRope_102 : decode cX5_bestRope 102 = .ok (.iload_n 3, 1) := by decide +kernel
theorem dX5_bestRope_103 : decode cX5_bestRope 103 = .ok (.bipush (-6), 2) := by decide +kernel
theorem dX5_bestRope_105 : decode cX5_bestRope 105 = .ok (.if_icmp .eq 24, 3) := by decide +kernel
theorem dX5_bestRope_108 : decode cX5_bestRope 108 = .ok (.iload 8, 2) := by decide +kernel
theorem dX5_bestRope_110 : decode cX5_bestRope 110 = .ok (.iload 4, 2) := by decide +kernel
theorem dX5_bestRope_112 : decode cX5_bestRope 112 = .ok (.if_icmp .lt 17, 3) := by decide +kernel
theorem dX5_bestRope_115 : decode cX5_bestRope 115 = .ok (.iload 8, 2) := by decide +kernel
theorem dX5_bestRope_117 : decode cX5_bestRope 117 = .ok (.iload 4, 2) := by decide +kernel
theorem dX5_bestRope_119 : decode cX5_bestRope 119 = .ok (.if_icmp .ne 21, 3) := by decide +kernel
theorem dX5_bestRope_122 : decode cX5_bestRope 122 = .ok (.iload 7, 2) := by decide +kernel
theorem dX5_bestRope_124 : decode cX5_bestRope 124 = .ok (.iload 5, 2) := by decide +kernel
theorem dX5_bestRope_126 : decode cX5_bestRope 126 = .ok (.if_icmp .ge 14, 3) := by decide +kernel
theorem dX5_bestRope_129 : decode cX5_bestRope 129 = .ok (.iload 6, 2) := by decide +kernel
theorem dX5_bestRope_131 : decode cX5_bestRope 131 = .ok (.istore_n 3, 1) := by decide +kernel
theorem dX5_bestRope_132 : decode cX5_bestRope 132 = .ok (.iload 8, 2) := by decide +kernel
theorem dX5_bestRope_134 : decode cX5_bestRope 134 = .ok (.istore 4, 2) := by decide +kernel
theorem dX5_bestRope_136 : decode cX5_bestRope 136 = .ok (.iload 7, 2) := by decide +kernel
theorem dX5_bestRope_138 : decode cX5_bestRope 138 = .ok (.istore 5, 2) := by decide +kernel
theorem dX5_bestRope_140 : decode cX5_bestRope 140 = .ok (.iinc 6 1, 3) := by decide +kernel
theorem dX5_bestRope_143 : decode cX5_bestRope 143 = .ok (.goto (-112), 3) := by decide +kernel
theorem dX5_bestRope_146 : decode cX5_bestRope 146 = .ok (.iload_n 1, 1) := by decide +kernel
theorem dX5_bestRope_147 : decode cX5_bestRope 147 = .ok (.ifCond .ne 7, 3) := by decide +kernel
theorem dX5_bestRope_150 : decode cX5_bestRope 150 = .ok (.iload_n 3, 1) := by decide +kernel
theorem dX5_bestRope_151 : decode cX5_bestRope 151 = .ok (.goto 15, 3) := by decide +kernel
theorem dX5_bestRope_154 : decode cX5_bestRope 154 = .ok (.iload_n 1, 1) := by decide +kernel
theorem dX5_bestRope_155 : decode cX5_bestRope 155 = .ok (.iconst 1, 1) := by decide +kernel
theorem dX5_bestRope_156 : decode cX5_bestRope 156 = .ok (.if_icmp .ne 8, 3) := by decide +kernel
theorem dX5_bestRope_159 : decode cX5_bestRope 159 = .ok (.iload 4, 2) := by decide +kernel
theorem dX5_bestRope_161 : decode cX5_bestRope 161 = .ok (.goto 5, 3) := by decide +kernel
theorem dX5_bestRope_164 : decode cX5_bestRope 164 = .ok (.iload 5, 2) := by decide +kernel
theorem dX5_bestRope_166 : decode cX5_bestRope 166 = .ok (.ireturn, 1) := by decide +kernel
set_option maxRecDepth 20000 in
theorem ggX5_waiting_X0_startFrom : GoodIn wsX5_waiting wsX0_startFrom := goodIn_r _ [8, 9, 10, 11, 12, 13, 14, 15, 16, 17, 18, 19, 20, 21, 22, 23, 24, 25, 26, 27, 28, 29, 30, 31, 32, 33, 34, 35, 36, 37, 38, 39, 40, 41, 42, 43, 44, 45, 46, 47, 48, 49, 50, 51, 52, 53, 54, 55, 56, 57, 58, 59, 60, 61, 62, 63, 64, 65, 66, 67, 68, 69, 70, 71, 72, 73, 74, 75, 76, 77, 78, 79, 80, 81, 82, 83, 84, 85, 86, 87, 88, 89, 173, 174, 175, 161, 162, 163, 164, 165, 166, 167, 168, 169, 170, 171, 172, 176, 177, 178, 179, 180, 181] (by decide +kernel) (by decide +kernel)
set_option maxRecDepth 20000 in
theorem gX5_waiting_X0_startFrom : GoodIn wsX5_waiting (wsV RX5 190 RX0 yX0_startFrom wsX0_startFrom) := goodIn_app (goodIn_of _ (by decide +kernel)) ggX5_waiting_X0_startFrom
set_option maxRecDepth 20000 in
theorem ggX5_waiting_X0_runUntilOut : GoodIn wsX5_waiting wsX0_runUntilOut := goodIn_r _ [93, 9, 10, 94, 95, 96, 97, 14, 98, 21, 99, 100, 101, 31, 102, 103, 104, 105, 106, 33, 107, 108, 109, 110, 111, 112, 113, 114, 115, 116, 117, 118, 119, 120, 121, 122, 52, 53, 54, 123, 42, 43, 44, 124, 125, 126, 127, 88, 128, 129, 130, 131, 89, 132, 133, 134, 135, 34, 136, 137, 138, 139, 140, 141, 142, 143, 144, 145, 16, 173, 174, 175, 161, 162, 163, 164, 165, 166, 167, 168, 169, 170, 171, 172, 176, 177, 178, 179, 180, 181, 182] (by decide +kernel) (by decide +kernel)
set_option maxRecDepth 20000 in
theorem gX5_waiting_X0_runUntilOut : GoodIn wsX5_waiting (wsV RX5 193 RX0 yX0_runUntilOut wsX0_runUntilOut) := goodIn_app (goodIn_of _ (by decide +kernel)) ggX5_waiting_X0_runUntilOut
set_option maxRecDepth 20000 in
theorem ggX5_waiting_X0_waited : GoodIn wsX5_waiting wsX0_waited := goodIn_r _ [149, 9, 150, 173, 174, 175, 161, 162, 163, 164, 165, 166, 167, 168, 169, 170, 171, 172] (by decide +kernel) (by decide +kernel)
set_option maxRecDepth 20000 in
theorem gX5_waiting_X0_waited : GoodIn wsX5_waiting (wsV RX5 207 RX0 yX0_waited wsX0_waited) := goodIn_app (goodIn_of _ (by decide +kernel)) ggX5_waiting_X0_waited
theorem dX5_waiting_0 : decode cX5_waiting 0 = .ok (.aload_n 0, 1) := by decide +kernel
theorem dX5_waiting_1 : decode cX5_waiting 1 = .ok (.getfield 33, 3) := by decide +kernel
theorem dX5_waiting_4 : decode cX5_waiting 4 = .ok (.aload_n 0, 1) := by decide +kernel
theorem dX5_waiting_5 : decode cX5_waiting 5 = .ok (.getfield 12, 3) := by decide +kernel
theorem dX5_waiting_8 : decode cX5_waiting 8 = .ok (.invokevirtual 190, 3) := by decide +kernel
theorem dX5_waiting_11 : decode cX5_waiting 11 = .ok (.aload_n 0, 1) := by decide +kernel
theorem dX5_waiting_12 : decode cX5_waiting 12 = .ok (.getfield 33, 3) := by decide +kernel
theorem dX5_waiting_15 : decode cX5_waiting 15 = .ok (.invokevirtual 193, 3) := by decide +kernel
theorem dX5_waiting_18 : decode cX5_waiting 18 = .ok (.pop, 1) := by decide +kernel
theorem dX5_waiting_19 : decode cX5_waiting 19 = .ok (.aload_n 0, 1) := by decide +kernel
theorem dX5_waiting_20 : decode cX5_waiting 20 = .ok (.getfield 33, 3) := by decide +kernel
theorem dX5_waiting_23 : decode cX5_waiting 23 = .ok (.invokevirtual 207, 3) := by decide +kernel
theorem dX5_waiting_26 : decode cX5_waiting 26 = .ok (.aload_n 0, 1) := by decide +kernel
theorem dX5_waiting_27 : decode cX5_waiting 27 = .ok (.getfield 12, 3) := by decide +kernel
theorem dX5_waiting_30 : decode cX5_waiting 30 = .ok (.getfield 169, 3) := by decide +kernel
theorem dX5_waiting_33 : decode cX5_waiting 33 = .ok (.isub, 1) := by decide +kernel
theorem dX5_waiting_34 : decode cX5_waiting 34 = .ok (.ireturn, 1) := by decide +kernel
set_option maxRecDepth 20000 in
theorem ggX5_put_X5_charactersIn : GoodIn wsX5_put wsX5_charactersIn := goodIn_r _ [6] (by decide +kernel) (by decide +kernel)
set_option maxRecDepth 20000 in
theorem gX5_put_X5_charactersIn : GoodIn wsX5_put (va_wsS RX5 209 yX5_charactersIn wsX5_charactersIn) := goodIn_app (goodIn_of _ (by decide +kernel)) ggX5_put_X5_charactersIn
set_option maxRecDepth 20000 in
theorem ggX5_put_X3_append : GoodIn wsX5_put wsX3_append := goodIn_r _ [11, 12, 13, 24, 25] (by decide +kernel) (by decide +kernel)
set_option maxRecDepth 20000 in
theorem gX5_put_X3_append : GoodIn wsX5_put (wsV RX5 213 RX3 yX3_append wsX3_append) := goodIn_app (goodIn_of _ (by decide +kernel)) ggX5_put_X3_append
theorem dX5_put_0 : decode cX5_put 0 = .ok (.lload_n 1, 1) := by decide +kernel
theorem dX5_put_1 : decode cX5_put 1 = .ok (.invokestatic 209, 3) := by decide +kernel
theorem dX5_put_4 : decode cX5_put 4 = .ok (.istore_n 3, 1) := by decide +kernel
theorem dX5_put_5 : decode cX5_put 5 = .ok (.iload_n 3, 1) := by decide +kernel
theorem dX5_put_6 : decode cX5_put 6 = .ok (.iconst 1, 1) := by decide +kernel
theorem dX5_put_7 : decode cX5_put 7 = .ok (.if_icmp .ge 6, 3) := by decide +kernel
theorem dX5_put_10 : decode cX5_put 10 = .ok (.bipush (-2), 2) := by decide +kernel
theorem dX5_put_12 : decode cX5_put 12 = .ok (.ireturn, 1) := by decide +kernel
theorem dX5_put_13 : decode cX5_put 13 = .ok (.aload_n 0, 1) := by decide +kernel
theorem dX5_put_14 : decode cX5_put 14 = .ok (.getfield 40, 3) := by decide +kernel
theorem dX5_put_17 : decode cX5_put 17 = .ok (.getfield 134, 3) := by decide +kernel
theorem dX5_put_20 : decode cX5_put 20 = .ok (.iload_n 3, 1) := by decide +kernel
theorem dX5_put_21 : decode cX5_put 21 = .ok (.iadd, 1) := by decide +kernel
theorem dX5_put_22 : decode cX5_put 22 = .ok (.bipush 60, 2) := by decide +kernel
theorem dX5_put_24 : decode cX5_put 24 = .ok (.if_icmp .le 6, 3) := by decide +kernel
theorem dX5_put_27 : decode cX5_put 27 = .ok (.bipush (-4), 2) := by decide +kernel
theorem dX5_put_29 : decode cX5_put 29 = .ok (.ireturn, 1) := by decide +kernel
theorem dX5_put_30 : decode cX5_put 30 = .ok (.iload_n 3, 1) := by decide +kernel
theorem dX5_put_31 : decode cX5_put 31 = .ok (.iconst 1, 1) := by decide +kernel
theorem dX5_put_32 : decode cX5_put 32 = .ok (.isub, 1) := by decide +kernel
theorem dX5_put_33 : decode cX5_put 33 = .ok (.istore 4, 2) := by decide +kernel
theorem dX5_put_35 : decode cX5_put 35 = .ok (.iload 4, 2) := by decide +kernel
theorem dX5_put_37 : decode cX5_put 37 = .ok (.ifCond .lt 28, 3) := by decide +kernel
theorem dX5_put_40 : decode cX5_put 40 = .ok (.aload_n 0, 1) := by decide +kernel
theorem dX5_put_41 : decode cX5_put 41 = .ok (.getfield 40, 3) := by decide +kernel
theorem dX5_put_44 : decode cX5_put 44 = .ok (.lload_n 1, 1) := by decide +kernel
theorem dX5_put_45 : decode cX5_put 45 = .ok (.bipush 8, 2) := by decide +kernel
theorem dX5_put_47 : decode cX5_put 47 = .ok (.iload 4, 2) := by decide +kernel
theorem dX5_put_49 : decode cX5_put 49 = .ok (.imul, 1) := by decide +kernel
theorem dX5_put_50 : decode cX5_put 50 = .ok (.lushr, 1) := by decide +kernel
theorem dX5_put_51 : decode cX5_put 51 = .ok (.l2i, 1) := by decide +kernel
theorem dX5_put_52 : decode cX5_put 52 = .ok (.sipush 255, 3) := by decide +kernel
theorem dX5_put_55 : decode cX5_put 55 = .ok (.iand, 1) := by decide +kernel
theorem dX5_put_56 : decode cX5_put 56 = .ok (.invokevirtual 213, 3) := by decide +kernel
theorem dX5_put_59 : decode cX5_put 59 = .ok (.iinc 4 (-1), 3) := by decide +kernel
theorem dX5_put_62 : decode cX5_put 62 = .ok (.goto (-27), 3) := by decide +kernel
theorem dX5_put_65 : decode cX5_put 65 = .ok (.aload_n 0, 1) := by decide +kernel
theorem dX5_put_66 : decode cX5_put 66 = .ok (.getfield 40, 3) := by decide +kernel
theorem dX5_put_69 : decode cX5_put 69 = .ok (.getfield 134, 3) := by decide +kernel
theorem dX5_put_72 : decode cX5_put 72 = .ok (.ireturn, 1) := by decide +kernel
theorem dX5_wipe_0 : decode cX5_wipe 0 = .ok (.aload_n 0, 1) := by decide +kernel
theorem dX5_wipe_1 : decode cX5_wipe 1 = .ok (.getfield 40, 3) := by decide +kernel
theorem dX5_wipe_4 : decode cX5_wipe 4 = .ok (.getfield 134, 3) := by decide +kernel
theorem dX5_wipe_7 : decode cX5_wipe 7 = .ok (.istore_n 1, 1) := by decide +kernel
theorem dX5_wipe_8 : decode cX5_wipe 8 = .ok (.aload_n 0, 1) := by decide +kernel
theorem dX5_wipe_9 : decode cX5_wipe 9 = .ok (.getfield 40, 3) := by decide +kernel
theorem dX5_wipe_12 : decode cX5_wipe 12 = .ok (.iconst 0, 1) := by decide +kernel
theorem dX5_wipe_13 : decode cX5_wipe 13 = .ok (.putfield 134, 3) := by decide +kernel
theorem dX5_wipe_16 : decode cX5_wipe 16 = .ok (.iload_n 1, 1) := by decide +kernel
theorem dX5_wipe_17 : decode cX5_wipe 17 = .ok (.ireturn, 1) := by decide +kernel
set_option maxRecDepth 20000 in
theorem ggX5_fault_X3_firstFault : GoodIn wsX5_fault wsX3_firstFault := goodIn_r _ [6, 7, 8, 9, 10, 5, 11, 12, 13, 14, 15, 16, 17, 18, 29, 30] (by decide +kernel) (by decide +kernel)
set_option maxRecDepth 20000 in
theorem gX5_fault_X3_firstFault : GoodIn wsX5_fault (wsV RX5 125 RX3 yX3_firstFault wsX3_firstFault) := goodIn_app (goodIn_of _ (by decide +kernel)) ggX5_fault_X3_firstFault
theorem dX5_fault_0 : decode cX5_fault 0 = .ok (.aload_n 0, 1) := by decide +kernel
theorem dX5_fault_1 : decode cX5_fault 1 = .ok (.getfield 40, 3) := by decide +kernel
theorem dX5_fault_4 : decode cX5_fault 4 = .ok (.invokevirtual 125, 3) := by decide +kernel
theorem dX5_fault_7 : decode cX5_fault 7 = .ok (.ireturn, 1) := by decide +kernel
set_option maxRecDepth 20000 in
theorem ggX5_undo_X5_recorded : GoodIn wsX5_undo wsX5_recorded := goodIn_r _ [8, 9, 30, 31, 32, 33, 34, 35, 36, 37, 38, 39] (by decide +kernel) (by decide +kernel)
set_option maxRecDepth 20000 in
theorem gX5_undo_X5_recorded : GoodIn wsX5_undo (wsV RX5 220 RX5 yX5_recorded wsX5_recorded) := goodIn_app (goodIn_of _ (by decide +kernel)) ggX5_undo_X5_recorded
set_option maxRecDepth 20000 in
theorem ggX5_undo_X5_copyHall : GoodIn wsX5_undo wsX5_copyHall := goodIn_r _ [12, 13, 14, 15, 16, 17, 18, 19, 20, 21, 22, 23, 24, 25, 26, 27, 28, 29, 40, 41, 42, 43, 44, 45, 46, 47, 48, 49, 50, 51] (by decide +kernel) (by decide +kernel)
set_option maxRecDepth 20000 in
theorem gX5_undo_X5_copyHall : GoodIn wsX5_undo (va_wsS RX5 224 yX5_copyHall wsX5_copyHall) := goodIn_app (goodIn_of _ (by decide +kernel)) ggX5_undo_X5_copyHall
theorem dX5_undo_0 : decode cX5_undo 0 = .ok (.aload_n 0, 1) := by decide +kernel
theorem dX5_undo_1 : decode cX5_undo 1 = .ok (.getfield 184, 3) := by decide +kernel
theorem dX5_undo_4 : decode cX5_undo 4 = .ok (.iconst 1, 1) := by decide +kernel
theorem dX5_undo_5 : decode cX5_undo 5 = .ok (.if_icmp .ge 6, 3) := by decide +kernel
theorem dX5_undo_8 : decode cX5_undo 8 = .ok (.bipush (-5), 2) := by decide +kernel
theorem dX5_undo_10 : decode cX5_undo 10 = .ok (.ireturn, 1) := by decide +kernel
theorem dX5_undo_11 : decode cX5_undo 11 = .ok (.aload_n 0, 1) := by decide +kernel
theorem dX5_undo_12 : decode cX5_undo 12 = .ok (.aload_n 0, 1) := by decide +kernel
theorem dX5_undo_13 : decode cX5_undo 13 = .ok (.getfield 217, 3) := by decide +kernel
theorem dX5_undo_16 : decode cX5_undo 16 = .ok (.invokevirtual 220, 3) := by decide +kernel
theorem dX5_undo_19 : decode cX5_undo 19 = .ok (.aload_n 0, 1) := by decide +kernel
theorem dX5_undo_20 : decode cX5_undo 20 = .ok (.getfield 12, 3) := by decide +kernel
theorem dX5_undo_23 : decode cX5_undo 23 = .ok (.invokestatic 224, 3) := by decide +kernel
theorem dX5_undo_26 : decode cX5_undo 26 = .ok (.aload_n 0, 1) := by decide +kernel
theorem dX5_undo_27 : decode cX5_undo 27 = .ok (.aload_n 0, 1) := by decide +kernel
theorem dX5_undo_28 : decode cX5_undo 28 = .ok (.getfield 217, 3) := by decide +kernel
theorem dX5_undo_31 : decode cX5_undo 31 = .ok (.bipush 6, 2) := by decide +kernel
theorem dX5_undo_33 : decode cX5_undo 33 = .ok (.iadd, 1) := by decide +kernel
theorem dX5_undo_34 : decode cX5_undo 34 = .ok (.iconst 1, 1) := by decide +kernel
theorem dX5_undo_35 : decode cX5_undo 35 = .ok (.isub, 1) := by decide +kernel
theorem dX5_undo_36 : decode cX5_undo 36 = .ok (.bipush 6, 2) := by decide +kernel
theorem dX5_undo_38 : decode cX5_undo 38 = .ok (.irem, 1) := by decide +kernel
theorem dX5_undo_39 : decode cX5_undo 39 = .ok (.putfield 217, 3) := by decide +kernel
theorem dX5_undo_42 : decode cX5_undo 42 = .ok (.aload_n 0, 1) := by decide +kernel
theorem dX5_undo_43 : decode cX5_undo 43 = .ok (.dup, 1) := by decide +kernel
theorem dX5_undo_44 : decode cX5_undo 44 = .ok (.getfield 184, 3) := by decide +kernel
theorem dX5_undo_47 : decode cX5_undo 47 = .ok (.iconst 1, 1) := by decide +kernel
theorem dX5_undo_48 : decode cX5_undo 48 = .ok (.isub, 1) := by decide +kernel
theorem dX5_undo_49 : decode cX5_undo 49 = .ok (.putfield 184, 3) := by decide +kernel
theorem dX5_undo_52 : decode cX5_undo 52 = .ok (.aload_n 0, 1) := by decide +kernel
theorem dX5_undo_53 : decode cX5_undo 53 = .ok (.getfield 184, 3) := by decide +kernel
theorem dX5_undo_56 : decode cX5_undo 56 = .ok (.ireturn, 1) := by decide +kernel
set_option maxRecDepth 20000 in
theorem ggX5_save_X5_copyHall : GoodIn wsX5_save wsX5_copyHall := goodIn_r _ [7, 8, 9, 10, 11, 12, 13, 14, 15, 16, 17, 18, 19, 20, 21, 22, 23, 24, 39, 40, 41, 42, 43, 44, 45, 46, 47, 48, 49, 50] (by decide +kernel) (by decide +kernel)
set_option maxRecDepth 20000 in
theorem gX5_save_X5_copyHall : GoodIn wsX5_save (va_wsS RX5 224 yX5_copyHall wsX5_copyHall) := goodIn_app (goodIn_of _ (by decide +kernel)) ggX5_save_X5_copyHall
set_option maxRecDepth 20000 in
theorem ggX5_save_X1_peopleInside : GoodIn wsX5_save wsX1_peopleInside := goodIn_r _ [28, 18, 39, 40, 41, 42, 43, 44, 45, 46, 47, 48, 49, 50] (by decide +kernel) (by decide +kernel)
set_option maxRecDepth 20000 in
theorem gX5_save_X1_peopleInside : GoodIn wsX5_save (wsV RX5 163 RX1 yX1_peopleInside wsX1_peopleInside) := goodIn_app (goodIn_of _ (by decide +kernel)) ggX5_save_X1_peopleInside
theorem dX5_save_0 : decode cX5_save 0 = .ok (.iload_n 1, 1) := by decide +kernel
theorem dX5_save_1 : decode cX5_save 1 = .ok (.ifCond .lt 8, 3) := by decide +kernel
theorem dX5_save_4 : decode cX5_save 4 = .ok (.iload_n 1, 1) := by decide +kernel
theorem dX5_save_5 : decode cX5_save 5 = .ok (.iconst 2, 1) := by decide +kernel
theorem dX5_save_6 : decode cX5_save 6 = .ok (.if_icmp .lt 6, 3) := by decide +kernel
theorem dX5_save_9 : decode cX5_save 9 = .ok (.bipush (-2), 2) := by decide +kernel
theorem dX5_save_11 : decode cX5_save 11 = .ok (.ireturn, 1) := by decide +kernel
theorem dX5_save_12 : decode cX5_save 12 = .ok (.aload_n 0, 1) := by decide +kernel
theorem dX5_save_13 : decode cX5_save 13 = .ok (.getfield 12, 3) := by decide +kernel
theorem dX5_save_16 : decode cX5_save 16 = .ok (.aload_n 0, 1) := by decide +kernel
theorem dX5_save_17 : decode cX5_save 17 = .ok (.getfield 48, 3) := by decide +kernel
theorem dX5_save_20 : decode cX5_save 20 = .ok (.iload_n 1, 1) := by decide +kernel
theorem dX5_save_21 : decode cX5_save 21 = .ok (.aaload, 1) := by decide +kernel
theorem dX5_save_22 : decode cX5_save 22 = .ok (.invokestatic 224, 3) := by decide +kernel
theorem dX5_save_25 : decode cX5_save 25 = .ok (.aload_n 0, 1) := by decide +kernel
theorem dX5_save_26 : decode cX5_save 26 = .ok (.getfield 51, 3) := by decide +kernel
theorem dX5_save_29 : decode cX5_save 29 = .ok (.iload_n 1, 1) := by decide +kernel
theorem dX5_save_30 : decode cX5_save 30 = .ok (.iconst 1, 1) := by decide +kernel
theorem dX5_save_31 : decode cX5_save 31 = .ok (.bastore, 1) := by decide +kernel
theorem dX5_save_32 : decode cX5_save 32 = .ok (.aload_n 0, 1) := by decide +kernel
theorem dX5_save_33 : decode cX5_save 33 = .ok (.getfield 12, 3) := by decide +kernel
theorem dX5_save_36 : decode cX5_save 36 = .ok (.invokevirtual 163, 3) := by decide +kernel
theorem dX5_save_39 : decode cX5_save 39 = .ok (.ireturn, 1) := by decide +kernel
set_option maxRecDepth 20000 in
theorem ggX5_restore_X5_remember : GoodIn wsX5_restore wsX5_remember := goodIn_r _ [8, 9, 3, 10, 11, 12, 13, 14, 15, 16, 17, 7, 18, 19, 20, 21, 22, 23, 24, 25, 26, 27, 28, 29, 30, 31, 32, 33, 34, 35, 36, 37, 38, 39, 44, 45, 46, 47, 48, 49, 50, 51, 52, 53, 54, 55, 56, 57, 58, 59, 60, 61, 62, 63, 64, 65] (by decide +kernel) (by decide +kernel)
set_option maxRecDepth 20000 in
theorem gX5_restore_X5_remember : GoodIn wsX5_restore (wsV RX5 59 RX5 yX5_remember wsX5_remember) := goodIn_app (goodIn_of _ (by decide +kernel)) ggX5_restore_X5_remember
set_option maxRecDepth 20000 in
theorem ggX5_restore_X5_copyHall : GoodIn wsX5_restore wsX5_copyHall := goodIn_r _ [22, 23, 24, 25, 26, 27, 28, 29, 30, 31, 32, 33, 34, 35, 36, 37, 38, 39, 54, 55, 56, 57, 58, 59, 60, 61, 62, 63, 64, 65] (by decide +kernel) (by decide +kernel)
set_option maxRecDepth 20000 in
theorem gX5_restore_X5_copyHall : GoodIn wsX5_restore (va_wsS RX5 224 yX5_copyHall wsX5_copyHall) := goodIn_app (goodIn_of _ (by decide +kernel)) ggX5_restore_X5_copyHall
set_option maxRecDepth 20000 in
theorem ggX5_restore_X1_peopleInside : GoodIn wsX5_restore wsX1_peopleInside := goodIn_r _ [43, 33, 54, 55, 56, 57, 58, 59, 60, 61, 62, 63, 64, 65] (by decide +kernel) (by decide +kernel)
set_option maxRecDepth 20000 in
theorem gX5_restore_X1_peopleInside : GoodIn wsX5_restore (wsV RX5 163 RX1 yX1_peopleInside wsX1_peopleInside) := goodIn_app (goodIn_of _ (by decide +kernel)) ggX5_restore_X1_peopleInside
theorem dX5_restore_0 : decode cX5_restore 0 = .ok (.iload_n 1, 1) := by decide +kernel
theorem dX5_restore_1 : decode cX5_restore 1 = .ok (.ifCond .lt 8, 3) := by decide +kernel
theorem dX5_restore_4 : decode cX5_restore 4 = .ok (.iload_n 1, 1) := by decide +kernel
theorem dX5_restore_5 : decode cX5_restore 5 = .ok (.iconst 2, 1) := by decide +kernel
theorem dX5_restore_6 : decode cX5_restore 6 = .ok (.if_icmp .lt 6, 3) := by decide +kernel
theorem dX5_restore_9 : decode cX5_restore 9 = .ok (.bipush (-2), 2) := by decide +kernel
theorem dX5_restore_11 : decode cX5_restore 11 = .ok (.ireturn, 1) := by decide +kernel
theorem dX5_restore_12 : decode cX5_restore 12 = .ok (.aload_n 0, 1) := by decide +kernel
theorem dX5_restore_13 : decode cX5_restore 13 = .ok (.getfield 51, 3) := by decide +kernel
theorem dX5_restore_16 : decode cX5_restore 16 = .ok (.iload_n 1, 1) := by decide +kernel
theorem dX5_restore_17 : decode cX5_restore 17 = .ok (.baload, 1) := by decide +kernel
theorem dX5_restore_18 : decode cX5_restore 18 = .ok (.ifCond .ne 6, 3) := by decide +kernel
theorem dX5_restore_21 : decode cX5_restore 21 = .ok (.bipush (-5), 2) := by decide +kernel
theorem dX5_restore_23 : decode cX5_restore 23 = .ok (.ireturn, 1) := by decide +kernel
theorem dX5_restore_24 : decode cX5_restore 24 = .ok (.aload_n 0, 1) := by decide +kernel
theorem dX5_restore_25 : decode cX5_restore 25 = .ok (.invokevirtual 59, 3) := by decide +kernel
theorem dX5_restore_28 : decode cX5_restore 28 = .ok (.aload_n 0, 1) := by decide +kernel
theorem dX5_restore_29 : decode cX5_restore 29 = .ok (.getfield 48, 3) := by decide +kernel
theorem dX5_restore_32 : decode cX5_restore 32 = .ok (.iload_n 1, 1) := by decide +kernel
theorem dX5_restore_33 : decode cX5_restore 33 = .ok (.aaload, 1) := by decide +kernel
theorem dX5_restore_34 : decode cX5_restore 34 = .ok (.aload_n 0, 1) := by decide +kernel
theorem dX5_restore_35 : decode cX5_restore 35 = .ok (.getfield 12, 3) := by decide +kernel
theorem dX5_restore_38 : decode cX5_restore 38 = .ok (.invokestatic 224, 3) := by decide +kernel
theorem dX5_restore_41 : decode cX5_restore 41 = .ok (.aload_n 0, 1) := by decide +kernel
theorem dX5_restore_42 : decode cX5_restore 42 = .ok (.getfield 12, 3) := by decide +kernel
theorem dX5_restore_45 : decode cX5_restore 45 = .ok (.invokevirtual 163, 3) := by decide +kernel
theorem dX5_restore_48 : decode cX5_restore 48 = .ok (.ireturn, 1) := by decide +kernel
set_option maxRecDepth 20000 in
theorem ggX5_remember_X5_recorded : GoodIn wsX5_remember wsX5_recorded := goodIn_r _ [12, 13, 34, 35, 36, 37, 38, 39, 40, 41, 42, 43] (by decide +kernel) (by decide +kernel)
set_option maxRecDepth 20000 in
theorem gX5_remember_X5_recorded : GoodIn wsX5_remember (wsV RX5 220 RX5 yX5_recorded wsX5_recorded) := goodIn_app (goodIn_of _ (by decide +kernel)) ggX5_remember_X5_recorded
set_option maxRecDepth 20000 in
theorem ggX5_remember_X5_copyHall : GoodIn wsX5_remember wsX5_copyHall := goodIn_r _ [16, 17, 18, 19, 20, 21, 22, 23, 24, 25, 26, 27, 28, 29, 30, 31, 32, 33, 44, 45, 46, 47, 48, 49, 50, 51, 52, 53, 54, 55] (by decide +kernel) (by decide +kernel)
set_option maxRecDepth 20000 in
theorem gX5_remember_X5_copyHall : GoodIn wsX5_remember (va_wsS RX5 224 yX5_copyHall wsX5_copyHall) := goodIn_app (goodIn_of _ (by decide +kernel)) ggX5_remember_X5_copyHall
theorem dX5_remember_0 : decode cX5_remember 0 = .ok (.aload_n 0, 1) := by decide +kernel
theorem dX5_remember_1 : decode cX5_remember 1 = .ok (.aload_n 0, 1) := by decide +kernel
theorem dX5_remember_2 : decode cX5_remember 2 = .ok (.getfield 217, 3) := by decide +kernel
theorem dX5_remember_5 : decode cX5_remember 5 = .ok (.iconst 1, 1) := by decide +kernel
theorem dX5_remember_6 : decode cX5_remember 6 = .ok (.iadd, 1) := by decide +kernel
theorem dX5_remember_7 : decode cX5_remember 7 = .ok (.bipush 6, 2) := by decide +kernel
theorem dX5_remember_9 : decode cX5_remember 9 = .ok (.irem, 1) := by decide +kernel
theorem dX5_remember_10 : decode cX5_remember 10 = .ok (.putfield 217, 3) := by decide +kernel
theorem dX5_remember_13 : decode cX5_remember 13 = .ok (.aload_n 0, 1) := by decide +kernel
theorem dX5_remember_14 : decode cX5_remember 14 = .ok (.getfield 12, 3) := by decide +kernel
theorem dX5_remember_17 : decode cX5_remember 17 = .ok (.aload_n 0, 1) := by decide +kernel
theorem dX5_remember_18 : decode cX5_remember 18 = .ok (.aload_n 0, 1) := by decide +kernel
theorem dX5_remember_19 : decode cX5_remember 19 = .ok (.getfield 217, 3) := by decide +kernel
theorem dX5_remember_22 : decode cX5_remember 22 = .ok (.invokevirtual 220, 3) := by decide +kernel
theorem dX5_remember_25 : decode cX5_remember 25 = .ok (.invokestatic 224, 3) := by decide +kernel
theorem dX5_remember_28 : decode cX5_remember 28 = .ok (.aload_n 0, 1) := by decide +kernel
theorem dX5_remember_29 : decode cX5_remember 29 = .ok (.aload_n 0, 1) := by decide +kernel
theorem dX5_remember_30 : decode cX5_remember 30 = .ok (.getfield 184, 3) := by decide +kernel
theorem dX5_remember_33 : decode cX5_remember 33 = .ok (.iconst 1, 1) := by decide +kernel
theorem dX5_remember_34 : decode cX5_remember 34 = .ok (.iadd, 1) := by decide +kernel
theorem dX5_remember_35 : decode cX5_remember 35 = .ok (.bipush 6, 2) := by decide +kernel
theorem dX5_remember_37 : decode cX5_remember 37 = .ok (.invokestatic 228, 3) := by decide +kernel
theorem dX5_remember_40 : decode cX5_remember 40 = .ok (.putfield 184, 3) := by decide +kernel
theorem dX5_remember_43 : decode cX5_remember 43 = .ok (.return_, 1) := by decide +kernel
theorem dX5_recorded_0 : decode cX5_recorded 0 = .ok (.iload_n 1, 1) := by decide +kernel
theorem dX5_recorded_1 : decode cX5_recorded 1 = .ok (.ifCond .lt 18, 3) := by decide +kernel
theorem dX5_recorded_4 : decode cX5_recorded 4 = .ok (.iload_n 1, 1) := by decide +kernel
theorem dX5_recorded_5 : decode cX5_recorded 5 = .ok (.bipush 6, 2) := by decide +kernel
theorem dX5_recorded_7 : decode cX5_recorded 7 = .ok (.if_icmp .ge 12, 3) := by decide +kernel
theorem dX5_recorded_10 : decode cX5_recorded 10 = .ok (.aload_n 0, 1) := by decide +kernel
theorem dX5_recorded_11 : decode cX5_recorded 11 = .ok (.getfield 44, 3) := by decide +kernel
theorem dX5_recorded_14 : decode cX5_recorded 14 = .ok (.iload_n 1, 1) := by decide +kernel
theorem dX5_recorded_15 : decode cX5_recorded 15 = .ok (.aaload, 1) := by decide +kernel
theorem dX5_recorded_16 : decode cX5_recorded 16 = .ok (.goto 4, 3) := by decide +kernel
theorem dX5_recorded_19 : decode cX5_recorded 19 = .ok (.aconst_null, 1) := by decide +kernel
theorem dX5_recorded_20 : decode cX5_recorded 20 = .ok (.areturn, 1) := by decide +kernel
set_option maxRecDepth 20000 in
theorem ggX5_strandedNow_X4_find : GoodIn wsX5_strandedNow wsX4_find := goodIn_r _ [7, 8, 9, 10, 11, 12, 6, 13, 14, 15, 16, 17, 18, 19, 20, 21, 22, 23, 24, 25, 26, 27, 28, 29, 30, 31, 32, 33, 34, 35, 36, 37, 38, 39, 40, 41, 42, 43, 44, 45, 46, 47, 48, 49, 50, 51, 52, 53, 54, 55, 56, 57, 58, 59, 60, 61, 62, 63, 64, 65, 66, 86, 87, 88, 89, 90, 91, 92, 93, 94, 95, 96, 97, 98, 99, 100, 101, 102, 103] (by decide +kernel) (by decide +kernel)
set_option maxRecDepth 20000 in
theorem gX5_strandedNow_X4_find : GoodIn wsX5_strandedNow (wsV RX5 111 RX4 yX4_find wsX4_find) := goodIn_app (goodIn_of _ (by decide +kernel)) ggX5_strandedNow_X4_find
set_option maxRecDepth 20000 in
theorem ggX5_strandedNow_X4_stranded : GoodIn wsX5_strandedNow wsX4_stranded := goodIn_r _ [70, 71, 72, 73, 6, 74, 8, 75, 86, 87, 88, 89, 90, 91, 92, 93, 94, 95, 96, 97, 98, 99, 100, 101, 102, 103] (by decide +kernel) (by decide +kernel)
set_option maxRecDepth 20000 in
theorem gX5_strandedNow_X4_stranded : GoodIn wsX5_strandedNow (wsV RX5 233 RX4 yX4_stranded wsX4_stranded) := goodIn_app (goodIn_of _ (by decide +kernel)) ggX5_strandedNow_X4_stranded
theorem dX5_strandedNow_0 : decode cX5_strandedNow 0 = .ok (.aload_n 0, 1) := by decide +kernel
