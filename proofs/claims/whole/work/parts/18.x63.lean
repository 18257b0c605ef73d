theorem dX6_bestRope_215 : decode cX6_bestRope 215 = .ok (.if_icmp .ne 8, 3) := by decide +kernel
theorem dX6_bestRope_218 : decode cX6_bestRope 218 = .ok (.bipush (-6), 2) := by decide +kernel
theorem dX6_bestRope_220 : decode cX6_bestRope 220 = .ok (.goto 23, 3) := by decide +kernel
theorem dX6_bestRope_223 : decode cX6_bestRope 223 = .ok (.iload_n 1, 1) := by decide +kernel
theorem dX6_bestRope_224 : decode cX6_bestRope 224 = .ok (.ifCond .ne 7, 3) := by decide +kernel
theorem dX6_bestRope_227 : decode cX6_bestRope 227 = .ok (.iload_n 3, 1) := by decide +kernel
theorem dX6_bestRope_228 : decode cX6_bestRope 228 = .ok (.goto 15, 3) := by decide +kernel
theorem dX6_bestRope_231 : decode cX6_bestRope 231 = .ok (.iload_n 1, 1) := by decide +kernel
theorem dX6_bestRope_232 : decode cX6_bestRope 232 = .ok (.iconst 1, 1) := by decide +kernel
theorem dX6_bestRope_233 : decode cX6_bestRope 233 = .ok (.if_icmp .ne 8, 3) := by decide +kernel
theorem dX6_bestRope_236 : decode cX6_bestRope 236 = .ok (.iload 4, 2) := by decide +kernel
theorem dX6_bestRope_238 : decode cX6_bestRope 238 = .ok (.goto 5, 3) := by decide +kernel
theorem dX6_bestRope_241 : decode cX6_bestRope 241 = .ok (.iload 5, 2) := by decide +kernel
theorem dX6_bestRope_243 : decode cX6_bestRope 243 = .ok (.ireturn, 1) := by decide +kernel
set_option maxRecDepth 20000 in
theorem ggX6_waiting_X6_putAside : GoodIn wsX6_waiting wsX6_putAside := goodIn_r _ [6, 7, 1, 71, 72, 73, 74, 75, 76, 77, 78, 79, 80, 81, 82, 83, 84, 85, 86] (by decide +kernel) (by decide +kernel)
set_option maxRecDepth 20000 in
theorem gX6_waiting_X6_putAside : GoodIn wsX6_waiting (wsV RX6 146 RX6 yX6_putAside wsX6_putAside) := goodIn_app (goodIn_of _ (by decide +kernel)) ggX6_waiting_X6_putAside
set_option maxRecDepth 20000 in
theorem ggX6_waiting_X6_layWays : GoodIn wsX6_waiting wsX6_layWays := goodIn_r _ [11, 12, 13, 14, 15, 16, 17, 18, 5, 19, 1, 20, 21, 22, 23, 24, 25, 26, 27, 28, 29, 30, 31, 32, 33, 34, 35, 36, 37, 38, 39, 40, 41, 71, 72, 73, 74, 75, 76, 77, 78, 79, 80, 81, 82, 83, 84, 85, 86] (by decide +kernel) (by decide +kernel)
set_option maxRecDepth 20000 in
theorem gX6_waiting_X6_layWays : GoodIn wsX6_waiting (wsV RX6 118 RX6 yX6_layWays wsX6_layWays) := goodIn_app (goodIn_of _ (by decide +kernel)) ggX6_waiting_X6_layWays
set_option maxRecDepth 20000 in
theorem ggX6_waiting_X6_emptied : GoodIn wsX6_waiting wsX6_emptied := goodIn_r _ [45, 46, 47, 48, 5, 49, 1, 50, 51, 52, 53, 12, 54, 55, 56, 57, 58, 13, 59, 60, 61, 62, 63, 64, 65, 66, 15, 71, 72, 73, 74, 75, 76, 77, 78, 79, 80, 81, 82, 83, 84, 85, 86] (by decide +kernel) (by decide +kernel)
set_option maxRecDepth 20000 in
theorem gX6_waiting_X6_emptied : GoodIn wsX6_waiting (wsV RX6 149 RX6 yX6_emptied wsX6_emptied) := goodIn_app (goodIn_of _ (by decide +kernel)) ggX6_waiting_X6_emptied
set_option maxRecDepth 20000 in
theorem ggX6_waiting_X6_putBack : GoodIn wsX6_waiting wsX6_putBack := goodIn_r _ [70, 1, 7, 71, 72, 73, 74, 75, 76, 77, 78, 79, 80, 81, 82, 83, 84, 85, 86] (by decide +kernel) (by decide +kernel)
set_option maxRecDepth 20000 in
theorem gX6_waiting_X6_putBack : GoodIn wsX6_waiting (wsV RX6 152 RX6 yX6_putBack wsX6_putBack) := goodIn_app (goodIn_of _ (by decide +kernel)) ggX6_waiting_X6_putBack
theorem dX6_waiting_0 : decode cX6_waiting 0 = .ok (.aload_n 0, 1) := by decide +kernel
theorem dX6_waiting_1 : decode cX6_waiting 1 = .ok (.invokevirtual 146, 3) := by decide +kernel
theorem dX6_waiting_4 : decode cX6_waiting 4 = .ok (.aload_n 0, 1) := by decide +kernel
theorem dX6_waiting_5 : decode cX6_waiting 5 = .ok (.invokevirtual 118, 3) := by decide +kernel
theorem dX6_waiting_8 : decode cX6_waiting 8 = .ok (.aload_n 0, 1) := by decide +kernel
theorem dX6_waiting_9 : decode cX6_waiting 9 = .ok (.getfield 7, 3) := by decide +kernel
theorem dX6_waiting_12 : decode cX6_waiting 12 = .ok (.iconst 3, 1) := by decide +kernel
theorem dX6_waiting_13 : decode cX6_waiting 13 = .ok (.iaload, 1) := by decide +kernel
theorem dX6_waiting_14 : decode cX6_waiting 14 = .ok (.istore_n 1, 1) := by decide +kernel
theorem dX6_waiting_15 : decode cX6_waiting 15 = .ok (.aload_n 0, 1) := by decide +kernel
theorem dX6_waiting_16 : decode cX6_waiting 16 = .ok (.invokevirtual 149, 3) := by decide +kernel
theorem dX6_waiting_19 : decode cX6_waiting 19 = .ok (.istore_n 2, 1) := by decide +kernel
theorem dX6_waiting_20 : decode cX6_waiting 20 = .ok (.aload_n 0, 1) := by decide +kernel
theorem dX6_waiting_21 : decode cX6_waiting 21 = .ok (.getfield 7, 3) := by decide +kernel
theorem dX6_waiting_24 : decode cX6_waiting 24 = .ok (.iconst 3, 1) := by decide +kernel
theorem dX6_waiting_25 : decode cX6_waiting 25 = .ok (.iaload, 1) := by decide +kernel
theorem dX6_waiting_26 : decode cX6_waiting 26 = .ok (.iload_n 1, 1) := by decide +kernel
theorem dX6_waiting_27 : decode cX6_waiting 27 = .ok (.isub, 1) := by decide +kernel
theorem dX6_waiting_28 : decode cX6_waiting 28 = .ok (.istore_n 3, 1) := by decide +kernel
theorem dX6_waiting_29 : decode cX6_waiting 29 = .ok (.aload_n 0, 1) := by decide +kernel
theorem dX6_waiting_30 : decode cX6_waiting 30 = .ok (.invokevirtual 152, 3) := by decide +kernel
theorem dX6_waiting_33 : decode cX6_waiting 33 = .ok (.iload_n 3, 1) := by decide +kernel
theorem dX6_waiting_34 : decode cX6_waiting 34 = .ok (.ireturn, 1) := by decide +kernel
set_option maxRecDepth 20000 in
theorem ggX6_put_X6_in : GoodIn wsX6_put wsX6_in := goodIn_r _ [7] (by decide +kernel) (by decide +kernel)
set_option maxRecDepth 20000 in
theorem gX6_put_X6_in : GoodIn wsX6_put (va_wsS RX6 47 yX6_in wsX6_in) := goodIn_app (goodIn_of _ (by decide +kernel)) ggX6_put_X6_in
theorem dX6_put_0 : decode cX6_put 0 = .ok (.iconst 0, 1) := by decide +kernel
theorem dX6_put_1 : decode cX6_put 1 = .ok (.istore_n 3, 1) := by decide +kernel
theorem dX6_put_2 : decode cX6_put 2 = .ok (.iconst 0, 1) := by decide +kernel
theorem dX6_put_3 : decode cX6_put 3 = .ok (.istore 4, 2) := by decide +kernel
theorem dX6_put_5 : decode cX6_put 5 = .ok (.iconst 0, 1) := by decide +kernel
theorem dX6_put_6 : decode cX6_put 6 = .ok (.istore 5, 2) := by decide +kernel
theorem dX6_put_8 : decode cX6_put 8 = .ok (.iload 5, 2) := by decide +kernel
theorem dX6_put_10 : decode cX6_put 10 = .ok (.bipush 8, 2) := by decide +kernel
theorem dX6_put_12 : decode cX6_put 12 = .ok (.if_icmp .ge 89, 3) := by decide +kernel
theorem dX6_put_15 : decode cX6_put 15 = .ok (.lload_n 1, 1) := by decide +kernel
theorem dX6_put_16 : decode cX6_put 16 = .ok (.bipush 8, 2) := by decide +kernel
theorem dX6_put_18 : decode cX6_put 18 = .ok (.iload 5, 2) := by decide +kernel
theorem dX6_put_20 : decode cX6_put 20 = .ok (.imul, 1) := by decide +kernel
theorem dX6_put_21 : decode cX6_put 21 = .ok (.lushr, 1) := by decide +kernel
theorem dX6_put_22 : decode cX6_put 22 = .ok (.ldc2_w 159, 3) := by decide +kernel
theorem dX6_put_25 : decode cX6_put 25 = .ok (.land, 1) := by decide +kernel
theorem dX6_put_26 : decode cX6_put 26 = .ok (.l2i, 1) := by decide +kernel
theorem dX6_put_27 : decode cX6_put 27 = .ok (.istore 6, 2) := by decide +kernel
theorem dX6_put_29 : decode cX6_put 29 = .ok (.iload 5, 2) := by decide +kernel
theorem dX6_put_31 : decode cX6_put 31 = .ok (.ifCond .le 19, 3) := by decide +kernel
theorem dX6_put_34 : decode cX6_put 34 = .ok (.lload_n 1, 1) := by decide +kernel
theorem dX6_put_35 : decode cX6_put 35 = .ok (.bipush 8, 2) := by decide +kernel
theorem dX6_put_37 : decode cX6_put 37 = .ok (.iload 5, 2) := by decide +kernel
theorem dX6_put_39 : decode cX6_put 39 = .ok (.imul, 1) := by decide +kernel
theorem dX6_put_40 : decode cX6_put 40 = .ok (.lushr, 1) := by decide +kernel
theorem dX6_put_41 : decode cX6_put 41 = .ok (.lconst 0, 1) := by decide +kernel
theorem dX6_put_42 : decode cX6_put 42 = .ok (.lcmp, 1) := by decide +kernel
theorem dX6_put_43 : decode cX6_put 43 = .ok (.ifCond .ne 7, 3) := by decide +kernel
theorem dX6_put_46 : decode cX6_put 46 = .ok (.iconst 1, 1) := by decide +kernel
theorem dX6_put_47 : decode cX6_put 47 = .ok (.goto 4, 3) := by decide +kernel
theorem dX6_put_50 : decode cX6_put 50 = .ok (.iconst 0, 1) := by decide +kernel
theorem dX6_put_51 : decode cX6_put 51 = .ok (.istore 7, 2) := by decide +kernel
theorem dX6_put_53 : decode cX6_put 53 = .ok (.iload 4, 2) := by decide +kernel
theorem dX6_put_55 : decode cX6_put 55 = .ok (.ifCond .ne 20, 3) := by decide +kernel
theorem dX6_put_58 : decode cX6_put 58 = .ok (.iload 7, 2) := by decide +kernel
theorem dX6_put_60 : decode cX6_put 60 = .ok (.ifCond .ne 19, 3) := by decide +kernel
theorem dX6_put_63 : decode cX6_put 63 = .ok (.iload 6, 2) := by decide +kernel
theorem dX6_put_65 : decode cX6_put 65 = .ok (.bipush 33, 2) := by decide +kernel
theorem dX6_put_67 : decode cX6_put 67 = .ok (.bipush 126, 2) := by decide +kernel
theorem dX6_put_69 : decode cX6_put 69 = .ok (.invokestatic 47, 3) := by decide +kernel
theorem dX6_put_72 : decode cX6_put 72 = .ok (.ifCond .ne 7, 3) := by decide +kernel
theorem dX6_put_75 : decode cX6_put 75 = .ok (.iconst 1, 1) := by decide +kernel
theorem dX6_put_76 : decode cX6_put 76 = .ok (.goto 4, 3) := by decide +kernel
theorem dX6_put_79 : decode cX6_put 79 = .ok (.iconst 0, 1) := by decide +kernel
theorem dX6_put_80 : decode cX6_put 80 = .ok (.istore 4, 2) := by decide +kernel
theorem dX6_put_82 : decode cX6_put 82 = .ok (.iload_n 3, 1) := by decide +kernel
theorem dX6_put_83 : decode cX6_put 83 = .ok (.iload 7, 2) := by decide +kernel
theorem dX6_put_85 : decode cX6_put 85 = .ok (.ifCond .eq 7, 3) := by decide +kernel
theorem dX6_put_88 : decode cX6_put 88 = .ok (.iconst 0, 1) := by decide +kernel
theorem dX6_put_89 : decode cX6_put 89 = .ok (.goto 4, 3) := by decide +kernel
theorem dX6_put_92 : decode cX6_put 92 = .ok (.iconst 1, 1) := by decide +kernel
theorem dX6_put_93 : decode cX6_put 93 = .ok (.iadd, 1) := by decide +kernel
theorem dX6_put_94 : decode cX6_put 94 = .ok (.istore_n 3, 1) := by decide +kernel
theorem dX6_put_95 : decode cX6_put 95 = .ok (.iinc 5 1, 3) := by decide +kernel
theorem dX6_put_98 : decode cX6_put 98 = .ok (.goto (-90), 3) := by decide +kernel
theorem dX6_put_101 : decode cX6_put 101 = .ok (.iload 4, 2) := by decide +kernel
theorem dX6_put_103 : decode cX6_put 103 = .ok (.ifCond .eq 6, 3) := by decide +kernel
theorem dX6_put_106 : decode cX6_put 106 = .ok (.bipush (-2), 2) := by decide +kernel
theorem dX6_put_108 : decode cX6_put 108 = .ok (.ireturn, 1) := by decide +kernel
theorem dX6_put_109 : decode cX6_put 109 = .ok (.aload_n 0, 1) := by decide +kernel
theorem dX6_put_110 : decode cX6_put 110 = .ok (.getfield 143, 3) := by decide +kernel
theorem dX6_put_113 : decode cX6_put 113 = .ok (.iload_n 3, 1) := by decide +kernel
theorem dX6_put_114 : decode cX6_put 114 = .ok (.iadd, 1) := by decide +kernel
theorem dX6_put_115 : decode cX6_put 115 = .ok (.bipush 60, 2) := by decide +kernel
theorem dX6_put_117 : decode cX6_put 117 = .ok (.if_icmp .le 6, 3) := by decide +kernel
theorem dX6_put_120 : decode cX6_put 120 = .ok (.bipush (-4), 2) := by decide +kernel
theorem dX6_put_122 : decode cX6_put 122 = .ok (.ireturn, 1) := by decide +kernel
theorem dX6_put_123 : decode cX6_put 123 = .ok (.iconst 0, 1) := by decide +kernel
theorem dX6_put_124 : decode cX6_put 124 = .ok (.istore 5, 2) := by decide +kernel
theorem dX6_put_126 : decode cX6_put 126 = .ok (.iload 5, 2) := by decide +kernel
theorem dX6_put_128 : decode cX6_put 128 = .ok (.iload_n 3, 1) := by decide +kernel
theorem dX6_put_129 : decode cX6_put 129 = .ok (.if_icmp .ge 37, 3) := by decide +kernel
theorem dX6_put_132 : decode cX6_put 132 = .ok (.aload_n 0, 1) := by decide +kernel
theorem dX6_put_133 : decode cX6_put 133 = .ok (.getfield 26, 3) := by decide +kernel
theorem dX6_put_136 : decode cX6_put 136 = .ok (.aload_n 0, 1) := by decide +kernel
theorem dX6_put_137 : decode cX6_put 137 = .ok (.getfield 143, 3) := by decide +kernel
theorem dX6_put_140 : decode cX6_put 140 = .ok (.iload_n 3, 1) := by decide +kernel
theorem dX6_put_141 : decode cX6_put 141 = .ok (.iadd, 1) := by decide +kernel
theorem dX6_put_142 : decode cX6_put 142 = .ok (.iconst 1, 1) := by decide +kernel
theorem dX6_put_143 : decode cX6_put 143 = .ok (.isub, 1) := by decide +kernel
theorem dX6_put_144 : decode cX6_put 144 = .ok (.iload 5, 2) := by decide +kernel
theorem dX6_put_146 : decode cX6_put 146 = .ok (.isub, 1) := by decide +kernel
theorem dX6_put_147 : decode cX6_put 147 = .ok (.lload_n 1, 1) := by decide +kernel
theorem dX6_put_148 : decode cX6_put 148 = .ok (.bipush 8, 2) := by decide +kernel
theorem dX6_put_150 : decode cX6_put 150 = .ok (.iload 5, 2) := by decide +kernel
theorem dX6_put_152 : decode cX6_put 152 = .ok (.imul, 1) := by decide +kernel
theorem dX6_put_153 : decode cX6_put 153 = .ok (.lushr, 1) := by decide +kernel
theorem dX6_put_154 : decode cX6_put 154 = .ok (.ldc2_w 159, 3) := by decide +kernel
theorem dX6_put_157 : decode cX6_put 157 = .ok (.land, 1) := by decide +kernel
theorem dX6_put_158 : decode cX6_put 158 = .ok (.l2i, 1) := by decide +kernel
theorem dX6_put_159 : decode cX6_put 159 = .ok (.iastore, 1) := by decide +kernel
theorem dX6_put_160 : decode cX6_put 160 = .ok (.iinc 5 1, 3) := by decide +kernel
theorem dX6_put_163 : decode cX6_put 163 = .ok (.goto (-37), 3) := by decide +kernel
theorem dX6_put_166 : decode cX6_put 166 = .ok (.aload_n 0, 1) := by decide +kernel
theorem dX6_put_167 : decode cX6_put 167 = .ok (.dup, 1) := by decide +kernel
theorem dX6_put_168 : decode cX6_put 168 = .ok (.getfield 143, 3) := by decide +kernel
theorem dX6_put_171 : decode cX6_put 171 = .ok (.iload_n 3, 1) := by decide +kernel
theorem dX6_put_172 : decode cX6_put 172 = .ok (.iadd, 1) := by decide +kernel
theorem dX6_put_173 : decode cX6_put 173 = .ok (.putfield 143, 3) := by decide +kernel
theorem dX6_put_176 : decode cX6_put 176 = .ok (.aload_n 0, 1) := by decide +kernel
theorem dX6_put_177 : decode cX6_put 177 = .ok (.getfield 143, 3) := by decide +kernel
theorem dX6_put_180 : decode cX6_put 180 = .ok (.ireturn, 1) := by decide +kernel
theorem dX6_wipe_0 : decode cX6_wipe 0 = .ok (.aload_n 0, 1) := by decide +kernel
theorem dX6_wipe_1 : decode cX6_wipe 1 = .ok (.getfield 143, 3) := by decide +kernel
theorem dX6_wipe_4 : decode cX6_wipe 4 = .ok (.istore_n 1, 1) := by decide +kernel
theorem dX6_wipe_5 : decode cX6_wipe 5 = .ok (.aload_n 0, 1) := by decide +kernel
theorem dX6_wipe_6 : decode cX6_wipe 6 = .ok (.iconst 0, 1) := by decide +kernel
theorem dX6_wipe_7 : decode cX6_wipe 7 = .ok (.putfield 143, 3) := by decide +kernel
theorem dX6_wipe_10 : decode cX6_wipe 10 = .ok (.iload_n 1, 1) := by decide +kernel
theorem dX6_wipe_11 : decode cX6_wipe 11 = .ok (.ireturn, 1) := by decide +kernel
set_option maxRecDepth 20000 in
theorem ggX6_isNext_X6_in : GoodIn wsX6_isNext wsX6_in := goodIn_r _ [8] (by decide +kernel) (by decide +kernel)
set_option maxRecDepth 20000 in
theorem gX6_isNext_X6_in : GoodIn wsX6_isNext (va_wsS RX6 47 yX6_in wsX6_in) := goodIn_app (goodIn_of _ (by decide +kernel)) ggX6_isNext_X6_in
theorem dX6_isNext_0 : decode cX6_isNext 0 = .ok (.aload_n 0, 1) := by decide +kernel
theorem dX6_isNext_1 : decode cX6_isNext 1 = .ok (.getfield 161, 3) := by decide +kernel
theorem dX6_isNext_4 : decode cX6_isNext 4 = .ok (.ifCond .ne 35, 3) := by decide +kernel
theorem dX6_isNext_7 : decode cX6_isNext 7 = .ok (.aload_n 0, 1) := by decide +kernel
theorem dX6_isNext_8 : decode cX6_isNext 8 = .ok (.getfield 165, 3) := by decide +kernel
theorem dX6_isNext_11 : decode cX6_isNext 11 = .ok (.aload_n 0, 1) := by decide +kernel
theorem dX6_isNext_12 : decode cX6_isNext 12 = .ok (.getfield 143, 3) := by decide +kernel
theorem dX6_isNext_15 : decode cX6_isNext 15 = .ok (.if_icmp .ge 24, 3) := by decide +kernel
theorem dX6_isNext_18 : decode cX6_isNext 18 = .ok (.aload_n 0, 1) := by decide +kernel
theorem dX6_isNext_19 : decode cX6_isNext 19 = .ok (.getfield 26, 3) := by decide +kernel
theorem dX6_isNext_22 : decode cX6_isNext 22 = .ok (.aload_n 0, 1) := by decide +kernel
theorem dX6_isNext_23 : decode cX6_isNext 23 = .ok (.getfield 165, 3) := by decide +kernel
theorem dX6_isNext_26 : decode cX6_isNext 26 = .ok (.iaload, 1) := by decide +kernel
theorem dX6_isNext_27 : decode cX6_isNext 27 = .ok (.iload_n 1, 1) := by decide +kernel
theorem dX6_isNext_28 : decode cX6_isNext 28 = .ok (.iload_n 2, 1) := by decide +kernel
theorem dX6_isNext_29 : decode cX6_isNext 29 = .ok (.invokestatic 47, 3) := by decide +kernel
theorem dX6_isNext_32 : decode cX6_isNext 32 = .ok (.ifCond .eq 7, 3) := by decide +kernel
theorem dX6_isNext_35 : decode cX6_isNext 35 = .ok (.iconst 1, 1) := by decide +kernel
theorem dX6_isNext_36 : decode cX6_isNext 36 = .ok (.goto 4, 3) := by decide +kernel
theorem dX6_isNext_39 : decode cX6_isNext 39 = .ok (.iconst 0, 1) := by decide +kernel
theorem dX6_isNext_40 : decode cX6_isNext 40 = .ok (.ireturn, 1) := by decide +kernel
set_option maxRecDepth 20000 in
theorem ggX6_takes_X6_in : GoodIn wsX6_takes wsX6_in := goodIn_r _ [8] (by decide +kernel) (by decide +kernel)
set_option maxRecDepth 20000 in
theorem gX6_takes_X6_in : GoodIn wsX6_takes (va_wsS RX6 47 yX6_in wsX6_in) := goodIn_app (goodIn_of _ (by decide +kernel)) ggX6_takes_X6_in
theorem dX6_takes_0 : decode cX6_takes 0 = .ok (.aload_n 0, 1) := by decide +kernel
theorem dX6_takes_1 : decode cX6_takes 1 = .ok (.getfield 165, 3) := by decide +kernel
theorem dX6_takes_4 : decode cX6_takes 4 = .ok (.aload_n 0, 1) := by decide +kernel
theorem dX6_takes_5 : decode cX6_takes 5 = .ok (.getfield 143, 3) := by decide +kernel
theorem dX6_takes_8 : decode cX6_takes 8 = .ok (.if_icmp .ge 15, 3) := by decide +kernel
theorem dX6_takes_11 : decode cX6_takes 11 = .ok (.aload_n 0, 1) := by decide +kernel
theorem dX6_takes_12 : decode cX6_takes 12 = .ok (.getfield 26, 3) := by decide +kernel
theorem dX6_takes_15 : decode cX6_takes 15 = .ok (.aload_n 0, 1) := by decide +kernel
theorem dX6_takes_16 : decode cX6_takes 16 = .ok (.getfield 165, 3) := by decide +kernel
theorem dX6_takes_19 : decode cX6_takes 19 = .ok (.iaload, 1) := by decide +kernel
theorem dX6_takes_20 : decode cX6_takes 20 = .ok (.goto 4, 3) := by decide +kernel
theorem dX6_takes_23 : decode cX6_takes 23 = .ok (.iconst 0, 1) := by decide +kernel
theorem dX6_takes_24 : decode cX6_takes 24 = .ok (.istore_n 3, 1) := by decide +kernel
theorem dX6_takes_25 : decode cX6_takes 25 = .ok (.aload_n 0, 1) := by decide +kernel
theorem dX6_takes_26 : decode cX6_takes 26 = .ok (.aload_n 0, 1) := by decide +kernel
theorem dX6_takes_27 : decode cX6_takes 27 = .ok (.getfield 161, 3) := by decide +kernel
theorem dX6_takes_30 : decode cX6_takes 30 = .ok (.ifCond .ne 12, 3) := by decide +kernel
theorem dX6_takes_33 : decode cX6_takes 33 = .ok (.iload_n 3, 1) := by decide +kernel
theorem dX6_takes_34 : decode cX6_takes 34 = .ok (.iload_n 1, 1) := by decide +kernel
theorem dX6_takes_35 : decode cX6_takes 35 = .ok (.iload_n 2, 1) := by decide +kernel
theorem dX6_takes_36 : decode cX6_takes 36 = .ok (.invokestatic 47, 3) := by decide +kernel
theorem dX6_takes_39 : decode cX6_takes 39 = .ok (.ifCond .ne 7, 3) := by decide +kernel
theorem dX6_takes_42 : decode cX6_takes 42 = .ok (.iconst 1, 1) := by decide +kernel
theorem dX6_takes_43 : decode cX6_takes 43 = .ok (.goto 4, 3) := by decide +kernel
theorem dX6_takes_46 : decode cX6_takes 46 = .ok (.iconst 0, 1) := by decide +kernel
theorem dX6_takes_47 : decode cX6_takes 47 = .ok (.putfield 161, 3) := by decide +kernel
theorem dX6_takes_50 : decode cX6_takes 50 = .ok (.aload_n 0, 1) := by decide +kernel
theorem dX6_takes_51 : decode cX6_takes 51 = .ok (.dup, 1) := by decide +kernel
theorem dX6_takes_52 : decode cX6_takes 52 = .ok (.getfield 165, 3) := by decide +kernel
theorem dX6_takes_55 : decode cX6_takes 55 = .ok (.aload_n 0, 1) := by decide +kernel
theorem dX6_takes_56 : decode cX6_takes 56 = .ok (.getfield 161, 3) := by decide +kernel
theorem dX6_takes_59 : decode cX6_takes 59 = .ok (.ifCond .eq 7, 3) := by decide +kernel
theorem dX6_takes_62 : decode cX6_takes 62 = .ok (.iconst 0, 1) := by decide +kernel
theorem dX6_takes_63 : decode cX6_takes 63 = .ok (.goto 4, 3) := by decide +kernel
theorem dX6_takes_66 : decode cX6_takes 66 = .ok (.iconst 1, 1) := by decide +kernel
theorem dX6_takes_67 : decode cX6_takes 67 = .ok (.iadd, 1) := by decide +kernel
theorem dX6_takes_68 : decode cX6_takes 68 = .ok (.putfield 165, 3) := by decide +kernel
theorem dX6_takes_71 : decode cX6_takes 71 = .ok (.iload_n 3, 1) := by decide +kernel
theorem dX6_takes_72 : decode cX6_takes 72 = .ok (.iload_n 1, 1) := by decide +kernel
theorem dX6_takes_73 : decode cX6_takes 73 = .ok (.isub, 1) := by decide +kernel
theorem dX6_takes_74 : decode cX6_takes 74 = .ok (.ireturn, 1) := by decide +kernel
set_option maxRecDepth 20000 in
theorem ggX6_takesMany_X6_takes : GoodIn wsX6_takesMany wsX6_takes := goodIn_r _ [5, 6, 7, 8, 9, 10, 11, 4, 12, 17, 18, 19, 20, 21, 22, 23, 24, 25, 26, 27, 28, 29, 30, 31, 32] (by decide +kernel) (by decide +kernel)
set_option maxRecDepth 20000 in
theorem gX6_takesMany_X6_takes : GoodIn wsX6_takesMany (wsV RX6 168 RX6 yX6_takes wsX6_takes) := goodIn_app (goodIn_of _ (by decide +kernel)) ggX6_takesMany_X6_takes
set_option maxRecDepth 20000 in
theorem ggX6_takesMany_X6_isNext : GoodIn wsX6_takesMany wsX6_isNext := goodIn_r _ [16, 9, 6, 7, 8, 10, 11, 4, 12, 17, 18, 19, 20, 21, 22, 23, 24, 25, 26, 27, 28, 29, 30, 31, 32] (by decide +kernel) (by decide +kernel)
set_option maxRecDepth 20000 in
theorem gX6_takesMany_X6_isNext : GoodIn wsX6_takesMany (wsV RX6 171 RX6 yX6_isNext wsX6_isNext) := goodIn_app (goodIn_of _ (by decide +kernel)) ggX6_takesMany_X6_isNext
theorem dX6_takesMany_0 : decode cX6_takesMany 0 = .ok (.iconst 1, 1) := by decide +kernel
theorem dX6_takesMany_1 : decode cX6_takesMany 1 = .ok (.aload_n 0, 1) := by decide +kernel
theorem dX6_takesMany_2 : decode cX6_takesMany 2 = .ok (.bipush 49, 2) := by decide +kernel
theorem dX6_takesMany_4 : decode cX6_takesMany 4 = .ok (.bipush 57, 2) := by decide +kernel
theorem dX6_takesMany_6 : decode cX6_takesMany 6 = .ok (.invokevirtual 168, 3) := by decide +kernel
theorem dX6_takesMany_9 : decode cX6_takesMany 9 = .ok (.iadd, 1) := by decide +kernel
theorem dX6_takesMany_10 : decode cX6_takesMany 10 = .ok (.istore_n 1, 1) := by decide +kernel
theorem dX6_takesMany_11 : decode cX6_takesMany 11 = .ok (.iload_n 1, 1) := by decide +kernel
theorem dX6_takesMany_12 : decode cX6_takesMany 12 = .ok (.iconst 1, 1) := by decide +kernel
theorem dX6_takesMany_13 : decode cX6_takesMany 13 = .ok (.if_icmp .ne 14, 3) := by decide +kernel
theorem dX6_takesMany_16 : decode cX6_takesMany 16 = .ok (.aload_n 0, 1) := by decide +kernel
theorem dX6_takesMany_17 : decode cX6_takesMany 17 = .ok (.bipush 48, 2) := by decide +kernel
theorem dX6_takesMany_19 : decode cX6_takesMany 19 = .ok (.bipush 57, 2) := by decide +kernel
theorem dX6_takesMany_21 : decode cX6_takesMany 21 = .ok (.invokevirtual 171, 3) := by decide +kernel
theorem dX6_takesMany_24 : decode cX6_takesMany 24 = .ok (.ifCond .ne 19, 3) := by decide +kernel
theorem dX6_takesMany_27 : decode cX6_takesMany 27 = .ok (.iload_n 1, 1) := by decide +kernel
theorem dX6_takesMany_28 : decode cX6_takesMany 28 = .ok (.iconst 2, 1) := by decide +kernel
theorem dX6_takesMany_29 : decode cX6_takesMany 29 = .ok (.if_icmp .ne 18, 3) := by decide +kernel
theorem dX6_takesMany_32 : decode cX6_takesMany 32 = .ok (.aload_n 0, 1) := by decide +kernel
theorem dX6_takesMany_33 : decode cX6_takesMany 33 = .ok (.bipush 48, 2) := by decide +kernel
theorem dX6_takesMany_35 : decode cX6_takesMany 35 = .ok (.bipush 48, 2) := by decide +kernel
theorem dX6_takesMany_37 : decode cX6_takesMany 37 = .ok (.invokevirtual 171, 3) := by decide +kernel
theorem dX6_takesMany_40 : decode cX6_takesMany 40 = .ok (.ifCond .eq 7, 3) := by decide +kernel
theorem dX6_takesMany_43 : decode cX6_takesMany 43 = .ok (.iconst 1, 1) := by decide +kernel
theorem dX6_takesMany_44 : decode cX6_takesMany 44 = .ok (.goto 4, 3) := by decide +kernel
theorem dX6_takesMany_47 : decode cX6_takesMany 47 = .ok (.iconst 0, 1) := by decide +kernel
theorem dX6_takesMany_48 : decode cX6_takesMany 48 = .ok (.istore_n 2, 1) := by decide +kernel
theorem dX6_takesMany_49 : decode cX6_takesMany 49 = .ok (.iload_n 2, 1) := by decide +kernel
theorem dX6_takesMany_50 : decode cX6_takesMany 50 = .ok (.ifCond .eq 19, 3) := by decide +kernel
theorem dX6_takesMany_53 : decode cX6_takesMany 53 = .ok (.bipush 10, 2) := by decide +kernel
theorem dX6_takesMany_55 : decode cX6_takesMany 55 = .ok (.iload_n 1, 1) := by decide +kernel
theorem dX6_takesMany_56 : decode cX6_takesMany 56 = .ok (.imul, 1) := by decide +kernel
theorem dX6_takesMany_57 : decode cX6_takesMany 57 = .ok (.aload_n 0, 1) := by decide +kernel
theorem dX6_takesMany_58 : decode cX6_takesMany 58 = .ok (.bipush 48, 2) := by decide +kernel
theorem dX6_takesMany_60 : decode cX6_takesMany 60 = .ok (.bipush 57, 2) := by decide +kernel
theorem dX6_takesMany_62 : decode cX6_takesMany 62 = .ok (.invokevirtual 168, 3) := by decide +kernel
theorem dX6_takesMany_65 : decode cX6_takesMany 65 = .ok (.iadd, 1) := by decide +kernel
theorem dX6_takesMany_66 : decode cX6_takesMany 66 = .ok (.goto 4, 3) := by decide +kernel
theorem dX6_takesMany_69 : decode cX6_takesMany 69 = .ok (.iload_n 1, 1) := by decide +kernel
theorem dX6_takesMany_70 : decode cX6_takesMany 70 = .ok (.ireturn, 1) := by decide +kernel
set_option maxRecDepth 20000 in
theorem ggX6_reads_X6_takes : GoodIn wsX6_reads wsX6_takes := goodIn_r _ [9, 1, 4, 10, 2, 11, 12, 8, 13, 22, 23, 24, 25, 26, 27, 28, 29, 30, 31, 32, 33, 34, 35, 36, 37] (by decide +kernel) (by decide +kernel)
set_option maxRecDepth 20000 in
theorem gX6_reads_X6_takes : GoodIn wsX6_reads (wsV RX6 168 RX6 yX6_takes wsX6_takes) := goodIn_app (goodIn_of _ (by decide +kernel)) ggX6_reads_X6_takes
set_option maxRecDepth 20000 in
theorem ggX6_reads_X6_takesMany : GoodIn wsX6_reads wsX6_takesMany := goodIn_r _ [17, 5, 6, 7, 8, 9, 1, 4, 10, 2, 11, 12, 13, 18, 19, 20, 21, 22, 23, 24, 25, 26, 27, 28, 29, 30, 31, 32, 33, 34, 35, 36, 37] (by decide +kernel) (by decide +kernel)
set_option maxRecDepth 20000 in
theorem gX6_reads_X6_takesMany : GoodIn wsX6_reads (wsV RX6 174 RX6 yX6_takesMany wsX6_takesMany) := goodIn_app (goodIn_of _ (by decide +kernel)) ggX6_reads_X6_takesMany
theorem dX6_reads_0 : decode cX6_reads 0 = .ok (.aload_n 0, 1) := by decide +kernel
theorem dX6_reads_1 : decode cX6_reads 1 = .ok (.iconst 0, 1) := by decide +kernel
theorem dX6_reads_2 : decode cX6_reads 2 = .ok (.putfield 165, 3) := by decide +kernel
theorem dX6_reads_5 : decode cX6_reads 5 = .ok (.aload_n 0, 1) := by decide +kernel
theorem dX6_reads_6 : decode cX6_reads 6 = .ok (.iconst 0, 1) := by decide +kernel
theorem dX6_reads_7 : decode cX6_reads 7 = .ok (.putfield 161, 3) := by decide +kernel
theorem dX6_reads_10 : decode cX6_reads 10 = .ok (.iconst 0, 1) := by decide +kernel
theorem dX6_reads_11 : decode cX6_reads 11 = .ok (.istore_n 2, 1) := by decide +kernel
theorem dX6_reads_12 : decode cX6_reads 12 = .ok (.iconst 1, 1) := by decide +kernel
theorem dX6_reads_13 : decode cX6_reads 13 = .ok (.istore_n 3, 1) := by decide +kernel
theorem dX6_reads_14 : decode cX6_reads 14 = .ok (.iload_n 3, 1) := by decide +kernel
theorem dX6_reads_15 : decode cX6_reads 15 = .ok (.ifCond .eq 169, 3) := by decide +kernel
theorem dX6_reads_18 : decode cX6_reads 18 = .ok (.aload_n 0, 1) := by decide +kernel
theorem dX6_reads_19 : decode cX6_reads 19 = .ok (.bipush 97, 2) := by decide +kernel
theorem dX6_reads_21 : decode cX6_reads 21 = .ok (.bipush 103, 2) := by decide +kernel
theorem dX6_reads_23 : decode cX6_reads 23 = .ok (.invokevirtual 168, 3) := by decide +kernel
theorem dX6_reads_26 : decode cX6_reads 26 = .ok (.istore 4, 2) := by decide +kernel
theorem dX6_reads_28 : decode cX6_reads 28 = .ok (.bipush 7, 2) := by decide +kernel
theorem dX6_reads_30 : decode cX6_reads 30 = .ok (.aload_n 0, 1) := by decide +kernel
theorem dX6_reads_31 : decode cX6_reads 31 = .ok (.bipush 49, 2) := by decide +kernel
theorem dX6_reads_33 : decode cX6_reads 33 = .ok (.bipush 53, 2) := by decide +kernel
theorem dX6_reads_35 : decode cX6_reads 35 = .ok (.invokevirtual 168, 3) := by decide +kernel
theorem dX6_reads_38 : decode cX6_reads 38 = .ok (.imul, 1) := by decide +kernel
theorem dX6_reads_39 : decode cX6_reads 39 = .ok (.iload 4, 2) := by decide +kernel
theorem dX6_reads_41 : decode cX6_reads 41 = .ok (.iadd, 1) := by decide +kernel
theorem dX6_reads_42 : decode cX6_reads 42 = .ok (.istore 5, 2) := by decide +kernel
theorem dX6_reads_44 : decode cX6_reads 44 = .ok (.aload_n 0, 1) := by decide +kernel
theorem dX6_reads_45 : decode cX6_reads 45 = .ok (.bipush 58, 2) := by decide +kernel
theorem dX6_reads_47 : decode cX6_reads 47 = .ok (.bipush 58, 2) := by decide +kernel
theorem dX6_reads_49 : decode cX6_reads 49 = .ok (.invokevirtual 168, 3) := by decide +kernel
theorem dX6_reads_52 : decode cX6_reads 52 = .ok (.istore 6, 2) := by decide +kernel
theorem dX6_reads_54 : decode cX6_reads 54 = .ok (.aload_n 0, 1) := by decide +kernel
theorem dX6_reads_55 : decode cX6_reads 55 = .ok (.invokevirtual 174, 3) := by decide +kernel
theorem dX6_reads_58 : decode cX6_reads 58 = .ok (.istore 7, 2) := by decide +kernel
theorem dX6_reads_60 : decode cX6_reads 60 = .ok (.iload_n 1, 1) := by decide +kernel
theorem dX6_reads_61 : decode cX6_reads 61 = .ok (.ifCond .eq 69, 3) := by decide +kernel
theorem dX6_reads_64 : decode cX6_reads 64 = .ok (.aload_n 0, 1) := by decide +kernel
theorem dX6_reads_65 : decode cX6_reads 65 = .ok (.getfield 7, 3) := by decide +kernel
theorem dX6_reads_68 : decode cX6_reads 68 = .ok (.iconst 0, 1) := by decide +kernel
theorem dX6_reads_69 : decode cX6_reads 69 = .ok (.iaload, 1) := by decide +kernel
theorem dX6_reads_70 : decode cX6_reads 70 = .ok (.aload_n 0, 1) := by decide +kernel
theorem dX6_reads_71 : decode cX6_reads 71 = .ok (.getfield 7, 3) := by decide +kernel
theorem dX6_reads_74 : decode cX6_reads 74 = .ok (.bipush 21, 2) := by decide +kernel
theorem dX6_reads_76 : decode cX6_reads 76 = .ok (.iload 5, 2) := by decide +kernel
theorem dX6_reads_78 : decode cX6_reads 78 = .ok (.iadd, 1) := by decide +kernel
theorem dX6_reads_79 : decode cX6_reads 79 = .ok (.iaload, 1) := by decide +kernel
theorem dX6_reads_80 : decode cX6_reads 80 = .ok (.isub, 1) := by decide +kernel
theorem dX6_reads_81 : decode cX6_reads 81 = .ok (.istore 8, 2) := by decide +kernel
theorem dX6_reads_83 : decode cX6_reads 83 = .ok (.iload 7, 2) := by decide +kernel
theorem dX6_reads_85 : decode cX6_reads 85 = .ok (.iload 8, 2) := by decide +kernel
theorem dX6_reads_87 : decode cX6_reads 87 = .ok (.if_icmp .ge 8, 3) := by decide +kernel
theorem dX6_reads_90 : decode cX6_reads 90 = .ok (.iload 7, 2) := by decide +kernel
theorem dX6_reads_92 : decode cX6_reads 92 = .ok (.goto 5, 3) := by decide +kernel
theorem dX6_reads_95 : decode cX6_reads 95 = .ok (.iload 8, 2) := by decide +kernel
theorem dX6_reads_97 : decode cX6_reads 97 = .ok (.istore 9, 2) := by decide +kernel
theorem dX6_reads_99 : decode cX6_reads 99 = .ok (.aload_n 0, 1) := by decide +kernel
theorem dX6_reads_100 : decode cX6_reads 100 = .ok (.getfield 7, 3) := by decide +kernel
theorem dX6_reads_103 : decode cX6_reads 103 = .ok (.bipush 21, 2) := by decide +kernel
theorem dX6_reads_105 : decode cX6_reads 105 = .ok (.iload 5, 2) := by decide +kernel
theorem dX6_reads_107 : decode cX6_reads 107 = .ok (.iadd, 1) := by decide +kernel
theorem dX6_reads_108 : decode cX6_reads 108 = .ok (.dup2, 1) := by decide +kernel
theorem dX6_reads_109 : decode cX6_reads 109 = .ok (.iaload, 1) := by decide +kernel
theorem dX6_reads_110 : decode cX6_reads 110 = .ok (.iload 9, 2) := by decide +kernel
theorem dX6_reads_112 : decode cX6_reads 112 = .ok (.iadd, 1) := by decide +kernel
theorem dX6_reads_113 : decode cX6_reads 113 = .ok (.iastore, 1) := by decide +kernel
theorem dX6_reads_114 : decode cX6_reads 114 = .ok (.aload_n 0, 1) := by decide +kernel
theorem dX6_reads_115 : decode cX6_reads 115 = .ok (.getfield 7, 3) := by decide +kernel
theorem dX6_reads_118 : decode cX6_reads 118 = .ok (.iconst 2, 1) := by decide +kernel
theorem dX6_reads_119 : decode cX6_reads 119 = .ok (.dup2, 1) := by decide +kernel
theorem dX6_reads_120 : decode cX6_reads 120 = .ok (.iaload, 1) := by decide +kernel
theorem dX6_reads_121 : decode cX6_reads 121 = .ok (.iload 9, 2) := by decide +kernel
theorem dX6_reads_123 : decode cX6_reads 123 = .ok (.iadd, 1) := by decide +kernel
theorem dX6_reads_124 : decode cX6_reads 124 = .ok (.iastore, 1) := by decide +kernel
theorem dX6_reads_125 : decode cX6_reads 125 = .ok (.iload_n 2, 1) := by decide +kernel
theorem dX6_reads_126 : decode cX6_reads 126 = .ok (.iload 9, 2) := by decide +kernel
theorem dX6_reads_128 : decode cX6_reads 128 = .ok (.iadd, 1) := by decide +kernel
theorem dX6_reads_129 : decode cX6_reads 129 = .ok (.istore_n 2, 1) := by decide +kernel
theorem dX6_reads_130 : decode cX6_reads 130 = .ok (.aload_n 0, 1) := by decide +kernel
theorem dX6_reads_131 : decode cX6_reads 131 = .ok (.getfield 161, 3) := by decide +kernel
theorem dX6_reads_134 : decode cX6_reads 134 = .ok (.ifCond .ne 18, 3) := by decide +kernel
theorem dX6_reads_137 : decode cX6_reads 137 = .ok (.aload_n 0, 1) := by decide +kernel
theorem dX6_reads_138 : decode cX6_reads 138 = .ok (.getfield 165, 3) := by decide +kernel
theorem dX6_reads_141 : decode cX6_reads 141 = .ok (.aload_n 0, 1) := by decide +kernel
theorem dX6_reads_142 : decode cX6_reads 142 = .ok (.getfield 143, 3) := by decide +kernel
theorem dX6_reads_145 : decode cX6_reads 145 = .ok (.if_icmp .ge 7, 3) := by decide +kernel
theorem dX6_reads_148 : decode cX6_reads 148 = .ok (.iconst 1, 1) := by decide +kernel
theorem dX6_reads_149 : decode cX6_reads 149 = .ok (.goto 4, 3) := by decide +kernel
theorem dX6_reads_152 : decode cX6_reads 152 = .ok (.iconst 0, 1) := by decide +kernel
theorem dX6_reads_153 : decode cX6_reads 153 = .ok (.istore_n 3, 1) := by decide +kernel
theorem dX6_reads_154 : decode cX6_reads 154 = .ok (.iload_n 3, 1) := by decide +kernel
theorem dX6_reads_155 : decode cX6_reads 155 = .ok (.ifCond .eq 26, 3) := by decide +kernel
theorem dX6_reads_158 : decode cX6_reads 158 = .ok (.aload_n 0, 1) := by decide +kernel
theorem dX6_reads_159 : decode cX6_reads 159 = .ok (.bipush 44, 2) := by decide +kernel
theorem dX6_reads_161 : decode cX6_reads 161 = .ok (.bipush 44, 2) := by decide +kernel
theorem dX6_reads_163 : decode cX6_reads 163 = .ok (.invokevirtual 168, 3) := by decide +kernel
theorem dX6_reads_166 : decode cX6_reads 166 = .ok (.istore 8, 2) := by decide +kernel
theorem dX6_reads_168 : decode cX6_reads 168 = .ok (.aload_n 0, 1) := by decide +kernel
theorem dX6_reads_169 : decode cX6_reads 169 = .ok (.getfield 161, 3) := by decide +kernel
theorem dX6_reads_172 : decode cX6_reads 172 = .ok (.ifCond .ne 7, 3) := by decide +kernel
theorem dX6_reads_175 : decode cX6_reads 175 = .ok (.iconst 1, 1) := by decide +kernel
theorem dX6_reads_176 : decode cX6_reads 176 = .ok (.goto 4, 3) := by decide +kernel
theorem dX6_reads_179 : decode cX6_reads 179 = .ok (.iconst 0, 1) := by decide +kernel
theorem dX6_reads_180 : decode cX6_reads 180 = .ok (.istore_n 3, 1) := by decide +kernel
theorem dX6_reads_181 : decode cX6_reads 181 = .ok (.goto (-167), 3) := by decide +kernel
theorem dX6_reads_184 : decode cX6_reads 184 = .ok (.iload_n 2, 1) := by decide +kernel
theorem dX6_reads_185 : decode cX6_reads 185 = .ok (.ireturn, 1) := by decide +kernel
set_option maxRecDepth 20000 in
theorem ggX6_fault_X6_reads : GoodIn wsX6_fault wsX6_reads := goodIn_r _ [7, 2, 1, 8, 9, 10, 11, 12, 6, 13, 14, 15, 16, 17, 18, 19, 20, 21, 22, 23, 24, 25, 26, 27, 28, 29, 30, 31, 32, 33, 34, 35, 36, 37, 38, 39, 40, 41] (by decide +kernel) (by decide +kernel)
set_option maxRecDepth 20000 in
theorem gX6_fault_X6_reads : GoodIn wsX6_fault (wsV RX6 177 RX6 yX6_reads wsX6_reads) := goodIn_app (goodIn_of _ (by decide +kernel)) ggX6_fault_X6_reads
theorem dX6_fault_0 : decode cX6_fault 0 = .ok (.aload_n 0, 1) := by decide +kernel
theorem dX6_fault_1 : decode cX6_fault 1 = .ok (.iconst 0, 1) := by decide +kernel
theorem dX6_fault_2 : decode cX6_fault 2 = .ok (.invokevirtual 177, 3) := by decide +kernel
theorem dX6_fault_5 : decode cX6_fault 5 = .ok (.istore_n 1, 1) := by decide +kernel
theorem dX6_fault_6 : decode cX6_fault 6 = .ok (.aload_n 0, 1) := by decide +kernel
theorem dX6_fault_7 : decode cX6_fault 7 = .ok (.getfield 161, 3) := by decide +kernel
theorem dX6_fault_10 : decode cX6_fault 10 = .ok (.ifCond .eq 10, 3) := by decide +kernel
theorem dX6_fault_13 : decode cX6_fault 13 = .ok (.aload_n 0, 1) := by decide +kernel
theorem dX6_fault_14 : decode cX6_fault 14 = .ok (.getfield 165, 3) := by decide +kernel
theorem dX6_fault_17 : decode cX6_fault 17 = .ok (.goto 5, 3) := by decide +kernel
theorem dX6_fault_20 : decode cX6_fault 20 = .ok (.bipush (-6), 2) := by decide +kernel
theorem dX6_fault_22 : decode cX6_fault 22 = .ok (.ireturn, 1) := by decide +kernel
set_option maxRecDepth 20000 in
theorem ggX6_read_X6_reads : GoodIn wsX6_read wsX6_reads := goodIn_r _ [7, 8, 1, 9, 2, 10, 11, 12, 6, 13, 14, 15, 16, 17, 18, 19, 20, 21, 22, 23, 24, 25, 32, 33, 34, 35, 36, 37, 38, 39, 40, 41, 42, 43, 44, 45, 46, 47] (by decide +kernel) (by decide +kernel)
set_option maxRecDepth 20000 in
theorem gX6_read_X6_reads : GoodIn wsX6_read (wsV RX6 177 RX6 yX6_reads wsX6_reads) := goodIn_app (goodIn_of _ (by decide +kernel)) ggX6_read_X6_reads
set_option maxRecDepth 20000 in
theorem ggX6_read_X6_record : GoodIn wsX6_read wsX6_record := goodIn_r _ [29, 30, 31, 9, 32, 33, 34, 35, 36, 37, 38, 39, 40, 41, 42, 43, 44, 45, 46, 47] (by decide +kernel) (by decide +kernel)
set_option maxRecDepth 20000 in
theorem gX6_read_X6_record : GoodIn wsX6_read (wsV RX6 96 RX6 yX6_record wsX6_record) := goodIn_app (goodIn_of _ (by decide +kernel)) ggX6_read_X6_record
theorem dX6_read_0 : decode cX6_read 0 = .ok (.aload_n 0, 1) := by decide +kernel
theorem dX6_read_1 : decode cX6_read 1 = .ok (.iconst 0, 1) := by decide +kernel
theorem dX6_read_2 : decode cX6_read 2 = .ok (.invokevirtual 177, 3) := by decide +kernel
theorem dX6_read_5 : decode cX6_read 5 = .ok (.istore_n 1, 1) := by decide +kernel
theorem dX6_read_6 : decode cX6_read 6 = .ok (.aload_n 0, 1) := by decide +kernel
theorem dX6_read_7 : decode cX6_read 7 = .ok (.getfield 161, 3) := by decide +kernel
theorem dX6_read_10 : decode cX6_read 10 = .ok (.ifCond .eq 6, 3) := by decide +kernel
theorem dX6_read_13 : decode cX6_read 13 = .ok (.bipush (-3), 2) := by decide +kernel
theorem dX6_read_15 : decode cX6_read 15 = .ok (.ireturn, 1) := by decide +kernel
theorem dX6_read_16 : decode cX6_read 16 = .ok (.aload_n 0, 1) := by decide +kernel
theorem dX6_read_17 : decode cX6_read 17 = .ok (.invokevirtual 96, 3) := by decide +kernel
theorem dX6_read_20 : decode cX6_read 20 = .ok (.aload_n 0, 1) := by decide +kernel
theorem dX6_read_21 : decode cX6_read 21 = .ok (.iconst 1, 1) := by decide +kernel
theorem dX6_read_22 : decode cX6_read 22 = .ok (.invokevirtual 177, 3) := by decide +kernel
theorem dX6_read_25 : decode cX6_read 25 = .ok (.istore_n 2, 1) := by decide +kernel
theorem dX6_read_26 : decode cX6_read 26 = .ok (.aload_n 0, 1) := by decide +kernel
theorem dX6_read_27 : decode cX6_read 27 = .ok (.iconst 0, 1) := by decide +kernel
theorem dX6_read_28 : decode cX6_read 28 = .ok (.putfield 143, 3) := by decide +kernel
theorem dX6_read_31 : decode cX6_read 31 = .ok (.iload_n 2, 1) := by decide +kernel
theorem dX6_read_32 : decode cX6_read 32 = .ok (.ireturn, 1) := by decide +kernel
theorem dX6_undo_0 : decode cX6_undo 0 = .ok (.aload_n 0, 1) := by decide +kernel
theorem dX6_undo_1 : decode cX6_undo 1 = .ok (.getfield 51, 3) := by decide +kernel
theorem dX6_undo_4 : decode cX6_undo 4 = .ok (.ifCond .ne 6, 3) := by decide +kernel
theorem dX6_undo_7 : decode cX6_undo 7 = .ok (.bipush (-5), 2) := by decide +kernel
theorem dX6_undo_9 : decode cX6_undo 9 = .ok (.ireturn, 1) := by decide +kernel
theorem dX6_undo_10 : decode cX6_undo 10 = .ok (.aload_n 0, 1) := by decide +kernel
theorem dX6_undo_11 : decode cX6_undo 11 = .ok (.dup, 1) := by decide +kernel
theorem dX6_undo_12 : decode cX6_undo 12 = .ok (.getfield 51, 3) := by decide +kernel
theorem dX6_undo_15 : decode cX6_undo 15 = .ok (.iconst 1, 1) := by decide +kernel
theorem dX6_undo_16 : decode cX6_undo 16 = .ok (.isub, 1) := by decide +kernel
theorem dX6_undo_17 : decode cX6_undo 17 = .ok (.putfield 51, 3) := by decide +kernel
theorem dX6_undo_20 : decode cX6_undo 20 = .ok (.iconst 0, 1) := by decide +kernel
theorem dX6_undo_21 : decode cX6_undo 21 = .ok (.istore_n 1, 1) := by decide +kernel
theorem dX6_undo_22 : decode cX6_undo 22 = .ok (.iload_n 1, 1) := by decide +kernel
theorem dX6_undo_23 : decode cX6_undo 23 = .ok (.sipush 161, 3) := by decide +kernel
theorem dX6_undo_26 : decode cX6_undo 26 = .ok (.if_icmp .ge 30, 3) := by decide +kernel
theorem dX6_undo_29 : decode cX6_undo 29 = .ok (.aload_n 0, 1) := by decide +kernel
theorem dX6_undo_30 : decode cX6_undo 30 = .ok (.getfield 7, 3) := by decide +kernel
theorem dX6_undo_33 : decode cX6_undo 33 = .ok (.iload_n 1, 1) := by decide +kernel
theorem dX6_undo_34 : decode cX6_undo 34 = .ok (.aload_n 0, 1) := by decide +kernel
theorem dX6_undo_35 : decode cX6_undo 35 = .ok (.getfield 16, 3) := by decide +kernel
theorem dX6_undo_38 : decode cX6_undo 38 = .ok (.sipush 161, 3) := by decide +kernel
theorem dX6_undo_41 : decode cX6_undo 41 = .ok (.aload_n 0, 1) := by decide +kernel
theorem dX6_undo_42 : decode cX6_undo 42 = .ok (.getfield 51, 3) := by decide +kernel
theorem dX6_undo_45 : decode cX6_undo 45 = .ok (.imul, 1) := by decide +kernel
theorem dX6_undo_46 : decode cX6_undo 46 = .ok (.iload_n 1, 1) := by decide +kernel
theorem dX6_undo_47 : decode cX6_undo 47 = .ok (.iadd, 1) := by decide +kernel
theorem dX6_undo_48 : decode cX6_undo 48 = .ok (.iaload, 1) := by decide +kernel
theorem dX6_undo_49 : decode cX6_undo 49 = .ok (.iastore, 1) := by decide +kernel
theorem dX6_undo_50 : decode cX6_undo 50 = .ok (.iinc 1 1, 3) := by decide +kernel
theorem dX6_undo_53 : decode cX6_undo 53 = .ok (.goto (-31), 3) := by decide +kernel
theorem dX6_undo_56 : decode cX6_undo 56 = .ok (.aload_n 0, 1) := by decide +kernel
theorem dX6_undo_57 : decode cX6_undo 57 = .ok (.getfield 51, 3) := by decide +kernel
theorem dX6_undo_60 : decode cX6_undo 60 = .ok (.ireturn, 1) := by decide +kernel
set_option maxRecDepth 20000 in
theorem ggX6_save_X6_in : GoodIn wsX6_save wsX6_in := goodIn_r _ [7] (by decide +kernel) (by decide +kernel)
set_option maxRecDepth 20000 in
theorem gX6_save_X6_in : GoodIn wsX6_save (va_wsS RX6 47 yX6_in wsX6_in) := goodIn_app (goodIn_of _ (by decide +kernel)) ggX6_save_X6_in
set_option maxRecDepth 20000 in
theorem ggX6_save_X6_people : GoodIn wsX6_save wsX6_people := goodIn_r _ [11, 2, 12, 13, 14, 15, 16, 17, 18, 19, 20, 21, 22, 23, 24, 25, 26, 27] (by decide +kernel) (by decide +kernel)
set_option maxRecDepth 20000 in
theorem gX6_save_X6_people : GoodIn wsX6_save (wsV RX6 86 RX6 yX6_people wsX6_people) := goodIn_app (goodIn_of _ (by decide +kernel)) ggX6_save_X6_people
theorem dX6_save_0 : decode cX6_save 0 = .ok (.iload_n 1, 1) := by decide +kernel
theorem dX6_save_1 : decode cX6_save 1 = .ok (.iconst 0, 1) := by decide +kernel
theorem dX6_save_2 : decode cX6_save 2 = .ok (.iconst 1, 1) := by decide +kernel
theorem dX6_save_3 : decode cX6_save 3 = .ok (.invokestatic 47, 3) := by decide +kernel
theorem dX6_save_6 : decode cX6_save 6 = .ok (.ifCond .ne 6, 3) := by decide +kernel
theorem dX6_save_9 : decode cX6_save 9 = .ok (.bipush (-2), 2) := by decide +kernel
theorem dX6_save_11 : decode cX6_save 11 = .ok (.ireturn, 1) := by decide +kernel
theorem dX6_save_12 : decode cX6_save 12 = .ok (.iconst 0, 1) := by decide +kernel
theorem dX6_save_13 : decode cX6_save 13 = .ok (.istore_n 2, 1) := by decide +kernel
theorem dX6_save_14 : decode cX6_save 14 = .ok (.iload_n 2, 1) := by decide +kernel
theorem dX6_save_15 : decode cX6_save 15 = .ok (.sipush 161, 3) := by decide +kernel
theorem dX6_save_18 : decode cX6_save 18 = .ok (.if_icmp .ge 27, 3) := by decide +kernel
theorem dX6_save_21 : decode cX6_save 21 = .ok (.aload_n 0, 1) := by decide +kernel
theorem dX6_save_22 : decode cX6_save 22 = .ok (.getfield 19, 3) := by decide +kernel
theorem dX6_save_25 : decode cX6_save 25 = .ok (.sipush 161, 3) := by decide +kernel
theorem dX6_save_28 : decode cX6_save 28 = .ok (.iload_n 1, 1) := by decide +kernel
theorem dX6_save_29 : decode cX6_save 29 = .ok (.imul, 1) := by decide +kernel
theorem dX6_save_30 : decode cX6_save 30 = .ok (.iload_n 2, 1) := by decide +kernel
theorem dX6_save_31 : decode cX6_save 31 = .ok (.iadd, 1) := by decide +kernel
theorem dX6_save_32 : decode cX6_save 32 = .ok (.aload_n 0, 1) := by decide +kernel
theorem dX6_save_33 : decode cX6_save 33 = .ok (.getfield 7, 3) := by decide +kernel
theorem dX6_save_36 : decode cX6_save 36 = .ok (.iload_n 2, 1) := by decide +kernel
theorem dX6_save_37 : decode cX6_save 37 = .ok (.iaload, 1) := by decide +kernel
theorem dX6_save_38 : decode cX6_save 38 = .ok (.iastore, 1) := by decide +kernel
theorem dX6_save_39 : decode cX6_save 39 = .ok (.iinc 2 1, 3) := by decide +kernel
theorem dX6_save_42 : decode cX6_save 42 = .ok (.goto (-28), 3) := by decide +kernel
theorem dX6_save_45 : decode cX6_save 45 = .ok (.aload_n 0, 1) := by decide +kernel
theorem dX6_save_46 : decode cX6_save 46 = .ok (.getfield 22, 3) := by decide +kernel
theorem dX6_save_49 : decode cX6_save 49 = .ok (.iload_n 1, 1) := by decide +kernel
theorem dX6_save_50 : decode cX6_save 50 = .ok (.iconst 1, 1) := by decide +kernel
theorem dX6_save_51 : decode cX6_save 51 = .ok (.bastore, 1) := by decide +kernel
theorem dX6_save_52 : decode cX6_save 52 = .ok (.aload_n 0, 1) := by decide +kernel
theorem dX6_save_53 : decode cX6_save 53 = .ok (.invokevirtual 86, 3) := by decide +kernel
theorem dX6_save_56 : decode cX6_save 56 = .ok (.ireturn, 1) := by decide +kernel
set_option maxRecDepth 20000 in
theorem ggX6_restore_X6_in : GoodIn wsX6_restore wsX6_in := goodIn_r _ [7] (by decide +kernel) (by decide +kernel)
set_option maxRecDepth 20000 in
theorem gX6_restore_X6_in : GoodIn wsX6_restore (va_wsS RX6 47 yX6_in wsX6_in) := goodIn_app (goodIn_of _ (by decide +kernel)) ggX6_restore_X6_in
set_option maxRecDepth 20000 in
theorem ggX6_restore_X6_record : GoodIn wsX6_restore wsX6_record := goodIn_r _ [11, 12, 13, 2, 18, 19, 20, 21, 22, 23, 24, 25, 26, 27, 28, 29, 30, 31, 32, 33] (by decide +kernel) (by decide +kernel)
set_option maxRecDepth 20000 in
theorem gX6_restore_X6_record : GoodIn wsX6_restore (wsV RX6 96 RX6 yX6_record wsX6_record) := goodIn_app (goodIn_of _ (by decide +kernel)) ggX6_restore_X6_record
set_option maxRecDepth 20000 in
theorem ggX6_restore_X6_people : GoodIn wsX6_restore wsX6_people := goodIn_r _ [17, 2, 18, 19, 20, 21, 22, 23, 24, 25, 26, 27, 28, 29, 30, 31, 32, 33] (by decide +kernel) (by decide +kernel)
set_option maxRecDepth 20000 in
theorem gX6_restore_X6_people : GoodIn wsX6_restore (wsV RX6 86 RX6 yX6_people wsX6_people) := goodIn_app (goodIn_of _ (by decide +kernel)) ggX6_restore_X6_people
theorem dX6_restore_0 : decode cX6_restore 0 = .ok (.iload_n 1, 1) := by decide +kernel
theorem dX6_restore_1 : decode cX6_restore 1 = .ok (.iconst 0, 1) := by decide +kernel
theorem dX6_restore_2 : decode cX6_restore 2 = .ok (.iconst 1, 1) := by decide +kernel
theorem dX6_restore_3 : decode cX6_restore 3 = .ok (.invokestatic 47, 3) := by decide +kernel
theorem dX6_restore_6 : decode cX6_restore 6 = .ok (.ifCond .ne 6, 3) := by decide +kernel
theorem dX6_restore_9 : decode cX6_restore 9 = .ok (.bipush (-2), 2) := by decide +kernel
theorem dX6_restore_11 : decode cX6_restore 11 = .ok (.ireturn, 1) := by decide +kernel
theorem dX6_restore_12 : decode cX6_restore 12 = .ok (.aload_n 0, 1) := by decide +kernel
theorem dX6_restore_13 : decode cX6_restore 13 = .ok (.getfield 22, 3) := by decide +kernel
theorem dX6_restore_16 : decode cX6_restore 16 = .ok (.iload_n 1, 1) := by decide +kernel
theorem dX6_restore_17 : decode cX6_restore 17 = .ok (.baload, 1) := by decide +kernel
theorem dX6_restore_18 : decode cX6_restore 18 = .ok (.ifCond .ne 6, 3) := by decide +kernel
theorem dX6_restore_21 : decode cX6_restore 21 = .ok (.bipush (-5), 2) := by decide +kernel
theorem dX6_restore_23 : decode cX6_restore 23 = .ok (.ireturn, 1) := by decide +kernel
theorem dX6_restore_24 : decode cX6_restore 24 = .ok (.aload_n 0, 1) := by decide +kernel
theorem dX6_restore_25 : decode cX6_restore 25 = .ok (.invokevirtual 96, 3) := by decide +kernel
theorem dX6_restore_28 : decode cX6_restore 28 = .ok (.iconst 0, 1) := by decide +kernel
theorem dX6_restore_29 : decode cX6_restore 29 = .ok (.istore_n 2, 1) := by decide +kernel
theorem dX6_restore_30 : decode cX6_restore 30 = .ok (.iload_n 2, 1) := by decide +kernel
theorem dX6_restore_31 : decode cX6_restore 31 = .ok (.sipush 161, 3) := by decide +kernel
theorem dX6_restore_34 : decode cX6_restore 34 = .ok (.if_icmp .ge 27, 3) := by decide +kernel
theorem dX6_restore_37 : decode cX6_restore 37 = .ok (.aload_n 0, 1) := by decide +kernel
theorem dX6_restore_38 : decode cX6_restore 38 = .ok (.getfield 7, 3) := by decide +kernel
theorem dX6_restore_41 : decode cX6_restore 41 = .ok (.iload_n 2, 1) := by decide +kernel
theorem dX6_restore_42 : decode cX6_restore 42 = .ok (.aload_n 0, 1) := by decide +kernel
theorem dX6_restore_43 : decode cX6_restore 43 = .ok (.getfield 19, 3) := by decide +kernel
theorem dX6_restore_46 : decode cX6_restore 46 = .ok (.sipush 161, 3) := by decide +kernel
theorem dX6_restore_49 : decode cX6_restore 49 = .ok (.iload_n 1, 1) := by decide +kernel
theorem dX6_restore_50 : decode cX6_restore 50 = .ok (.imul, 1) := by decide +kernel
theorem dX6_restore_51 : decode cX6_restore 51 = .ok (.iload_n 2, 1) := by decide +kernel
theorem dX6_restore_52 : decode cX6_restore 52 = .ok (.iadd, 1) := by decide +kernel
theorem dX6_restore_53 : decode cX6_restore 53 = .ok (.iaload, 1) := by decide +kernel
theorem dX6_restore_54 : decode cX6_restore 54 = .ok (.iastore, 1) := by decide +kernel
theorem dX6_restore_55 : decode cX6_restore 55 = .ok (.iinc 2 1, 3) := by decide +kernel
theorem dX6_restore_58 : decode cX6_restore 58 = .ok (.goto (-28), 3) := by decide +kernel
theorem dX6_restore_61 : decode cX6_restore 61 = .ok (.aload_n 0, 1) := by decide +kernel
theorem dX6_restore_62 : decode cX6_restore 62 = .ok (.invokevirtual 86, 3) := by decide +kernel
theorem dX6_restore_65 : decode cX6_restore 65 = .ok (.ireturn, 1) := by decide +kernel
