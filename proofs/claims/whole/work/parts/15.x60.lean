theorem dX6_init_0 : decode cX6_init 0 = .ok (.aload_n 0, 1) := by decide +kernel
theorem dX6_init_1 : decode cX6_init 1 = .ok (.invokespecial 1, 3) := by decide +kernel
theorem dX6_init_4 : decode cX6_init 4 = .ok (.aload_n 0, 1) := by decide +kernel
theorem dX6_init_5 : decode cX6_init 5 = .ok (.sipush 161, 3) := by decide +kernel
theorem dX6_init_8 : decode cX6_init 8 = .ok (.newarray .int, 2) := by decide +kernel
theorem dX6_init_10 : decode cX6_init 10 = .ok (.putfield 7, 3) := by decide +kernel
theorem dX6_init_13 : decode cX6_init 13 = .ok (.aload_n 0, 1) := by decide +kernel
theorem dX6_init_14 : decode cX6_init 14 = .ok (.sipush 161, 3) := by decide +kernel
theorem dX6_init_17 : decode cX6_init 17 = .ok (.newarray .int, 2) := by decide +kernel
theorem dX6_init_19 : decode cX6_init 19 = .ok (.putfield 13, 3) := by decide +kernel
theorem dX6_init_22 : decode cX6_init 22 = .ok (.aload_n 0, 1) := by decide +kernel
theorem dX6_init_23 : decode cX6_init 23 = .ok (.sipush 966, 3) := by decide +kernel
theorem dX6_init_26 : decode cX6_init 26 = .ok (.newarray .int, 2) := by decide +kernel
theorem dX6_init_28 : decode cX6_init 28 = .ok (.putfield 16, 3) := by decide +kernel
theorem dX6_init_31 : decode cX6_init 31 = .ok (.aload_n 0, 1) := by decide +kernel
theorem dX6_init_32 : decode cX6_init 32 = .ok (.sipush 322, 3) := by decide +kernel
theorem dX6_init_35 : decode cX6_init 35 = .ok (.newarray .int, 2) := by decide +kernel
theorem dX6_init_37 : decode cX6_init 37 = .ok (.putfield 19, 3) := by decide +kernel
theorem dX6_init_40 : decode cX6_init 40 = .ok (.aload_n 0, 1) := by decide +kernel
theorem dX6_init_41 : decode cX6_init 41 = .ok (.iconst 2, 1) := by decide +kernel
theorem dX6_init_42 : decode cX6_init 42 = .ok (.newarray .boolean, 2) := by decide +kernel
theorem dX6_init_44 : decode cX6_init 44 = .ok (.putfield 22, 3) := by decide +kernel
theorem dX6_init_47 : decode cX6_init 47 = .ok (.aload_n 0, 1) := by decide +kernel
theorem dX6_init_48 : decode cX6_init 48 = .ok (.bipush 60, 2) := by decide +kernel
theorem dX6_init_50 : decode cX6_init 50 = .ok (.newarray .int, 2) := by decide +kernel
theorem dX6_init_52 : decode cX6_init 52 = .ok (.putfield 26, 3) := by decide +kernel
theorem dX6_init_55 : decode cX6_init 55 = .ok (.aload_n 0, 1) := by decide +kernel
theorem dX6_init_56 : decode cX6_init 56 = .ok (.sipush 140, 3) := by decide +kernel
theorem dX6_init_59 : decode cX6_init 59 = .ok (.newarray .int, 2) := by decide +kernel
theorem dX6_init_61 : decode cX6_init 61 = .ok (.putfield 29, 3) := by decide +kernel
theorem dX6_init_64 : decode cX6_init 64 = .ok (.aload_n 0, 1) := by decide +kernel
theorem dX6_init_65 : decode cX6_init 65 = .ok (.bipush 35, 2) := by decide +kernel
theorem dX6_init_67 : decode cX6_init 67 = .ok (.newarray .int, 2) := by decide +kernel
theorem dX6_init_69 : decode cX6_init 69 = .ok (.putfield 32, 3) := by decide +kernel
theorem dX6_init_72 : decode cX6_init 72 = .ok (.aload_n 0, 1) := by decide +kernel
theorem dX6_init_73 : decode cX6_init 73 = .ok (.bipush 35, 2) := by decide +kernel
theorem dX6_init_75 : decode cX6_init 75 = .ok (.newarray .int, 2) := by decide +kernel
theorem dX6_init_77 : decode cX6_init 77 = .ok (.putfield 35, 3) := by decide +kernel
theorem dX6_init_80 : decode cX6_init 80 = .ok (.aload_n 0, 1) := by decide +kernel
theorem dX6_init_81 : decode cX6_init 81 = .ok (.bipush 35, 2) := by decide +kernel
theorem dX6_init_83 : decode cX6_init 83 = .ok (.newarray .int, 2) := by decide +kernel
theorem dX6_init_85 : decode cX6_init 85 = .ok (.putfield 38, 3) := by decide +kernel
theorem dX6_init_88 : decode cX6_init 88 = .ok (.aload_n 0, 1) := by decide +kernel
theorem dX6_init_89 : decode cX6_init 89 = .ok (.bipush 35, 2) := by decide +kernel
theorem dX6_init_91 : decode cX6_init 91 = .ok (.newarray .int, 2) := by decide +kernel
theorem dX6_init_93 : decode cX6_init 93 = .ok (.putfield 41, 3) := by decide +kernel
theorem dX6_init_96 : decode cX6_init 96 = .ok (.aload_n 0, 1) := by decide +kernel
theorem dX6_init_97 : decode cX6_init 97 = .ok (.iconst 3, 1) := by decide +kernel
theorem dX6_init_98 : decode cX6_init 98 = .ok (.newarray .int, 2) := by decide +kernel
theorem dX6_init_100 : decode cX6_init 100 = .ok (.putfield 44, 3) := by decide +kernel
theorem dX6_init_103 : decode cX6_init 103 = .ok (.aload_n 0, 1) := by decide +kernel
theorem dX6_init_104 : decode cX6_init 104 = .ok (.getfield 7, 3) := by decide +kernel
theorem dX6_init_107 : decode cX6_init 107 = .ok (.iconst 0, 1) := by decide +kernel
theorem dX6_init_108 : decode cX6_init 108 = .ok (.bipush 6, 2) := by decide +kernel
theorem dX6_init_110 : decode cX6_init 110 = .ok (.iastore, 1) := by decide +kernel
theorem dX6_init_111 : decode cX6_init 111 = .ok (.aload_n 0, 1) := by decide +kernel
theorem dX6_init_112 : decode cX6_init 112 = .ok (.getfield 7, 3) := by decide +kernel
theorem dX6_init_115 : decode cX6_init 115 = .ok (.bipush 6, 2) := by decide +kernel
theorem dX6_init_117 : decode cX6_init 117 = .ok (.bipush 6, 2) := by decide +kernel
theorem dX6_init_119 : decode cX6_init 119 = .ok (.iastore, 1) := by decide +kernel
theorem dX6_init_120 : decode cX6_init 120 = .ok (.aload_n 0, 1) := by decide +kernel
theorem dX6_init_121 : decode cX6_init 121 = .ok (.getfield 7, 3) := by decide +kernel
theorem dX6_init_124 : decode cX6_init 124 = .ok (.bipush 7, 2) := by decide +kernel
theorem dX6_init_126 : decode cX6_init 126 = .ok (.bipush 28, 2) := by decide +kernel
theorem dX6_init_128 : decode cX6_init 128 = .ok (.iastore, 1) := by decide +kernel
theorem dX6_init_129 : decode cX6_init 129 = .ok (.aload_n 0, 1) := by decide +kernel
theorem dX6_init_130 : decode cX6_init 130 = .ok (.getfield 7, 3) := by decide +kernel
theorem dX6_init_133 : decode cX6_init 133 = .ok (.bipush 8, 2) := by decide +kernel
theorem dX6_init_135 : decode cX6_init 135 = .ok (.bipush 34, 2) := by decide +kernel
theorem dX6_init_137 : decode cX6_init 137 = .ok (.iastore, 1) := by decide +kernel
theorem dX6_init_138 : decode cX6_init 138 = .ok (.iconst 0, 1) := by decide +kernel
theorem dX6_init_139 : decode cX6_init 139 = .ok (.istore_n 1, 1) := by decide +kernel
theorem dX6_init_140 : decode cX6_init 140 = .ok (.iload_n 1, 1) := by decide +kernel
theorem dX6_init_141 : decode cX6_init 141 = .ok (.iconst 4, 1) := by decide +kernel
theorem dX6_init_142 : decode cX6_init 142 = .ok (.if_icmp .ge 42, 3) := by decide +kernel
theorem dX6_init_145 : decode cX6_init 145 = .ok (.aload_n 0, 1) := by decide +kernel
theorem dX6_init_146 : decode cX6_init 146 = .ok (.getfield 7, 3) := by decide +kernel
theorem dX6_init_149 : decode cX6_init 149 = .ok (.bipush 9, 2) := by decide +kernel
theorem dX6_init_151 : decode cX6_init 151 = .ok (.iload_n 1, 1) := by decide +kernel
theorem dX6_init_152 : decode cX6_init 152 = .ok (.iadd, 1) := by decide +kernel
theorem dX6_init_153 : decode cX6_init 153 = .ok (.iconst 1, 1) := by decide +kernel
theorem dX6_init_154 : decode cX6_init 154 = .ok (.iastore, 1) := by decide +kernel
theorem dX6_init_155 : decode cX6_init 155 = .ok (.aload_n 0, 1) := by decide +kernel
theorem dX6_init_156 : decode cX6_init 156 = .ok (.getfield 7, 3) := by decide +kernel
theorem dX6_init_159 : decode cX6_init 159 = .ok (.bipush 13, 2) := by decide +kernel
theorem dX6_init_161 : decode cX6_init 161 = .ok (.iload_n 1, 1) := by decide +kernel
theorem dX6_init_162 : decode cX6_init 162 = .ok (.iadd, 1) := by decide +kernel
theorem dX6_init_163 : decode cX6_init 163 = .ok (.iload_n 1, 1) := by decide +kernel
theorem dX6_init_164 : decode cX6_init 164 = .ok (.ifCond .eq 8, 3) := by decide +kernel
theorem dX6_init_167 : decode cX6_init 167 = .ok (.iload_n 1, 1) := by decide +kernel
theorem dX6_init_168 : decode cX6_init 168 = .ok (.iconst 3, 1) := by decide +kernel
theorem dX6_init_169 : decode cX6_init 169 = .ok (.if_icmp .ne 7, 3) := by decide +kernel
theorem dX6_init_172 : decode cX6_init 172 = .ok (.iconst 1, 1) := by decide +kernel
theorem dX6_init_173 : decode cX6_init 173 = .ok (.goto 4, 3) := by decide +kernel
theorem dX6_init_176 : decode cX6_init 176 = .ok (.iconst 0, 1) := by decide +kernel
theorem dX6_init_177 : decode cX6_init 177 = .ok (.iastore, 1) := by decide +kernel
theorem dX6_init_178 : decode cX6_init 178 = .ok (.iinc 1 1, 3) := by decide +kernel
theorem dX6_init_181 : decode cX6_init 181 = .ok (.goto (-41), 3) := by decide +kernel
theorem dX6_init_184 : decode cX6_init 184 = .ok (.iconst 0, 1) := by decide +kernel
theorem dX6_init_185 : decode cX6_init 185 = .ok (.istore_n 1, 1) := by decide +kernel
theorem dX6_init_186 : decode cX6_init 186 = .ok (.iload_n 1, 1) := by decide +kernel
theorem dX6_init_187 : decode cX6_init 187 = .ok (.bipush 35, 2) := by decide +kernel
theorem dX6_init_189 : decode cX6_init 189 = .ok (.if_icmp .ge 19, 3) := by decide +kernel
theorem dX6_init_192 : decode cX6_init 192 = .ok (.aload_n 0, 1) := by decide +kernel
theorem dX6_init_193 : decode cX6_init 193 = .ok (.getfield 7, 3) := by decide +kernel
theorem dX6_init_196 : decode cX6_init 196 = .ok (.bipush 56, 2) := by decide +kernel
theorem dX6_init_198 : decode cX6_init 198 = .ok (.iload_n 1, 1) := by decide +kernel
theorem dX6_init_199 : decode cX6_init 199 = .ok (.iadd, 1) := by decide +kernel
theorem dX6_init_200 : decode cX6_init 200 = .ok (.iconst (-1), 1) := by decide +kernel
theorem dX6_init_201 : decode cX6_init 201 = .ok (.iastore, 1) := by decide +kernel
theorem dX6_init_202 : decode cX6_init 202 = .ok (.iinc 1 1, 3) := by decide +kernel
theorem dX6_init_205 : decode cX6_init 205 = .ok (.goto (-19), 3) := by decide +kernel
theorem dX6_init_208 : decode cX6_init 208 = .ok (.return_, 1) := by decide +kernel
theorem dX6_in_0 : decode cX6_in 0 = .ok (.iload_n 0, 1) := by decide +kernel
theorem dX6_in_1 : decode cX6_in 1 = .ok (.iload_n 1, 1) := by decide +kernel
theorem dX6_in_2 : decode cX6_in 2 = .ok (.if_icmp .lt 12, 3) := by decide +kernel
theorem dX6_in_5 : decode cX6_in 5 = .ok (.iload_n 0, 1) := by decide +kernel
theorem dX6_in_6 : decode cX6_in 6 = .ok (.iload_n 2, 1) := by decide +kernel
theorem dX6_in_7 : decode cX6_in 7 = .ok (.if_icmp .gt 7, 3) := by decide +kernel
theorem dX6_in_10 : decode cX6_in 10 = .ok (.iconst 1, 1) := by decide +kernel
theorem dX6_in_11 : decode cX6_in 11 = .ok (.goto 4, 3) := by decide +kernel
theorem dX6_in_14 : decode cX6_in 14 = .ok (.iconst 0, 1) := by decide +kernel
theorem dX6_in_15 : decode cX6_in 15 = .ok (.ireturn, 1) := by decide +kernel
set_option maxRecDepth 20000 in
theorem ggX6_isCell_X6_in : GoodIn wsX6_isCell wsX6_in := goodIn_r _ [4] (by decide +kernel) (by decide +kernel)
set_option maxRecDepth 20000 in
theorem gX6_isCell_X6_in : GoodIn wsX6_isCell (va_wsS RX6 47 yX6_in wsX6_in) := goodIn_app (goodIn_of _ (by decide +kernel)) ggX6_isCell_X6_in
theorem dX6_isCell_0 : decode cX6_isCell 0 = .ok (.iload_n 0, 1) := by decide +kernel
theorem dX6_isCell_1 : decode cX6_isCell 1 = .ok (.iconst 0, 1) := by decide +kernel
theorem dX6_isCell_2 : decode cX6_isCell 2 = .ok (.bipush 34, 2) := by decide +kernel
theorem dX6_isCell_4 : decode cX6_isCell 4 = .ok (.invokestatic 47, 3) := by decide +kernel
theorem dX6_isCell_7 : decode cX6_isCell 7 = .ok (.ireturn, 1) := by decide +kernel
set_option maxRecDepth 20000 in
theorem ggX6_isDoor_X6_in : GoodIn wsX6_isDoor wsX6_in := goodIn_r _ [4] (by decide +kernel) (by decide +kernel)
set_option maxRecDepth 20000 in
theorem gX6_isDoor_X6_in : GoodIn wsX6_isDoor (va_wsS RX6 47 yX6_in wsX6_in) := goodIn_app (goodIn_of _ (by decide +kernel)) ggX6_isDoor_X6_in
theorem dX6_isDoor_0 : decode cX6_isDoor 0 = .ok (.iload_n 0, 1) := by decide +kernel
theorem dX6_isDoor_1 : decode cX6_isDoor 1 = .ok (.iconst 0, 1) := by decide +kernel
theorem dX6_isDoor_2 : decode cX6_isDoor 2 = .ok (.iconst 3, 1) := by decide +kernel
theorem dX6_isDoor_3 : decode cX6_isDoor 3 = .ok (.invokestatic 47, 3) := by decide +kernel
theorem dX6_isDoor_6 : decode cX6_isDoor 6 = .ok (.ireturn, 1) := by decide +kernel
theorem dX6_record_0 : decode cX6_record 0 = .ok (.aload_n 0, 1) := by decide +kernel
theorem dX6_record_1 : decode cX6_record 1 = .ok (.getfield 51, 3) := by decide +kernel
theorem dX6_record_4 : decode cX6_record 4 = .ok (.bipush 6, 2) := by decide +kernel
theorem dX6_record_6 : decode cX6_record 6 = .ok (.if_icmp .ne 44, 3) := by decide +kernel
theorem dX6_record_9 : decode cX6_record 9 = .ok (.iconst 0, 1) := by decide +kernel
theorem dX6_record_10 : decode cX6_record 10 = .ok (.istore_n 1, 1) := by decide +kernel
theorem dX6_record_11 : decode cX6_record 11 = .ok (.iload_n 1, 1) := by decide +kernel
theorem dX6_record_12 : decode cX6_record 12 = .ok (.sipush 805, 3) := by decide +kernel
theorem dX6_record_15 : decode cX6_record 15 = .ok (.if_icmp .ge 25, 3) := by decide +kernel
theorem dX6_record_18 : decode cX6_record 18 = .ok (.aload_n 0, 1) := by decide +kernel
theorem dX6_record_19 : decode cX6_record 19 = .ok (.getfield 16, 3) := by decide +kernel
theorem dX6_record_22 : decode cX6_record 22 = .ok (.iload_n 1, 1) := by decide +kernel
theorem dX6_record_23 : decode cX6_record 23 = .ok (.aload_n 0, 1) := by decide +kernel
theorem dX6_record_24 : decode cX6_record 24 = .ok (.getfield 16, 3) := by decide +kernel
theorem dX6_record_27 : decode cX6_record 27 = .ok (.iload_n 1, 1) := by decide +kernel
theorem dX6_record_28 : decode cX6_record 28 = .ok (.sipush 161, 3) := by decide +kernel
theorem dX6_record_31 : decode cX6_record 31 = .ok (.iadd, 1) := by decide +kernel
theorem dX6_record_32 : decode cX6_record 32 = .ok (.iaload, 1) := by decide +kernel
theorem dX6_record_33 : decode cX6_record 33 = .ok (.iastore, 1) := by decide +kernel
theorem dX6_record_34 : decode cX6_record 34 = .ok (.iinc 1 1, 3) := by decide +kernel
theorem dX6_record_37 : decode cX6_record 37 = .ok (.goto (-26), 3) := by decide +kernel
theorem dX6_record_40 : decode cX6_record 40 = .ok (.aload_n 0, 1) := by decide +kernel
theorem dX6_record_41 : decode cX6_record 41 = .ok (.dup, 1) := by decide +kernel
theorem dX6_record_42 : decode cX6_record 42 = .ok (.getfield 51, 3) := by decide +kernel
theorem dX6_record_45 : decode cX6_record 45 = .ok (.iconst 1, 1) := by decide +kernel
theorem dX6_record_46 : decode cX6_record 46 = .ok (.isub, 1) := by decide +kernel
theorem dX6_record_47 : decode cX6_record 47 = .ok (.putfield 51, 3) := by decide +kernel
theorem dX6_record_50 : decode cX6_record 50 = .ok (.iconst 0, 1) := by decide +kernel
theorem dX6_record_51 : decode cX6_record 51 = .ok (.istore_n 1, 1) := by decide +kernel
theorem dX6_record_52 : decode cX6_record 52 = .ok (.iload_n 1, 1) := by decide +kernel
theorem dX6_record_53 : decode cX6_record 53 = .ok (.sipush 161, 3) := by decide +kernel
theorem dX6_record_56 : decode cX6_record 56 = .ok (.if_icmp .ge 30, 3) := by decide +kernel
theorem dX6_record_59 : decode cX6_record 59 = .ok (.aload_n 0, 1) := by decide +kernel
theorem dX6_record_60 : decode cX6_record 60 = .ok (.getfield 16, 3) := by decide +kernel
theorem dX6_record_63 : decode cX6_record 63 = .ok (.sipush 161, 3) := by decide +kernel
theorem dX6_record_66 : decode cX6_record 66 = .ok (.aload_n 0, 1) := by decide +kernel
theorem dX6_record_67 : decode cX6_record 67 = .ok (.getfield 51, 3) := by decide +kernel
theorem dX6_record_70 : decode cX6_record 70 = .ok (.imul, 1) := by decide +kernel
theorem dX6_record_71 : decode cX6_record 71 = .ok (.iload_n 1, 1) := by decide +kernel
theorem dX6_record_72 : decode cX6_record 72 = .ok (.iadd, 1) := by decide +kernel
theorem dX6_record_73 : decode cX6_record 73 = .ok (.aload_n 0, 1) := by decide +kernel
theorem dX6_record_74 : decode cX6_record 74 = .ok (.getfield 7, 3) := by decide +kernel
theorem dX6_record_77 : decode cX6_record 77 = .ok (.iload_n 1, 1) := by decide +kernel
theorem dX6_record_78 : decode cX6_record 78 = .ok (.iaload, 1) := by decide +kernel
theorem dX6_record_79 : decode cX6_record 79 = .ok (.iastore, 1) := by decide +kernel
theorem dX6_record_80 : decode cX6_record 80 = .ok (.iinc 1 1, 3) := by decide +kernel
theorem dX6_record_83 : decode cX6_record 83 = .ok (.goto (-31), 3) := by decide +kernel
theorem dX6_record_86 : decode cX6_record 86 = .ok (.aload_n 0, 1) := by decide +kernel
theorem dX6_record_87 : decode cX6_record 87 = .ok (.dup, 1) := by decide +kernel
theorem dX6_record_88 : decode cX6_record 88 = .ok (.getfield 51, 3) := by decide +kernel
theorem dX6_record_91 : decode cX6_record 91 = .ok (.iconst 1, 1) := by decide +kernel
theorem dX6_record_92 : decode cX6_record 92 = .ok (.iadd, 1) := by decide +kernel
theorem dX6_record_93 : decode cX6_record 93 = .ok (.putfield 51, 3) := by decide +kernel
theorem dX6_record_96 : decode cX6_record 96 = .ok (.return_, 1) := by decide +kernel
theorem dX6_putAside_0 : decode cX6_putAside 0 = .ok (.iconst 0, 1) := by decide +kernel
theorem dX6_putAside_1 : decode cX6_putAside 1 = .ok (.istore_n 1, 1) := by decide +kernel
theorem dX6_putAside_2 : decode cX6_putAside 2 = .ok (.iload_n 1, 1) := by decide +kernel
theorem dX6_putAside_3 : decode cX6_putAside 3 = .ok (.sipush 161, 3) := by decide +kernel
theorem dX6_putAside_6 : decode cX6_putAside 6 = .ok (.if_icmp .ge 21, 3) := by decide +kernel
theorem dX6_putAside_9 : decode cX6_putAside 9 = .ok (.aload_n 0, 1) := by decide +kernel
theorem dX6_putAside_10 : decode cX6_putAside 10 = .ok (.getfield 13, 3) := by decide +kernel
theorem dX6_putAside_13 : decode cX6_putAside 13 = .ok (.iload_n 1, 1) := by decide +kernel
theorem dX6_putAside_14 : decode cX6_putAside 14 = .ok (.aload_n 0, 1) := by decide +kernel
theorem dX6_putAside_15 : decode cX6_putAside 15 = .ok (.getfield 7, 3) := by decide +kernel
theorem dX6_putAside_18 : decode cX6_putAside 18 = .ok (.iload_n 1, 1) := by decide +kernel
theorem dX6_putAside_19 : decode cX6_putAside 19 = .ok (.iaload, 1) := by decide +kernel
theorem dX6_putAside_20 : decode cX6_putAside 20 = .ok (.iastore, 1) := by decide +kernel
theorem dX6_putAside_21 : decode cX6_putAside 21 = .ok (.iinc 1 1, 3) := by decide +kernel
theorem dX6_putAside_24 : decode cX6_putAside 24 = .ok (.goto (-22), 3) := by decide +kernel
theorem dX6_putAside_27 : decode cX6_putAside 27 = .ok (.return_, 1) := by decide +kernel
theorem dX6_putBack_0 : decode cX6_putBack 0 = .ok (.iconst 0, 1) := by decide +kernel
theorem dX6_putBack_1 : decode cX6_putBack 1 = .ok (.istore_n 1, 1) := by decide +kernel
theorem dX6_putBack_2 : decode cX6_putBack 2 = .ok (.iload_n 1, 1) := by decide +kernel
theorem dX6_putBack_3 : decode cX6_putBack 3 = .ok (.sipush 161, 3) := by decide +kernel
theorem dX6_putBack_6 : decode cX6_putBack 6 = .ok (.if_icmp .ge 21, 3) := by decide +kernel
theorem dX6_putBack_9 : decode cX6_putBack 9 = .ok (.aload_n 0, 1) := by decide +kernel
theorem dX6_putBack_10 : decode cX6_putBack 10 = .ok (.getfield 7, 3) := by decide +kernel
theorem dX6_putBack_13 : decode cX6_putBack 13 = .ok (.iload_n 1, 1) := by decide +kernel
theorem dX6_putBack_14 : decode cX6_putBack 14 = .ok (.aload_n 0, 1) := by decide +kernel
theorem dX6_putBack_15 : decode cX6_putBack 15 = .ok (.getfield 13, 3) := by decide +kernel
theorem dX6_putBack_18 : decode cX6_putBack 18 = .ok (.iload_n 1, 1) := by decide +kernel
theorem dX6_putBack_19 : decode cX6_putBack 19 = .ok (.iaload, 1) := by decide +kernel
theorem dX6_putBack_20 : decode cX6_putBack 20 = .ok (.iastore, 1) := by decide +kernel
theorem dX6_putBack_21 : decode cX6_putBack 21 = .ok (.iinc 1 1, 3) := by decide +kernel
theorem dX6_putBack_24 : decode cX6_putBack 24 = .ok (.goto (-22), 3) := by decide +kernel
theorem dX6_putBack_27 : decode cX6_putBack 27 = .ok (.return_, 1) := by decide +kernel
theorem dX6_beside_0 : decode cX6_beside 0 = .ok (.iload_n 1, 1) := by decide +kernel
theorem dX6_beside_1 : decode cX6_beside 1 = .ok (.tableswitch 77 0 2 #[27, 43, 59], 27) := by decide +kernel
theorem dX6_beside_28 : decode cX6_beside 28 = .ok (.iload_n 0, 1) := by decide +kernel
theorem dX6_beside_29 : decode cX6_beside 29 = .ok (.bipush 7, 2) := by decide +kernel
theorem dX6_beside_31 : decode cX6_beside 31 = .ok (.if_icmp .lt 10, 3) := by decide +kernel
theorem dX6_beside_34 : decode cX6_beside 34 = .ok (.iload_n 0, 1) := by decide +kernel
theorem dX6_beside_35 : decode cX6_beside 35 = .ok (.bipush 7, 2) := by decide +kernel
theorem dX6_beside_37 : decode cX6_beside 37 = .ok (.isub, 1) := by decide +kernel
theorem dX6_beside_38 : decode cX6_beside 38 = .ok (.goto 5, 3) := by decide +kernel
theorem dX6_beside_41 : decode cX6_beside 41 = .ok (.bipush (-6), 2) := by decide +kernel
theorem dX6_beside_43 : decode cX6_beside 43 = .ok (.ireturn, 1) := by decide +kernel
theorem dX6_beside_44 : decode cX6_beside 44 = .ok (.iload_n 0, 1) := by decide +kernel
theorem dX6_beside_45 : decode cX6_beside 45 = .ok (.bipush 7, 2) := by decide +kernel
theorem dX6_beside_47 : decode cX6_beside 47 = .ok (.irem, 1) := by decide +kernel
theorem dX6_beside_48 : decode cX6_beside 48 = .ok (.ifCond .le 9, 3) := by decide +kernel
theorem dX6_beside_51 : decode cX6_beside 51 = .ok (.iload_n 0, 1) := by decide +kernel
theorem dX6_beside_52 : decode cX6_beside 52 = .ok (.iconst 1, 1) := by decide +kernel
theorem dX6_beside_53 : decode cX6_beside 53 = .ok (.isub, 1) := by decide +kernel
theorem dX6_beside_54 : decode cX6_beside 54 = .ok (.goto 5, 3) := by decide +kernel
theorem dX6_beside_57 : decode cX6_beside 57 = .ok (.bipush (-6), 2) := by decide +kernel
theorem dX6_beside_59 : decode cX6_beside 59 = .ok (.ireturn, 1) := by decide +kernel
theorem dX6_beside_60 : decode cX6_beside 60 = .ok (.iload_n 0, 1) := by decide +kernel
theorem dX6_beside_61 : decode cX6_beside 61 = .ok (.bipush 7, 2) := by decide +kernel
theorem dX6_beside_63 : decode cX6_beside 63 = .ok (.irem, 1) := by decide +kernel
theorem dX6_beside_64 : decode cX6_beside 64 = .ok (.bipush 6, 2) := by decide +kernel
theorem dX6_beside_66 : decode cX6_beside 66 = .ok (.if_icmp .ge 9, 3) := by decide +kernel
theorem dX6_beside_69 : decode cX6_beside 69 = .ok (.iload_n 0, 1) := by decide +kernel
theorem dX6_beside_70 : decode cX6_beside 70 = .ok (.iconst 1, 1) := by decide +kernel
theorem dX6_beside_71 : decode cX6_beside 71 = .ok (.iadd, 1) := by decide +kernel
theorem dX6_beside_72 : decode cX6_beside 72 = .ok (.goto 5, 3) := by decide +kernel
theorem dX6_beside_75 : decode cX6_beside 75 = .ok (.bipush (-6), 2) := by decide +kernel
theorem dX6_beside_77 : decode cX6_beside 77 = .ok (.ireturn, 1) := by decide +kernel
theorem dX6_beside_78 : decode cX6_beside 78 = .ok (.iload_n 0, 1) := by decide +kernel
theorem dX6_beside_79 : decode cX6_beside 79 = .ok (.bipush 7, 2) := by decide +kernel
theorem dX6_beside_81 : decode cX6_beside 81 = .ok (.idiv, 1) := by decide +kernel
theorem dX6_beside_82 : decode cX6_beside 82 = .ok (.iconst 4, 1) := by decide +kernel
theorem dX6_beside_83 : decode cX6_beside 83 = .ok (.if_icmp .ge 10, 3) := by decide +kernel
theorem dX6_beside_86 : decode cX6_beside 86 = .ok (.iload_n 0, 1) := by decide +kernel
theorem dX6_beside_87 : decode cX6_beside 87 = .ok (.bipush 7, 2) := by decide +kernel
theorem dX6_beside_89 : decode cX6_beside 89 = .ok (.iadd, 1) := by decide +kernel
theorem dX6_beside_90 : decode cX6_beside 90 = .ok (.goto 5, 3) := by decide +kernel
theorem dX6_beside_93 : decode cX6_beside 93 = .ok (.bipush (-6), 2) := by decide +kernel
theorem dX6_beside_95 : decode cX6_beside 95 = .ok (.ireturn, 1) := by decide +kernel
theorem dX6_ropeAt_0 : decode cX6_ropeAt 0 = .ok (.bipush 91, 2) := by decide +kernel
theorem dX6_ropeAt_2 : decode cX6_ropeAt 2 = .ok (.iload_n 1, 1) := by decide +kernel
theorem dX6_ropeAt_3 : decode cX6_ropeAt 3 = .ok (.ifCond .ne 14, 3) := by decide +kernel
theorem dX6_ropeAt_6 : decode cX6_ropeAt 6 = .ok (.iconst 2, 1) := by decide +kernel
theorem dX6_ropeAt_7 : decode cX6_ropeAt 7 = .ok (.iload_n 0, 1) := by decide +kernel
theorem dX6_ropeAt_8 : decode cX6_ropeAt 8 = .ok (.bipush 7, 2) := by decide +kernel
theorem dX6_ropeAt_10 : decode cX6_ropeAt 10 = .ok (.isub, 1) := by decide +kernel
theorem dX6_ropeAt_11 : decode cX6_ropeAt 11 = .ok (.imul, 1) := by decide +kernel
theorem dX6_ropeAt_12 : decode cX6_ropeAt 12 = .ok (.iconst 1, 1) := by decide +kernel
theorem dX6_ropeAt_13 : decode cX6_ropeAt 13 = .ok (.iadd, 1) := by decide +kernel
theorem dX6_ropeAt_14 : decode cX6_ropeAt 14 = .ok (.goto 32, 3) := by decide +kernel
theorem dX6_ropeAt_17 : decode cX6_ropeAt 17 = .ok (.iload_n 1, 1) := by decide +kernel
theorem dX6_ropeAt_18 : decode cX6_ropeAt 18 = .ok (.iconst 1, 1) := by decide +kernel
theorem dX6_ropeAt_19 : decode cX6_ropeAt 19 = .ok (.if_icmp .ne 11, 3) := by decide +kernel
theorem dX6_ropeAt_22 : decode cX6_ropeAt 22 = .ok (.iconst 2, 1) := by decide +kernel
theorem dX6_ropeAt_23 : decode cX6_ropeAt 23 = .ok (.iload_n 0, 1) := by decide +kernel
theorem dX6_ropeAt_24 : decode cX6_ropeAt 24 = .ok (.iconst 1, 1) := by decide +kernel
theorem dX6_ropeAt_25 : decode cX6_ropeAt 25 = .ok (.isub, 1) := by decide +kernel
theorem dX6_ropeAt_26 : decode cX6_ropeAt 26 = .ok (.imul, 1) := by decide +kernel
theorem dX6_ropeAt_27 : decode cX6_ropeAt 27 = .ok (.goto 19, 3) := by decide +kernel
theorem dX6_ropeAt_30 : decode cX6_ropeAt 30 = .ok (.iload_n 1, 1) := by decide +kernel
theorem dX6_ropeAt_31 : decode cX6_ropeAt 31 = .ok (.iconst 2, 1) := by decide +kernel
theorem dX6_ropeAt_32 : decode cX6_ropeAt 32 = .ok (.if_icmp .ne 9, 3) := by decide +kernel
theorem dX6_ropeAt_35 : decode cX6_ropeAt 35 = .ok (.iconst 2, 1) := by decide +kernel
theorem dX6_ropeAt_36 : decode cX6_ropeAt 36 = .ok (.iload_n 0, 1) := by decide +kernel
theorem dX6_ropeAt_37 : decode cX6_ropeAt 37 = .ok (.imul, 1) := by decide +kernel
theorem dX6_ropeAt_38 : decode cX6_ropeAt 38 = .ok (.goto 8, 3) := by decide +kernel
theorem dX6_ropeAt_41 : decode cX6_ropeAt 41 = .ok (.iconst 2, 1) := by decide +kernel
theorem dX6_ropeAt_42 : decode cX6_ropeAt 42 = .ok (.iload_n 0, 1) := by decide +kernel
theorem dX6_ropeAt_43 : decode cX6_ropeAt 43 = .ok (.imul, 1) := by decide +kernel
theorem dX6_ropeAt_44 : decode cX6_ropeAt 44 = .ok (.iconst 1, 1) := by decide +kernel
theorem dX6_ropeAt_45 : decode cX6_ropeAt 45 = .ok (.iadd, 1) := by decide +kernel
theorem dX6_ropeAt_46 : decode cX6_ropeAt 46 = .ok (.iadd, 1) := by decide +kernel
theorem dX6_ropeAt_47 : decode cX6_ropeAt 47 = .ok (.ireturn, 1) := by decide +kernel
set_option maxRecDepth 20000 in
theorem ggX6_isFree_X6_beside : GoodIn wsX6_isFree wsX6_beside := goodIn_r _ [5] (by decide +kernel) (by decide +kernel)
set_option maxRecDepth 20000 in
theorem gX6_isFree_X6_beside : GoodIn wsX6_isFree (va_wsS RX6 55 yX6_beside wsX6_beside) := goodIn_app (goodIn_of _ (by decide +kernel)) ggX6_isFree_X6_beside
set_option maxRecDepth 20000 in
theorem ggX6_isFree_X6_ropeAt : GoodIn wsX6_isFree wsX6_ropeAt := goodIn_r _ [8] (by decide +kernel) (by decide +kernel)
set_option maxRecDepth 20000 in
theorem gX6_isFree_X6_ropeAt : GoodIn wsX6_isFree (va_wsS RX6 59 yX6_ropeAt wsX6_ropeAt) := goodIn_app (goodIn_of _ (by decide +kernel)) ggX6_isFree_X6_ropeAt
theorem dX6_isFree_0 : decode cX6_isFree 0 = .ok (.iload_n 1, 1) := by decide +kernel
theorem dX6_isFree_1 : decode cX6_isFree 1 = .ok (.iload_n 2, 1) := by decide +kernel
theorem dX6_isFree_2 : decode cX6_isFree 2 = .ok (.invokestatic 55, 3) := by decide +kernel
theorem dX6_isFree_5 : decode cX6_isFree 5 = .ok (.bipush (-6), 2) := by decide +kernel
theorem dX6_isFree_7 : decode cX6_isFree 7 = .ok (.if_icmp .eq 20, 3) := by decide +kernel
theorem dX6_isFree_10 : decode cX6_isFree 10 = .ok (.aload_n 0, 1) := by decide +kernel
theorem dX6_isFree_11 : decode cX6_isFree 11 = .ok (.getfield 7, 3) := by decide +kernel
theorem dX6_isFree_14 : decode cX6_isFree 14 = .ok (.iload_n 1, 1) := by decide +kernel
theorem dX6_isFree_15 : decode cX6_isFree 15 = .ok (.iload_n 2, 1) := by decide +kernel
theorem dX6_isFree_16 : decode cX6_isFree 16 = .ok (.invokestatic 59, 3) := by decide +kernel
theorem dX6_isFree_19 : decode cX6_isFree 19 = .ok (.iaload, 1) := by decide +kernel
theorem dX6_isFree_20 : decode cX6_isFree 20 = .ok (.ifCond .ne 7, 3) := by decide +kernel
theorem dX6_isFree_23 : decode cX6_isFree 23 = .ok (.iconst 1, 1) := by decide +kernel
theorem dX6_isFree_24 : decode cX6_isFree 24 = .ok (.goto 4, 3) := by decide +kernel
theorem dX6_isFree_27 : decode cX6_isFree 27 = .ok (.iconst 0, 1) := by decide +kernel
theorem dX6_isFree_28 : decode cX6_isFree 28 = .ok (.ireturn, 1) := by decide +kernel
set_option maxRecDepth 20000 in
theorem ggX6_hasRope_X6_beside : GoodIn wsX6_hasRope wsX6_beside := goodIn_r _ [5] (by decide +kernel) (by decide +kernel)
set_option maxRecDepth 20000 in
theorem gX6_hasRope_X6_beside : GoodIn wsX6_hasRope (va_wsS RX6 55 yX6_beside wsX6_beside) := goodIn_app (goodIn_of _ (by decide +kernel)) ggX6_hasRope_X6_beside
set_option maxRecDepth 20000 in
theorem ggX6_hasRope_X6_ropeAt : GoodIn wsX6_hasRope wsX6_ropeAt := goodIn_r _ [8] (by decide +kernel) (by decide +kernel)
set_option maxRecDepth 20000 in
theorem gX6_hasRope_X6_ropeAt : GoodIn wsX6_hasRope (va_wsS RX6 59 yX6_ropeAt wsX6_ropeAt) := goodIn_app (goodIn_of _ (by decide +kernel)) ggX6_hasRope_X6_ropeAt
theorem dX6_hasRope_0 : decode cX6_hasRope 0 = .ok (.iload_n 1, 1) := by decide +kernel
theorem dX6_hasRope_1 : decode cX6_hasRope 1 = .ok (.iload_n 2, 1) := by decide +kernel
theorem dX6_hasRope_2 : decode cX6_hasRope 2 = .ok (.invokestatic 55, 3) := by decide +kernel
theorem dX6_hasRope_5 : decode cX6_hasRope 5 = .ok (.bipush (-6), 2) := by decide +kernel
theorem dX6_hasRope_7 : decode cX6_hasRope 7 = .ok (.if_icmp .eq 21, 3) := by decide +kernel
theorem dX6_hasRope_10 : decode cX6_hasRope 10 = .ok (.aload_n 0, 1) := by decide +kernel
theorem dX6_hasRope_11 : decode cX6_hasRope 11 = .ok (.getfield 7, 3) := by decide +kernel
theorem dX6_hasRope_14 : decode cX6_hasRope 14 = .ok (.iload_n 1, 1) := by decide +kernel
theorem dX6_hasRope_15 : decode cX6_hasRope 15 = .ok (.iload_n 2, 1) := by decide +kernel
theorem dX6_hasRope_16 : decode cX6_hasRope 16 = .ok (.invokestatic 59, 3) := by decide +kernel
theorem dX6_hasRope_19 : decode cX6_hasRope 19 = .ok (.iaload, 1) := by decide +kernel
theorem dX6_hasRope_20 : decode cX6_hasRope 20 = .ok (.iconst 1, 1) := by decide +kernel
theorem dX6_hasRope_21 : decode cX6_hasRope 21 = .ok (.if_icmp .ne 7, 3) := by decide +kernel
theorem dX6_hasRope_24 : decode cX6_hasRope 24 = .ok (.iconst 1, 1) := by decide +kernel
theorem dX6_hasRope_25 : decode cX6_hasRope 25 = .ok (.goto 4, 3) := by decide +kernel
theorem dX6_hasRope_28 : decode cX6_hasRope 28 = .ok (.iconst 0, 1) := by decide +kernel
theorem dX6_hasRope_29 : decode cX6_hasRope 29 = .ok (.ireturn, 1) := by decide +kernel
set_option maxRecDepth 20000 in
theorem ggX6_layFar_X6_isFree : GoodIn wsX6_layFar wsX6_isFree := goodIn_r _ [7, 2, 8, 9, 6, 10, 11, 12, 13, 14, 15, 16, 17, 18, 19, 20, 21, 22, 23, 24, 25, 26, 27, 28, 29] (by decide +kernel) (by decide +kernel)
set_option maxRecDepth 20000 in
theorem gX6_layFar_X6_isFree : GoodIn wsX6_layFar (wsV RX6 62 RX6 yX6_isFree wsX6_isFree) := goodIn_app (goodIn_of _ (by decide +kernel)) ggX6_layFar_X6_isFree
set_option maxRecDepth 20000 in
theorem ggX6_layFar_X6_beside : GoodIn wsX6_layFar wsX6_beside := goodIn_r _ [10] (by decide +kernel) (by decide +kernel)
set_option maxRecDepth 20000 in
theorem gX6_layFar_X6_beside : GoodIn wsX6_layFar (va_wsS RX6 55 yX6_beside wsX6_beside) := goodIn_app (goodIn_of _ (by decide +kernel)) ggX6_layFar_X6_beside
theorem dX6_layFar_0 : decode cX6_layFar 0 = .ok (.bipush 35, 2) := by decide +kernel
theorem dX6_layFar_2 : decode cX6_layFar 2 = .ok (.iload_n 1, 1) := by decide +kernel
theorem dX6_layFar_3 : decode cX6_layFar 3 = .ok (.imul, 1) := by decide +kernel
theorem dX6_layFar_4 : decode cX6_layFar 4 = .ok (.istore_n 2, 1) := by decide +kernel
theorem dX6_layFar_5 : decode cX6_layFar 5 = .ok (.iconst 0, 1) := by decide +kernel
theorem dX6_layFar_6 : decode cX6_layFar 6 = .ok (.istore_n 3, 1) := by decide +kernel
theorem dX6_layFar_7 : decode cX6_layFar 7 = .ok (.iload_n 3, 1) := by decide +kernel
theorem dX6_layFar_8 : decode cX6_layFar 8 = .ok (.bipush 35, 2) := by decide +kernel
theorem dX6_layFar_10 : decode cX6_layFar 10 = .ok (.if_icmp .ge 35, 3) := by decide +kernel
theorem dX6_layFar_13 : decode cX6_layFar 13 = .ok (.aload_n 0, 1) := by decide +kernel
theorem dX6_layFar_14 : decode cX6_layFar 14 = .ok (.getfield 29, 3) := by decide +kernel
theorem dX6_layFar_17 : decode cX6_layFar 17 = .ok (.iload_n 2, 1) := by decide +kernel
theorem dX6_layFar_18 : decode cX6_layFar 18 = .ok (.iload_n 3, 1) := by decide +kernel
theorem dX6_layFar_19 : decode cX6_layFar 19 = .ok (.iadd, 1) := by decide +kernel
theorem dX6_layFar_20 : decode cX6_layFar 20 = .ok (.iload_n 3, 1) := by decide +kernel
theorem dX6_layFar_21 : decode cX6_layFar 21 = .ok (.aload_n 0, 1) := by decide +kernel
theorem dX6_layFar_22 : decode cX6_layFar 22 = .ok (.getfield 7, 3) := by decide +kernel
theorem dX6_layFar_25 : decode cX6_layFar 25 = .ok (.iconst 5, 1) := by decide +kernel
theorem dX6_layFar_26 : decode cX6_layFar 26 = .ok (.iload_n 1, 1) := by decide +kernel
theorem dX6_layFar_27 : decode cX6_layFar 27 = .ok (.iadd, 1) := by decide +kernel
theorem dX6_layFar_28 : decode cX6_layFar 28 = .ok (.iaload, 1) := by decide +kernel
theorem dX6_layFar_29 : decode cX6_layFar 29 = .ok (.if_icmp .ne 7, 3) := by decide +kernel
theorem dX6_layFar_32 : decode cX6_layFar 32 = .ok (.iconst 0, 1) := by decide +kernel
theorem dX6_layFar_33 : decode cX6_layFar 33 = .ok (.goto 5, 3) := by decide +kernel
theorem dX6_layFar_36 : decode cX6_layFar 36 = .ok (.bipush 100, 2) := by decide +kernel
theorem dX6_layFar_38 : decode cX6_layFar 38 = .ok (.iastore, 1) := by decide +kernel
theorem dX6_layFar_39 : decode cX6_layFar 39 = .ok (.iinc 3 1, 3) := by decide +kernel
theorem dX6_layFar_42 : decode cX6_layFar 42 = .ok (.goto (-35), 3) := by decide +kernel
theorem dX6_layFar_45 : decode cX6_layFar 45 = .ok (.iconst 1, 1) := by decide +kernel
theorem dX6_layFar_46 : decode cX6_layFar 46 = .ok (.istore_n 3, 1) := by decide +kernel
theorem dX6_layFar_47 : decode cX6_layFar 47 = .ok (.iload_n 3, 1) := by decide +kernel
theorem dX6_layFar_48 : decode cX6_layFar 48 = .ok (.ifCond .eq 103, 3) := by decide +kernel
theorem dX6_layFar_51 : decode cX6_layFar 51 = .ok (.iconst 0, 1) := by decide +kernel
theorem dX6_layFar_52 : decode cX6_layFar 52 = .ok (.istore_n 3, 1) := by decide +kernel
theorem dX6_layFar_53 : decode cX6_layFar 53 = .ok (.iconst 0, 1) := by decide +kernel
theorem dX6_layFar_54 : decode cX6_layFar 54 = .ok (.istore 4, 2) := by decide +kernel
theorem dX6_layFar_56 : decode cX6_layFar 56 = .ok (.iload 4, 2) := by decide +kernel
theorem dX6_layFar_58 : decode cX6_layFar 58 = .ok (.sipush 140, 3) := by decide +kernel
theorem dX6_layFar_61 : decode cX6_layFar 61 = .ok (.if_icmp .ge 87, 3) := by decide +kernel
theorem dX6_layFar_64 : decode cX6_layFar 64 = .ok (.iload 4, 2) := by decide +kernel
theorem dX6_layFar_66 : decode cX6_layFar 66 = .ok (.iconst 4, 1) := by decide +kernel
theorem dX6_layFar_67 : decode cX6_layFar 67 = .ok (.idiv, 1) := by decide +kernel
theorem dX6_layFar_68 : decode cX6_layFar 68 = .ok (.istore 5, 2) := by decide +kernel
theorem dX6_layFar_70 : decode cX6_layFar 70 = .ok (.aload_n 0, 1) := by decide +kernel
theorem dX6_layFar_71 : decode cX6_layFar 71 = .ok (.iload 5, 2) := by decide +kernel
theorem dX6_layFar_73 : decode cX6_layFar 73 = .ok (.iload 4, 2) := by decide +kernel
theorem dX6_layFar_75 : decode cX6_layFar 75 = .ok (.iconst 4, 1) := by decide +kernel
theorem dX6_layFar_76 : decode cX6_layFar 76 = .ok (.irem, 1) := by decide +kernel
theorem dX6_layFar_77 : decode cX6_layFar 77 = .ok (.invokevirtual 62, 3) := by decide +kernel
theorem dX6_layFar_80 : decode cX6_layFar 80 = .ok (.ifCond .eq 62, 3) := by decide +kernel
theorem dX6_layFar_83 : decode cX6_layFar 83 = .ok (.aload_n 0, 1) := by decide +kernel
theorem dX6_layFar_84 : decode cX6_layFar 84 = .ok (.getfield 29, 3) := by decide +kernel
theorem dX6_layFar_87 : decode cX6_layFar 87 = .ok (.iload_n 2, 1) := by decide +kernel
theorem dX6_layFar_88 : decode cX6_layFar 88 = .ok (.iload 5, 2) := by decide +kernel
theorem dX6_layFar_90 : decode cX6_layFar 90 = .ok (.iload 4, 2) := by decide +kernel
theorem dX6_layFar_92 : decode cX6_layFar 92 = .ok (.iconst 4, 1) := by decide +kernel
theorem dX6_layFar_93 : decode cX6_layFar 93 = .ok (.irem, 1) := by decide +kernel
theorem dX6_layFar_94 : decode cX6_layFar 94 = .ok (.invokestatic 55, 3) := by decide +kernel
theorem dX6_layFar_97 : decode cX6_layFar 97 = .ok (.iadd, 1) := by decide +kernel
theorem dX6_layFar_98 : decode cX6_layFar 98 = .ok (.iaload, 1) := by decide +kernel
theorem dX6_layFar_99 : decode cX6_layFar 99 = .ok (.iconst 1, 1) := by decide +kernel
theorem dX6_layFar_100 : decode cX6_layFar 100 = .ok (.iadd, 1) := by decide +kernel
theorem dX6_layFar_101 : decode cX6_layFar 101 = .ok (.aload_n 0, 1) := by decide +kernel
theorem dX6_layFar_102 : decode cX6_layFar 102 = .ok (.getfield 29, 3) := by decide +kernel
theorem dX6_layFar_105 : decode cX6_layFar 105 = .ok (.iload_n 2, 1) := by decide +kernel
theorem dX6_layFar_106 : decode cX6_layFar 106 = .ok (.iload 5, 2) := by decide +kernel
theorem dX6_layFar_108 : decode cX6_layFar 108 = .ok (.iadd, 1) := by decide +kernel
theorem dX6_layFar_109 : decode cX6_layFar 109 = .ok (.iaload, 1) := by decide +kernel
theorem dX6_layFar_110 : decode cX6_layFar 110 = .ok (.if_icmp .ge 32, 3) := by decide +kernel
theorem dX6_layFar_113 : decode cX6_layFar 113 = .ok (.aload_n 0, 1) := by decide +kernel
theorem dX6_layFar_114 : decode cX6_layFar 114 = .ok (.getfield 29, 3) := by decide +kernel
theorem dX6_layFar_117 : decode cX6_layFar 117 = .ok (.iload_n 2, 1) := by decide +kernel
theorem dX6_layFar_118 : decode cX6_layFar 118 = .ok (.iload 5, 2) := by decide +kernel
theorem dX6_layFar_120 : decode cX6_layFar 120 = .ok (.iadd, 1) := by decide +kernel
theorem dX6_layFar_121 : decode cX6_layFar 121 = .ok (.aload_n 0, 1) := by decide +kernel
theorem dX6_layFar_122 : decode cX6_layFar 122 = .ok (.getfield 29, 3) := by decide +kernel
theorem dX6_layFar_125 : decode cX6_layFar 125 = .ok (.iload_n 2, 1) := by decide +kernel
theorem dX6_layFar_126 : decode cX6_layFar 126 = .ok (.iload 5, 2) := by decide +kernel
theorem dX6_layFar_128 : decode cX6_layFar 128 = .ok (.iload 4, 2) := by decide +kernel
theorem dX6_layFar_130 : decode cX6_layFar 130 = .ok (.iconst 4, 1) := by decide +kernel
theorem dX6_layFar_131 : decode cX6_layFar 131 = .ok (.irem, 1) := by decide +kernel
theorem dX6_layFar_132 : decode cX6_layFar 132 = .ok (.invokestatic 55, 3) := by decide +kernel
theorem dX6_layFar_135 : decode cX6_layFar 135 = .ok (.iadd, 1) := by decide +kernel
theorem dX6_layFar_136 : decode cX6_layFar 136 = .ok (.iaload, 1) := by decide +kernel
theorem dX6_layFar_137 : decode cX6_layFar 137 = .ok (.iconst 1, 1) := by decide +kernel
theorem dX6_layFar_138 : decode cX6_layFar 138 = .ok (.iadd, 1) := by decide +kernel
theorem dX6_layFar_139 : decode cX6_layFar 139 = .ok (.iastore, 1) := by decide +kernel
theorem dX6_layFar_140 : decode cX6_layFar 140 = .ok (.iconst 1, 1) := by decide +kernel
theorem dX6_layFar_141 : decode cX6_layFar 141 = .ok (.istore_n 3, 1) := by decide +kernel
theorem dX6_layFar_142 : decode cX6_layFar 142 = .ok (.iinc 4 1, 3) := by decide +kernel
theorem dX6_layFar_145 : decode cX6_layFar 145 = .ok (.goto (-89), 3) := by decide +kernel
theorem dX6_layFar_148 : decode cX6_layFar 148 = .ok (.goto (-101), 3) := by decide +kernel
theorem dX6_layFar_151 : decode cX6_layFar 151 = .ok (.return_, 1) := by decide +kernel
theorem dX6_leads_0 : decode cX6_leads 0 = .ok (.aload_n 0, 1) := by decide +kernel
theorem dX6_leads_1 : decode cX6_leads 1 = .ok (.getfield 7, 3) := by decide +kernel
theorem dX6_leads_4 : decode cX6_leads 4 = .ok (.bipush 13, 2) := by decide +kernel
theorem dX6_leads_6 : decode cX6_leads 6 = .ok (.iload_n 2, 1) := by decide +kernel
theorem dX6_leads_7 : decode cX6_leads 7 = .ok (.iadd, 1) := by decide +kernel
theorem dX6_leads_8 : decode cX6_leads 8 = .ok (.iaload, 1) := by decide +kernel
theorem dX6_leads_9 : decode cX6_leads 9 = .ok (.iconst 1, 1) := by decide +kernel
theorem dX6_leads_10 : decode cX6_leads 10 = .ok (.if_icmp .ne 23, 3) := by decide +kernel
theorem dX6_leads_13 : decode cX6_leads 13 = .ok (.aload_n 0, 1) := by decide +kernel
theorem dX6_leads_14 : decode cX6_leads 14 = .ok (.getfield 29, 3) := by decide +kernel
theorem dX6_leads_17 : decode cX6_leads 17 = .ok (.bipush 35, 2) := by decide +kernel
theorem dX6_leads_19 : decode cX6_leads 19 = .ok (.iload_n 2, 1) := by decide +kernel
theorem dX6_leads_20 : decode cX6_leads 20 = .ok (.imul, 1) := by decide +kernel
theorem dX6_leads_21 : decode cX6_leads 21 = .ok (.iload_n 1, 1) := by decide +kernel
theorem dX6_leads_22 : decode cX6_leads 22 = .ok (.iadd, 1) := by decide +kernel
theorem dX6_leads_23 : decode cX6_leads 23 = .ok (.iaload, 1) := by decide +kernel
theorem dX6_leads_24 : decode cX6_leads 24 = .ok (.bipush 100, 2) := by decide +kernel
theorem dX6_leads_26 : decode cX6_leads 26 = .ok (.if_icmp .ge 7, 3) := by decide +kernel
theorem dX6_leads_29 : decode cX6_leads 29 = .ok (.iconst 1, 1) := by decide +kernel
theorem dX6_leads_30 : decode cX6_leads 30 = .ok (.goto 4, 3) := by decide +kernel
theorem dX6_leads_33 : decode cX6_leads 33 = .ok (.iconst 0, 1) := by decide +kernel
theorem dX6_leads_34 : decode cX6_leads 34 = .ok (.ireturn, 1) := by decide +kernel
set_option maxRecDepth 20000 in
theorem ggX6_goalOf_X6_leads : GoodIn wsX6_goalOf wsX6_leads := goodIn_r _ [7, 1, 2, 8, 9, 10, 11, 12, 13, 14, 15, 16, 17, 18, 19, 20, 21, 22, 23] (by decide +kernel) (by decide +kernel)
set_option maxRecDepth 20000 in
theorem gX6_goalOf_X6_leads : GoodIn wsX6_goalOf (wsV RX6 66 RX6 yX6_leads wsX6_leads) := goodIn_app (goodIn_of _ (by decide +kernel)) ggX6_goalOf_X6_leads
theorem dX6_goalOf_0 : decode cX6_goalOf 0 = .ok (.aload_n 0, 1) := by decide +kernel
theorem dX6_goalOf_1 : decode cX6_goalOf 1 = .ok (.getfield 7, 3) := by decide +kernel
theorem dX6_goalOf_4 : decode cX6_goalOf 4 = .ok (.bipush 56, 2) := by decide +kernel
theorem dX6_goalOf_6 : decode cX6_goalOf 6 = .ok (.iload_n 1, 1) := by decide +kernel
theorem dX6_goalOf_7 : decode cX6_goalOf 7 = .ok (.iadd, 1) := by decide +kernel
theorem dX6_goalOf_8 : decode cX6_goalOf 8 = .ok (.iaload, 1) := by decide +kernel
theorem dX6_goalOf_9 : decode cX6_goalOf 9 = .ok (.istore_n 2, 1) := by decide +kernel
theorem dX6_goalOf_10 : decode cX6_goalOf 10 = .ok (.iload_n 2, 1) := by decide +kernel
theorem dX6_goalOf_11 : decode cX6_goalOf 11 = .ok (.ifCond .lt 14, 3) := by decide +kernel
theorem dX6_goalOf_14 : decode cX6_goalOf 14 = .ok (.aload_n 0, 1) := by decide +kernel
theorem dX6_goalOf_15 : decode cX6_goalOf 15 = .ok (.iload_n 1, 1) := by decide +kernel
theorem dX6_goalOf_16 : decode cX6_goalOf 16 = .ok (.iload_n 2, 1) := by decide +kernel
theorem dX6_goalOf_17 : decode cX6_goalOf 17 = .ok (.invokevirtual 66, 3) := by decide +kernel
theorem dX6_goalOf_20 : decode cX6_goalOf 20 = .ok (.ifCond .eq 5, 3) := by decide +kernel
theorem dX6_goalOf_23 : decode cX6_goalOf 23 = .ok (.iload_n 2, 1) := by decide +kernel
theorem dX6_goalOf_24 : decode cX6_goalOf 24 = .ok (.ireturn, 1) := by decide +kernel
theorem dX6_goalOf_25 : decode cX6_goalOf 25 = .ok (.bipush (-6), 2) := by decide +kernel
theorem dX6_goalOf_27 : decode cX6_goalOf 27 = .ok (.istore_n 3, 1) := by decide +kernel
theorem dX6_goalOf_28 : decode cX6_goalOf 28 = .ok (.iconst 3, 1) := by decide +kernel
theorem dX6_goalOf_29 : decode cX6_goalOf 29 = .ok (.istore 4, 2) := by decide +kernel
theorem dX6_goalOf_31 : decode cX6_goalOf 31 = .ok (.iload 4, 2) := by decide +kernel
theorem dX6_goalOf_33 : decode cX6_goalOf 33 = .ok (.ifCond .lt 58, 3) := by decide +kernel
theorem dX6_goalOf_36 : decode cX6_goalOf 36 = .ok (.aload_n 0, 1) := by decide +kernel
theorem dX6_goalOf_37 : decode cX6_goalOf 37 = .ok (.iload_n 1, 1) := by decide +kernel
theorem dX6_goalOf_38 : decode cX6_goalOf 38 = .ok (.iload 4, 2) := by decide +kernel
theorem dX6_goalOf_40 : decode cX6_goalOf 40 = .ok (.invokevirtual 66, 3) := by decide +kernel
theorem dX6_goalOf_43 : decode cX6_goalOf 43 = .ok (.ifCond .eq 40, 3) := by decide +kernel
theorem dX6_goalOf_46 : decode cX6_goalOf 46 = .ok (.iload_n 3, 1) := by decide +kernel
theorem dX6_goalOf_47 : decode cX6_goalOf 47 = .ok (.bipush (-6), 2) := by decide +kernel
theorem dX6_goalOf_49 : decode cX6_goalOf 49 = .ok (.if_icmp .eq 29, 3) := by decide +kernel
theorem dX6_goalOf_52 : decode cX6_goalOf 52 = .ok (.aload_n 0, 1) := by decide +kernel
theorem dX6_goalOf_53 : decode cX6_goalOf 53 = .ok (.getfield 29, 3) := by decide +kernel
theorem dX6_goalOf_56 : decode cX6_goalOf 56 = .ok (.bipush 35, 2) := by decide +kernel
theorem dX6_goalOf_58 : decode cX6_goalOf 58 = .ok (.iload 4, 2) := by decide +kernel
theorem dX6_goalOf_60 : decode cX6_goalOf 60 = .ok (.imul, 1) := by decide +kernel
theorem dX6_goalOf_61 : decode cX6_goalOf 61 = .ok (.iload_n 1, 1) := by decide +kernel
theorem dX6_goalOf_62 : decode cX6_goalOf 62 = .ok (.iadd, 1) := by decide +kernel
theorem dX6_goalOf_63 : decode cX6_goalOf 63 = .ok (.iaload, 1) := by decide +kernel
theorem dX6_goalOf_64 : decode cX6_goalOf 64 = .ok (.aload_n 0, 1) := by decide +kernel
theorem dX6_goalOf_65 : decode cX6_goalOf 65 = .ok (.getfield 29, 3) := by decide +kernel
theorem dX6_goalOf_68 : decode cX6_goalOf 68 = .ok (.bipush 35, 2) := by decide +kernel
theorem dX6_goalOf_70 : decode cX6_goalOf 70 = .ok (.iload_n 3, 1) := by decide +kernel
theorem dX6_goalOf_71 : decode cX6_goalOf 71 = .ok (.imul, 1) := by decide +kernel
theorem dX6_goalOf_72 : decode cX6_goalOf 72 = .ok (.iload_n 1, 1) := by decide +kernel
theorem dX6_goalOf_73 : decode cX6_goalOf 73 = .ok (.iadd, 1) := by decide +kernel
theorem dX6_goalOf_74 : decode cX6_goalOf 74 = .ok (.iaload, 1) := by decide +kernel
theorem dX6_goalOf_75 : decode cX6_goalOf 75 = .ok (.if_icmp .gt 8, 3) := by decide +kernel
theorem dX6_goalOf_78 : decode cX6_goalOf 78 = .ok (.iload 4, 2) := by decide +kernel
theorem dX6_goalOf_80 : decode cX6_goalOf 80 = .ok (.goto 4, 3) := by decide +kernel
theorem dX6_goalOf_83 : decode cX6_goalOf 83 = .ok (.iload_n 3, 1) := by decide +kernel
theorem dX6_goalOf_84 : decode cX6_goalOf 84 = .ok (.istore_n 3, 1) := by decide +kernel
theorem dX6_goalOf_85 : decode cX6_goalOf 85 = .ok (.iinc 4 (-1), 3) := by decide +kernel
theorem dX6_goalOf_88 : decode cX6_goalOf 88 = .ok (.goto (-57), 3) := by decide +kernel
theorem dX6_goalOf_91 : decode cX6_goalOf 91 = .ok (.iload_n 3, 1) := by decide +kernel
theorem dX6_goalOf_92 : decode cX6_goalOf 92 = .ok (.ireturn, 1) := by decide +kernel
set_option maxRecDepth 20000 in
theorem ggX6_nextOf_X6_isFree : GoodIn wsX6_nextOf wsX6_isFree := goodIn_r _ [8, 9, 10, 11, 7, 12, 13, 14, 15, 16, 17, 18, 19, 20, 21, 22, 23, 24, 25, 26, 27, 28, 29, 30, 31] (by decide +kernel) (by decide +kernel)
set_option maxRecDepth 20000 in
theorem gX6_nextOf_X6_isFree : GoodIn wsX6_nextOf (wsV RX6 62 RX6 yX6_isFree wsX6_isFree) := goodIn_app (goodIn_of _ (by decide +kernel)) ggX6_nextOf_X6_isFree
set_option maxRecDepth 20000 in
theorem ggX6_nextOf_X6_beside : GoodIn wsX6_nextOf wsX6_beside := goodIn_r _ [12] (by decide +kernel) (by decide +kernel)
set_option maxRecDepth 20000 in
theorem gX6_nextOf_X6_beside : GoodIn wsX6_nextOf (va_wsS RX6 55 yX6_beside wsX6_beside) := goodIn_app (goodIn_of _ (by decide +kernel)) ggX6_nextOf_X6_beside
theorem dX6_nextOf_0 : decode cX6_nextOf 0 = .ok (.bipush (-6), 2) := by decide +kernel
theorem dX6_nextOf_2 : decode cX6_nextOf 2 = .ok (.istore_n 2, 1) := by decide +kernel
theorem dX6_nextOf_3 : decode cX6_nextOf 3 = .ok (.iconst 3, 1) := by decide +kernel
theorem dX6_nextOf_4 : decode cX6_nextOf 4 = .ok (.istore_n 3, 1) := by decide +kernel
theorem dX6_nextOf_5 : decode cX6_nextOf 5 = .ok (.iload_n 3, 1) := by decide +kernel
theorem dX6_nextOf_6 : decode cX6_nextOf 6 = .ok (.ifCond .lt 91, 3) := by decide +kernel
theorem dX6_nextOf_9 : decode cX6_nextOf 9 = .ok (.aload_n 0, 1) := by decide +kernel
theorem dX6_nextOf_10 : decode cX6_nextOf 10 = .ok (.getfield 32, 3) := by decide +kernel
theorem dX6_nextOf_13 : decode cX6_nextOf 13 = .ok (.iload_n 1, 1) := by decide +kernel
theorem dX6_nextOf_14 : decode cX6_nextOf 14 = .ok (.iaload, 1) := by decide +kernel
theorem dX6_nextOf_15 : decode cX6_nextOf 15 = .ok (.bipush (-6), 2) := by decide +kernel
theorem dX6_nextOf_17 : decode cX6_nextOf 17 = .ok (.if_icmp .eq 80, 3) := by decide +kernel
theorem dX6_nextOf_20 : decode cX6_nextOf 20 = .ok (.aload_n 0, 1) := by decide +kernel
theorem dX6_nextOf_21 : decode cX6_nextOf 21 = .ok (.getfield 35, 3) := by decide +kernel
theorem dX6_nextOf_24 : decode cX6_nextOf 24 = .ok (.iload_n 1, 1) := by decide +kernel
theorem dX6_nextOf_25 : decode cX6_nextOf 25 = .ok (.iaload, 1) := by decide +kernel
theorem dX6_nextOf_26 : decode cX6_nextOf 26 = .ok (.ifCond .le 71, 3) := by decide +kernel
theorem dX6_nextOf_29 : decode cX6_nextOf 29 = .ok (.aload_n 0, 1) := by decide +kernel
theorem dX6_nextOf_30 : decode cX6_nextOf 30 = .ok (.iload_n 1, 1) := by decide +kernel
theorem dX6_nextOf_31 : decode cX6_nextOf 31 = .ok (.iload_n 3, 1) := by decide +kernel
theorem dX6_nextOf_32 : decode cX6_nextOf 32 = .ok (.invokevirtual 62, 3) := by decide +kernel
theorem dX6_nextOf_35 : decode cX6_nextOf 35 = .ok (.ifCond .eq 38, 3) := by decide +kernel
theorem dX6_nextOf_38 : decode cX6_nextOf 38 = .ok (.aload_n 0, 1) := by decide +kernel
theorem dX6_nextOf_39 : decode cX6_nextOf 39 = .ok (.getfield 29, 3) := by decide +kernel
theorem dX6_nextOf_42 : decode cX6_nextOf 42 = .ok (.bipush 35, 2) := by decide +kernel
theorem dX6_nextOf_44 : decode cX6_nextOf 44 = .ok (.aload_n 0, 1) := by decide +kernel
theorem dX6_nextOf_45 : decode cX6_nextOf 45 = .ok (.getfield 32, 3) := by decide +kernel
theorem dX6_nextOf_48 : decode cX6_nextOf 48 = .ok (.iload_n 1, 1) := by decide +kernel
theorem dX6_nextOf_49 : decode cX6_nextOf 49 = .ok (.iaload, 1) := by decide +kernel
theorem dX6_nextOf_50 : decode cX6_nextOf 50 = .ok (.imul, 1) := by decide +kernel
theorem dX6_nextOf_51 : decode cX6_nextOf 51 = .ok (.iload_n 1, 1) := by decide +kernel
theorem dX6_nextOf_52 : decode cX6_nextOf 52 = .ok (.iload_n 3, 1) := by decide +kernel
theorem dX6_nextOf_53 : decode cX6_nextOf 53 = .ok (.invokestatic 55, 3) := by decide +kernel
theorem dX6_nextOf_56 : decode cX6_nextOf 56 = .ok (.iadd, 1) := by decide +kernel
theorem dX6_nextOf_57 : decode cX6_nextOf 57 = .ok (.iaload, 1) := by decide +kernel
theorem dX6_nextOf_58 : decode cX6_nextOf 58 = .ok (.aload_n 0, 1) := by decide +kernel
theorem dX6_nextOf_59 : decode cX6_nextOf 59 = .ok (.getfield 35, 3) := by decide +kernel
theorem dX6_nextOf_62 : decode cX6_nextOf 62 = .ok (.iload_n 1, 1) := by decide +kernel
theorem dX6_nextOf_63 : decode cX6_nextOf 63 = .ok (.iaload, 1) := by decide +kernel
theorem dX6_nextOf_64 : decode cX6_nextOf 64 = .ok (.iconst 1, 1) := by decide +kernel
theorem dX6_nextOf_65 : decode cX6_nextOf 65 = .ok (.isub, 1) := by decide +kernel
theorem dX6_nextOf_66 : decode cX6_nextOf 66 = .ok (.if_icmp .ne 7, 3) := by decide +kernel
theorem dX6_nextOf_69 : decode cX6_nextOf 69 = .ok (.iconst 1, 1) := by decide +kernel
theorem dX6_nextOf_70 : decode cX6_nextOf 70 = .ok (.goto 4, 3) := by decide +kernel
theorem dX6_nextOf_73 : decode cX6_nextOf 73 = .ok (.iconst 0, 1) := by decide +kernel
theorem dX6_nextOf_74 : decode cX6_nextOf 74 = .ok (.istore 4, 2) := by decide +kernel
theorem dX6_nextOf_76 : decode cX6_nextOf 76 = .ok (.iload 4, 2) := by decide +kernel
theorem dX6_nextOf_78 : decode cX6_nextOf 78 = .ok (.ifCond .eq 11, 3) := by decide +kernel
theorem dX6_nextOf_81 : decode cX6_nextOf 81 = .ok (.iload_n 1, 1) := by decide +kernel
theorem dX6_nextOf_82 : decode cX6_nextOf 82 = .ok (.iload_n 3, 1) := by decide +kernel
theorem dX6_nextOf_83 : decode cX6_nextOf 83 = .ok (.invokestatic 55, 3) := by decide +kernel
theorem dX6_nextOf_86 : decode cX6_nextOf 86 = .ok (.goto 4, 3) := by decide +kernel
theorem dX6_nextOf_89 : decode cX6_nextOf 89 = .ok (.iload_n 2, 1) := by decide +kernel
theorem dX6_nextOf_90 : decode cX6_nextOf 90 = .ok (.istore_n 2, 1) := by decide +kernel
theorem dX6_nextOf_91 : decode cX6_nextOf 91 = .ok (.iinc 3 (-1), 3) := by decide +kernel
theorem dX6_nextOf_94 : decode cX6_nextOf 94 = .ok (.goto (-89), 3) := by decide +kernel
theorem dX6_nextOf_97 : decode cX6_nextOf 97 = .ok (.iload_n 2, 1) := by decide +kernel
theorem dX6_nextOf_98 : decode cX6_nextOf 98 = .ok (.ireturn, 1) := by decide +kernel
set_option maxRecDepth 20000 in
theorem ggX6_layWays_X6_layFar : GoodIn wsX6_layWays wsX6_layFar := goodIn_r _ [9, 3, 10, 11, 12, 13, 8, 14, 15, 16, 17, 18, 19, 20, 33, 34, 35, 36, 37, 38, 39, 40, 41, 42, 43, 44, 45, 46, 47, 48] (by decide +kernel) (by decide +kernel)
set_option maxRecDepth 20000 in
theorem gX6_layWays_X6_layFar : GoodIn wsX6_layWays (wsV RX6 69 RX6 yX6_layFar wsX6_layFar) := goodIn_app (goodIn_of _ (by decide +kernel)) ggX6_layWays_X6_layFar
set_option maxRecDepth 20000 in
theorem ggX6_layWays_X6_goalOf : GoodIn wsX6_layWays wsX6_goalOf := goodIn_r _ [24, 10, 3, 25, 26, 27, 8, 28, 33, 34, 35, 36, 37, 38, 39, 40, 41, 42, 43, 44, 45, 46, 47, 48] (by decide +kernel) (by decide +kernel)
set_option maxRecDepth 20000 in
theorem gX6_layWays_X6_goalOf : GoodIn wsX6_layWays (wsV RX6 73 RX6 yX6_goalOf wsX6_goalOf) := goodIn_app (goodIn_of _ (by decide +kernel)) ggX6_layWays_X6_goalOf
set_option maxRecDepth 20000 in
theorem ggX6_layWays_X6_nextOf : GoodIn wsX6_layWays wsX6_nextOf := goodIn_r _ [32, 1, 2, 3, 11, 12, 13, 8, 14, 10, 15, 16, 17, 18, 19, 20, 33, 34, 35, 36, 37, 38, 39, 40, 41, 42, 43, 44, 45, 46, 47, 48] (by decide +kernel) (by decide +kernel)
set_option maxRecDepth 20000 in
theorem gX6_layWays_X6_nextOf : GoodIn wsX6_layWays (wsV RX6 77 RX6 yX6_nextOf wsX6_nextOf) := goodIn_app (goodIn_of _ (by decide +kernel)) ggX6_layWays_X6_nextOf
theorem dX6_layWays_0 : decode cX6_layWays 0 = .ok (.iconst 0, 1) := by decide +kernel
theorem dX6_layWays_1 : decode cX6_layWays 1 = .ok (.istore_n 1, 1) := by decide +kernel
theorem dX6_layWays_2 : decode cX6_layWays 2 = .ok (.iload_n 1, 1) := by decide +kernel
theorem dX6_layWays_3 : decode cX6_layWays 3 = .ok (.iconst 4, 1) := by decide +kernel
theorem dX6_layWays_4 : decode cX6_layWays 4 = .ok (.if_icmp .ge 14, 3) := by decide +kernel
theorem dX6_layWays_7 : decode cX6_layWays 7 = .ok (.aload_n 0, 1) := by decide +kernel
theorem dX6_layWays_8 : decode cX6_layWays 8 = .ok (.iload_n 1, 1) := by decide +kernel
theorem dX6_layWays_9 : decode cX6_layWays 9 = .ok (.invokevirtual 69, 3) := by decide +kernel
theorem dX6_layWays_12 : decode cX6_layWays 12 = .ok (.iinc 1 1, 3) := by decide +kernel
theorem dX6_layWays_15 : decode cX6_layWays 15 = .ok (.goto (-13), 3) := by decide +kernel
theorem dX6_layWays_18 : decode cX6_layWays 18 = .ok (.iconst 0, 1) := by decide +kernel
theorem dX6_layWays_19 : decode cX6_layWays 19 = .ok (.istore_n 1, 1) := by decide +kernel
theorem dX6_layWays_20 : decode cX6_layWays 20 = .ok (.iload_n 1, 1) := by decide +kernel
theorem dX6_layWays_21 : decode cX6_layWays 21 = .ok (.bipush 35, 2) := by decide +kernel
theorem dX6_layWays_23 : decode cX6_layWays 23 = .ok (.if_icmp .ge 69, 3) := by decide +kernel
theorem dX6_layWays_26 : decode cX6_layWays 26 = .ok (.aload_n 0, 1) := by decide +kernel
theorem dX6_layWays_27 : decode cX6_layWays 27 = .ok (.getfield 32, 3) := by decide +kernel
theorem dX6_layWays_30 : decode cX6_layWays 30 = .ok (.iload_n 1, 1) := by decide +kernel
theorem dX6_layWays_31 : decode cX6_layWays 31 = .ok (.aload_n 0, 1) := by decide +kernel
theorem dX6_layWays_32 : decode cX6_layWays 32 = .ok (.iload_n 1, 1) := by decide +kernel
theorem dX6_layWays_33 : decode cX6_layWays 33 = .ok (.invokevirtual 73, 3) := by decide +kernel
theorem dX6_layWays_36 : decode cX6_layWays 36 = .ok (.iastore, 1) := by decide +kernel
theorem dX6_layWays_37 : decode cX6_layWays 37 = .ok (.aload_n 0, 1) := by decide +kernel
theorem dX6_layWays_38 : decode cX6_layWays 38 = .ok (.getfield 35, 3) := by decide +kernel
theorem dX6_layWays_41 : decode cX6_layWays 41 = .ok (.iload_n 1, 1) := by decide +kernel
theorem dX6_layWays_42 : decode cX6_layWays 42 = .ok (.aload_n 0, 1) := by decide +kernel
theorem dX6_layWays_43 : decode cX6_layWays 43 = .ok (.getfield 32, 3) := by decide +kernel
theorem dX6_layWays_46 : decode cX6_layWays 46 = .ok (.iload_n 1, 1) := by decide +kernel
theorem dX6_layWays_47 : decode cX6_layWays 47 = .ok (.iaload, 1) := by decide +kernel
theorem dX6_layWays_48 : decode cX6_layWays 48 = .ok (.bipush (-6), 2) := by decide +kernel
theorem dX6_layWays_50 : decode cX6_layWays 50 = .ok (.if_icmp .ne 8, 3) := by decide +kernel
theorem dX6_layWays_53 : decode cX6_layWays 53 = .ok (.bipush (-6), 2) := by decide +kernel
theorem dX6_layWays_55 : decode cX6_layWays 55 = .ok (.goto 19, 3) := by decide +kernel
theorem dX6_layWays_58 : decode cX6_layWays 58 = .ok (.aload_n 0, 1) := by decide +kernel
theorem dX6_layWays_59 : decode cX6_layWays 59 = .ok (.getfield 29, 3) := by decide +kernel
theorem dX6_layWays_62 : decode cX6_layWays 62 = .ok (.bipush 35, 2) := by decide +kernel
theorem dX6_layWays_64 : decode cX6_layWays 64 = .ok (.aload_n 0, 1) := by decide +kernel
theorem dX6_layWays_65 : decode cX6_layWays 65 = .ok (.getfield 32, 3) := by decide +kernel
theorem dX6_layWays_68 : decode cX6_layWays 68 = .ok (.iload_n 1, 1) := by decide +kernel
theorem dX6_layWays_69 : decode cX6_layWays 69 = .ok (.iaload, 1) := by decide +kernel
theorem dX6_layWays_70 : decode cX6_layWays 70 = .ok (.imul, 1) := by decide +kernel
theorem dX6_layWays_71 : decode cX6_layWays 71 = .ok (.iload_n 1, 1) := by decide +kernel
theorem dX6_layWays_72 : decode cX6_layWays 72 = .ok (.iadd, 1) := by decide +kernel
theorem dX6_layWays_73 : decode cX6_layWays 73 = .ok (.iaload, 1) := by decide +kernel
theorem dX6_layWays_74 : decode cX6_layWays 74 = .ok (.iastore, 1) := by decide +kernel
theorem dX6_layWays_75 : decode cX6_layWays 75 = .ok (.aload_n 0, 1) := by decide +kernel
theorem dX6_layWays_76 : decode cX6_layWays 76 = .ok (.getfield 38, 3) := by decide +kernel
theorem dX6_layWays_79 : decode cX6_layWays 79 = .ok (.iload_n 1, 1) := by decide +kernel
theorem dX6_layWays_80 : decode cX6_layWays 80 = .ok (.aload_n 0, 1) := by decide +kernel
theorem dX6_layWays_81 : decode cX6_layWays 81 = .ok (.iload_n 1, 1) := by decide +kernel
theorem dX6_layWays_82 : decode cX6_layWays 82 = .ok (.invokevirtual 77, 3) := by decide +kernel
theorem dX6_layWays_85 : decode cX6_layWays 85 = .ok (.iastore, 1) := by decide +kernel
theorem dX6_layWays_86 : decode cX6_layWays 86 = .ok (.iinc 1 1, 3) := by decide +kernel
theorem dX6_layWays_89 : decode cX6_layWays 89 = .ok (.goto (-69), 3) := by decide +kernel
theorem dX6_layWays_92 : decode cX6_layWays 92 = .ok (.return_, 1) := by decide +kernel
theorem dX6_letsOut_0 : decode cX6_letsOut 0 = .ok (.aload_n 0, 1) := by decide +kernel
theorem dX6_letsOut_1 : decode cX6_letsOut 1 = .ok (.getfield 7, 3) := by decide +kernel
theorem dX6_letsOut_4 : decode cX6_letsOut 4 = .ok (.iconst 5, 1) := by decide +kernel
theorem dX6_letsOut_5 : decode cX6_letsOut 5 = .ok (.iload_n 1, 1) := by decide +kernel
theorem dX6_letsOut_6 : decode cX6_letsOut 6 = .ok (.iadd, 1) := by decide +kernel
theorem dX6_letsOut_7 : decode cX6_letsOut 7 = .ok (.iaload, 1) := by decide +kernel
theorem dX6_letsOut_8 : decode cX6_letsOut 8 = .ok (.istore_n 2, 1) := by decide +kernel
theorem dX6_letsOut_9 : decode cX6_letsOut 9 = .ok (.aload_n 0, 1) := by decide +kernel
theorem dX6_letsOut_10 : decode cX6_letsOut 10 = .ok (.getfield 7, 3) := by decide +kernel
theorem dX6_letsOut_13 : decode cX6_letsOut 13 = .ok (.bipush 21, 2) := by decide +kernel
