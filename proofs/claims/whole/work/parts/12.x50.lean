set_option maxRecDepth 20000 in
theorem ggX5_init_X1_init : GoodIn wsX5_init wsX1_init := goodIn_r _ [30, 31, 2, 3, 32, 33, 34, 35, 26, 36, 37, 38, 39, 40, 67, 68, 69, 70, 71, 72, 73, 74, 75, 76, 77, 78] (by decide +kernel) (by decide +kernel)
set_option maxRecDepth 20000 in
theorem gX5_init_X1_init : GoodIn wsX5_init (wsX1_init) := ggX5_init_X1_init
set_option maxRecDepth 20000 in
theorem ggX5_init_X4_init : GoodIn wsX5_init wsX4_init := goodIn_r _ [42, 43, 2, 3, 33, 44, 45, 46, 47, 48, 89, 90, 91, 92, 93, 94] (by decide +kernel) (by decide +kernel)
set_option maxRecDepth 20000 in
theorem gX5_init_X4_init_n18 : GoodIn wsX5_init (wsX4_init) := ggX5_init_X4_init
set_option maxRecDepth 20000 in
theorem ggX5_init_X2_init : GoodIn wsX5_init wsX2_init := goodIn_r _ [50, 51, 2, 3, 33, 52, 95] (by decide +kernel) (by decide +kernel)
set_option maxRecDepth 20000 in
theorem gX5_init_X2_init_n25 : GoodIn wsX5_init (wsX2_init) := ggX5_init_X2_init
set_option maxRecDepth 20000 in
theorem ggX5_init_X0_init : GoodIn wsX5_init wsX0_init := goodIn_r _ [54, 55, 2, 3, 56, 5, 6, 57, 58, 9, 10, 59, 60, 13, 14, 61, 62, 29, 30, 31, 32, 33, 34, 35, 26, 36, 37, 38, 39, 40, 41, 42, 43, 44, 45, 46, 47, 48, 49, 50, 51, 52, 67, 68, 69, 70, 71, 72, 73, 74, 75, 76, 77, 78, 96, 97, 98, 89, 90, 91, 92, 93, 94, 95] (by decide +kernel) (by decide +kernel)
set_option maxRecDepth 20000 in
theorem gX5_init_X0_init_n32 : GoodIn wsX5_init (wsX0_init) := ggX5_init_X0_init
set_option maxRecDepth 20000 in
theorem ggX5_init_X3_init : GoodIn wsX5_init wsX3_init := goodIn_r _ [64, 65, 2, 3, 33, 66, 99, 100] (by decide +kernel) (by decide +kernel)
set_option maxRecDepth 20000 in
theorem gX5_init_X3_init_n39 : GoodIn wsX5_init (wsX3_init) := ggX5_init_X3_init
theorem dX5_init_0 : decode cX5_init 0 = .ok (.aload_n 0, 1) := by decide +kernel
theorem dX5_init_1 : decode cX5_init 1 = .ok (.invokespecial 3, 3) := by decide +kernel
theorem dX5_init_4 : decode cX5_init 4 = .ok (.aload_n 0, 1) := by decide +kernel
theorem dX5_init_5 : decode cX5_init 5 = .ok (.new 9, 3) := by decide +kernel
theorem dX5_init_8 : decode cX5_init 8 = .ok (.dup, 1) := by decide +kernel
theorem dX5_init_9 : decode cX5_init 9 = .ok (.invokespecial 11, 3) := by decide +kernel
theorem dX5_init_12 : decode cX5_init 12 = .ok (.putfield 12, 3) := by decide +kernel
theorem dX5_init_15 : decode cX5_init 15 = .ok (.aload_n 0, 1) := by decide +kernel
theorem dX5_init_16 : decode cX5_init 16 = .ok (.new 16, 3) := by decide +kernel
theorem dX5_init_19 : decode cX5_init 19 = .ok (.dup, 1) := by decide +kernel
theorem dX5_init_20 : decode cX5_init 20 = .ok (.invokespecial 18, 3) := by decide +kernel
theorem dX5_init_23 : decode cX5_init 23 = .ok (.putfield 19, 3) := by decide +kernel
theorem dX5_init_26 : decode cX5_init 26 = .ok (.aload_n 0, 1) := by decide +kernel
theorem dX5_init_27 : decode cX5_init 27 = .ok (.new 23, 3) := by decide +kernel
theorem dX5_init_30 : decode cX5_init 30 = .ok (.dup, 1) := by decide +kernel
theorem dX5_init_31 : decode cX5_init 31 = .ok (.invokespecial 25, 3) := by decide +kernel
theorem dX5_init_34 : decode cX5_init 34 = .ok (.putfield 26, 3) := by decide +kernel
theorem dX5_init_37 : decode cX5_init 37 = .ok (.aload_n 0, 1) := by decide +kernel
theorem dX5_init_38 : decode cX5_init 38 = .ok (.new 30, 3) := by decide +kernel
theorem dX5_init_41 : decode cX5_init 41 = .ok (.dup, 1) := by decide +kernel
theorem dX5_init_42 : decode cX5_init 42 = .ok (.invokespecial 32, 3) := by decide +kernel
theorem dX5_init_45 : decode cX5_init 45 = .ok (.putfield 33, 3) := by decide +kernel
theorem dX5_init_48 : decode cX5_init 48 = .ok (.aload_n 0, 1) := by decide +kernel
theorem dX5_init_49 : decode cX5_init 49 = .ok (.new 37, 3) := by decide +kernel
theorem dX5_init_52 : decode cX5_init 52 = .ok (.dup, 1) := by decide +kernel
theorem dX5_init_53 : decode cX5_init 53 = .ok (.invokespecial 39, 3) := by decide +kernel
theorem dX5_init_56 : decode cX5_init 56 = .ok (.putfield 40, 3) := by decide +kernel
theorem dX5_init_59 : decode cX5_init 59 = .ok (.aload_n 0, 1) := by decide +kernel
theorem dX5_init_60 : decode cX5_init 60 = .ok (.bipush 6, 2) := by decide +kernel
theorem dX5_init_62 : decode cX5_init 62 = .ok (.anewarray 9, 3) := by decide +kernel
theorem dX5_init_65 : decode cX5_init 65 = .ok (.putfield 44, 3) := by decide +kernel
theorem dX5_init_68 : decode cX5_init 68 = .ok (.aload_n 0, 1) := by decide +kernel
theorem dX5_init_69 : decode cX5_init 69 = .ok (.iconst 2, 1) := by decide +kernel
theorem dX5_init_70 : decode cX5_init 70 = .ok (.anewarray 9, 3) := by decide +kernel
theorem dX5_init_73 : decode cX5_init 73 = .ok (.putfield 48, 3) := by decide +kernel
theorem dX5_init_76 : decode cX5_init 76 = .ok (.aload_n 0, 1) := by decide +kernel
theorem dX5_init_77 : decode cX5_init 77 = .ok (.iconst 2, 1) := by decide +kernel
theorem dX5_init_78 : decode cX5_init 78 = .ok (.newarray .boolean, 2) := by decide +kernel
theorem dX5_init_80 : decode cX5_init 80 = .ok (.putfield 51, 3) := by decide +kernel
theorem dX5_init_83 : decode cX5_init 83 = .ok (.iconst 0, 1) := by decide +kernel
theorem dX5_init_84 : decode cX5_init 84 = .ok (.istore_n 1, 1) := by decide +kernel
theorem dX5_init_85 : decode cX5_init 85 = .ok (.iload_n 1, 1) := by decide +kernel
theorem dX5_init_86 : decode cX5_init 86 = .ok (.bipush 6, 2) := by decide +kernel
theorem dX5_init_88 : decode cX5_init 88 = .ok (.if_icmp .ge 22, 3) := by decide +kernel
theorem dX5_init_91 : decode cX5_init 91 = .ok (.aload_n 0, 1) := by decide +kernel
theorem dX5_init_92 : decode cX5_init 92 = .ok (.getfield 44, 3) := by decide +kernel
theorem dX5_init_95 : decode cX5_init 95 = .ok (.iload_n 1, 1) := by decide +kernel
theorem dX5_init_96 : decode cX5_init 96 = .ok (.new 9, 3) := by decide +kernel
theorem dX5_init_99 : decode cX5_init 99 = .ok (.dup, 1) := by decide +kernel
theorem dX5_init_100 : decode cX5_init 100 = .ok (.invokespecial 11, 3) := by decide +kernel
theorem dX5_init_103 : decode cX5_init 103 = .ok (.aastore, 1) := by decide +kernel
theorem dX5_init_104 : decode cX5_init 104 = .ok (.iinc 1 1, 3) := by decide +kernel
theorem dX5_init_107 : decode cX5_init 107 = .ok (.goto (-22), 3) := by decide +kernel
theorem dX5_init_110 : decode cX5_init 110 = .ok (.iconst 0, 1) := by decide +kernel
theorem dX5_init_111 : decode cX5_init 111 = .ok (.istore_n 1, 1) := by decide +kernel
theorem dX5_init_112 : decode cX5_init 112 = .ok (.iload_n 1, 1) := by decide +kernel
theorem dX5_init_113 : decode cX5_init 113 = .ok (.iconst 2, 1) := by decide +kernel
theorem dX5_init_114 : decode cX5_init 114 = .ok (.if_icmp .ge 22, 3) := by decide +kernel
theorem dX5_init_117 : decode cX5_init 117 = .ok (.aload_n 0, 1) := by decide +kernel
theorem dX5_init_118 : decode cX5_init 118 = .ok (.getfield 48, 3) := by decide +kernel
theorem dX5_init_121 : decode cX5_init 121 = .ok (.iload_n 1, 1) := by decide +kernel
theorem dX5_init_122 : decode cX5_init 122 = .ok (.new 9, 3) := by decide +kernel
theorem dX5_init_125 : decode cX5_init 125 = .ok (.dup, 1) := by decide +kernel
theorem dX5_init_126 : decode cX5_init 126 = .ok (.invokespecial 11, 3) := by decide +kernel
theorem dX5_init_129 : decode cX5_init 129 = .ok (.aastore, 1) := by decide +kernel
theorem dX5_init_130 : decode cX5_init 130 = .ok (.iinc 1 1, 3) := by decide +kernel
theorem dX5_init_133 : decode cX5_init 133 = .ok (.goto (-21), 3) := by decide +kernel
theorem dX5_init_136 : decode cX5_init 136 = .ok (.return_, 1) := by decide +kernel
set_option maxRecDepth 20000 in
theorem ggX5_setRoom_X1_fullestCell : GoodIn wsX5_setRoom wsX1_fullestCell := goodIn_r _ [7, 8, 9, 10, 11, 12, 56, 57, 58, 59, 60, 61, 62, 63, 64, 65, 66, 67] (by decide +kernel) (by decide +kernel)
set_option maxRecDepth 20000 in
theorem gX5_setRoom_X1_fullestCell : GoodIn wsX5_setRoom (wsV RX5 55 RX1 yX1_fullestCell wsX1_fullestCell) := goodIn_app (goodIn_of _ (by decide +kernel)) ggX5_setRoom_X1_fullestCell
set_option maxRecDepth 20000 in
theorem ggX5_setRoom_X5_remember : GoodIn wsX5_setRoom wsX5_remember := goodIn_r _ [17, 18, 1, 19, 20, 21, 11, 22, 23, 24, 25, 16, 26, 27, 28, 29, 30, 31, 32, 33, 6, 34, 35, 36, 37, 38, 39, 8, 40, 41, 42, 43, 44, 45, 46, 47, 48, 49, 50, 51, 52, 53, 54, 55, 56, 57, 58, 59, 60, 61, 62, 63, 64, 65, 66, 67] (by decide +kernel) (by decide +kernel)
set_option maxRecDepth 20000 in
theorem gX5_setRoom_X5_remember : GoodIn wsX5_setRoom (wsV RX5 59 RX5 yX5_remember wsX5_remember) := goodIn_app (goodIn_of _ (by decide +kernel)) ggX5_setRoom_X5_remember
theorem dX5_setRoom_0 : decode cX5_setRoom 0 = .ok (.iload_n 1, 1) := by decide +kernel
theorem dX5_setRoom_1 : decode cX5_setRoom 1 = .ok (.iconst 1, 1) := by decide +kernel
theorem dX5_setRoom_2 : decode cX5_setRoom 2 = .ok (.if_icmp .lt 9, 3) := by decide +kernel
theorem dX5_setRoom_5 : decode cX5_setRoom 5 = .ok (.iload_n 1, 1) := by decide +kernel
theorem dX5_setRoom_6 : decode cX5_setRoom 6 = .ok (.bipush 20, 2) := by decide +kernel
theorem dX5_setRoom_8 : decode cX5_setRoom 8 = .ok (.if_icmp .le 6, 3) := by decide +kernel
theorem dX5_setRoom_11 : decode cX5_setRoom 11 = .ok (.bipush (-2), 2) := by decide +kernel
theorem dX5_setRoom_13 : decode cX5_setRoom 13 = .ok (.ireturn, 1) := by decide +kernel
theorem dX5_setRoom_14 : decode cX5_setRoom 14 = .ok (.aload_n 0, 1) := by decide +kernel
theorem dX5_setRoom_15 : decode cX5_setRoom 15 = .ok (.getfield 12, 3) := by decide +kernel
theorem dX5_setRoom_18 : decode cX5_setRoom 18 = .ok (.invokevirtual 55, 3) := by decide +kernel
theorem dX5_setRoom_21 : decode cX5_setRoom 21 = .ok (.iload_n 1, 1) := by decide +kernel
theorem dX5_setRoom_22 : decode cX5_setRoom 22 = .ok (.if_icmp .le 6, 3) := by decide +kernel
theorem dX5_setRoom_25 : decode cX5_setRoom 25 = .ok (.bipush (-5), 2) := by decide +kernel
theorem dX5_setRoom_27 : decode cX5_setRoom 27 = .ok (.ireturn, 1) := by decide +kernel
theorem dX5_setRoom_28 : decode cX5_setRoom 28 = .ok (.aload_n 0, 1) := by decide +kernel
theorem dX5_setRoom_29 : decode cX5_setRoom 29 = .ok (.invokevirtual 59, 3) := by decide +kernel
theorem dX5_setRoom_32 : decode cX5_setRoom 32 = .ok (.aload_n 0, 1) := by decide +kernel
theorem dX5_setRoom_33 : decode cX5_setRoom 33 = .ok (.getfield 12, 3) := by decide +kernel
theorem dX5_setRoom_36 : decode cX5_setRoom 36 = .ok (.getfield 62, 3) := by decide +kernel
theorem dX5_setRoom_39 : decode cX5_setRoom 39 = .ok (.istore_n 2, 1) := by decide +kernel
theorem dX5_setRoom_40 : decode cX5_setRoom 40 = .ok (.aload_n 0, 1) := by decide +kernel
theorem dX5_setRoom_41 : decode cX5_setRoom 41 = .ok (.getfield 12, 3) := by decide +kernel
theorem dX5_setRoom_44 : decode cX5_setRoom 44 = .ok (.iload_n 1, 1) := by decide +kernel
theorem dX5_setRoom_45 : decode cX5_setRoom 45 = .ok (.putfield 62, 3) := by decide +kernel
theorem dX5_setRoom_48 : decode cX5_setRoom 48 = .ok (.iload_n 2, 1) := by decide +kernel
theorem dX5_setRoom_49 : decode cX5_setRoom 49 = .ok (.ireturn, 1) := by decide +kernel
set_option maxRecDepth 20000 in
theorem ggX5_rope_X5_isCell : GoodIn wsX5_rope wsX5_isCell := goodIn_r _ [6] (by decide +kernel) (by decide +kernel)
set_option maxRecDepth 20000 in
theorem gX5_rope_X5_isCell : GoodIn wsX5_rope (va_wsS RX5 66 yX5_isCell wsX5_isCell) := goodIn_app (goodIn_of _ (by decide +kernel)) ggX5_rope_X5_isCell
set_option maxRecDepth 20000 in
theorem ggX5_rope_X5_isSide : GoodIn wsX5_rope wsX5_isSide := goodIn_r _ [9] (by decide +kernel) (by decide +kernel)
set_option maxRecDepth 20000 in
theorem gX5_rope_X5_isSide : GoodIn wsX5_rope (va_wsS RX5 70 yX5_isSide wsX5_isSide) := goodIn_app (goodIn_of _ (by decide +kernel)) ggX5_rope_X5_isSide
set_option maxRecDepth 20000 in
theorem ggX5_rope_X5_edgeAt : GoodIn wsX5_rope wsX5_edgeAt := goodIn_r _ [12, 13, 14, 5, 15, 16, 17, 18, 19, 20, 21, 22] (by decide +kernel) (by decide +kernel)
set_option maxRecDepth 20000 in
theorem gX5_rope_X5_edgeAt : GoodIn wsX5_rope (va_wsS RX5 73 yX5_edgeAt wsX5_edgeAt) := goodIn_app (goodIn_of _ (by decide +kernel)) ggX5_rope_X5_edgeAt
set_option maxRecDepth 20000 in
theorem ggX5_rope_X5_isEdge : GoodIn wsX5_rope wsX5_isEdge := goodIn_r _ [25] (by decide +kernel) (by decide +kernel)
set_option maxRecDepth 20000 in
theorem gX5_rope_X5_isEdge : GoodIn wsX5_rope (va_wsS RX5 77 yX5_isEdge wsX5_isEdge) := goodIn_app (goodIn_of _ (by decide +kernel)) ggX5_rope_X5_isEdge
set_option maxRecDepth 20000 in
theorem ggX5_rope_X1_ropeCount : GoodIn wsX5_rope wsX1_ropeCount := goodIn_r _ [30, 31, 71, 72, 73, 74, 75, 76, 77, 78, 79, 80, 81, 82] (by decide +kernel) (by decide +kernel)
set_option maxRecDepth 20000 in
theorem gX5_rope_X1_ropeCount : GoodIn wsX5_rope (wsV RX5 83 RX1 yX1_ropeCount wsX1_ropeCount) := goodIn_app (goodIn_of _ (by decide +kernel)) ggX5_rope_X1_ropeCount
set_option maxRecDepth 20000 in
theorem ggX5_rope_X5_remember : GoodIn wsX5_rope wsX5_remember := goodIn_r _ [35, 36, 1, 37, 16, 17, 18, 19, 38, 39, 40, 5, 41, 42, 43, 44, 45, 46, 47, 48, 29, 49, 50, 51, 52, 53, 54, 55, 56, 31, 57, 58, 59, 60, 61, 62, 63, 64, 65, 66, 67, 68, 69, 70, 71, 72, 73, 74, 75, 76, 77, 78, 79, 80, 81, 82] (by decide +kernel) (by decide +kernel)
set_option maxRecDepth 20000 in
theorem gX5_rope_X5_remember : GoodIn wsX5_rope (wsV RX5 59 RX5 yX5_remember wsX5_remember) := goodIn_app (goodIn_of _ (by decide +kernel)) ggX5_rope_X5_remember
theorem dX5_rope_0 : decode cX5_rope 0 = .ok (.iload_n 1, 1) := by decide +kernel
theorem dX5_rope_1 : decode cX5_rope 1 = .ok (.invokestatic 66, 3) := by decide +kernel
theorem dX5_rope_4 : decode cX5_rope 4 = .ok (.ifCond .ne 5, 3) := by decide +kernel
theorem dX5_rope_7 : decode cX5_rope 7 = .ok (.iconst (-1), 1) := by decide +kernel
theorem dX5_rope_8 : decode cX5_rope 8 = .ok (.ireturn, 1) := by decide +kernel
theorem dX5_rope_9 : decode cX5_rope 9 = .ok (.iload_n 2, 1) := by decide +kernel
theorem dX5_rope_10 : decode cX5_rope 10 = .ok (.invokestatic 70, 3) := by decide +kernel
theorem dX5_rope_13 : decode cX5_rope 13 = .ok (.ifCond .ne 6, 3) := by decide +kernel
theorem dX5_rope_16 : decode cX5_rope 16 = .ok (.bipush (-2), 2) := by decide +kernel
theorem dX5_rope_18 : decode cX5_rope 18 = .ok (.ireturn, 1) := by decide +kernel
theorem dX5_rope_19 : decode cX5_rope 19 = .ok (.iload_n 1, 1) := by decide +kernel
theorem dX5_rope_20 : decode cX5_rope 20 = .ok (.iload_n 2, 1) := by decide +kernel
theorem dX5_rope_21 : decode cX5_rope 21 = .ok (.invokestatic 73, 3) := by decide +kernel
theorem dX5_rope_24 : decode cX5_rope 24 = .ok (.istore 4, 2) := by decide +kernel
theorem dX5_rope_26 : decode cX5_rope 26 = .ok (.iload 4, 2) := by decide +kernel
theorem dX5_rope_28 : decode cX5_rope 28 = .ok (.invokestatic 77, 3) := by decide +kernel
theorem dX5_rope_31 : decode cX5_rope 31 = .ok (.ifCond .eq 17, 3) := by decide +kernel
theorem dX5_rope_34 : decode cX5_rope 34 = .ok (.aload_n 0, 1) := by decide +kernel
theorem dX5_rope_35 : decode cX5_rope 35 = .ok (.getfield 12, 3) := by decide +kernel
theorem dX5_rope_38 : decode cX5_rope 38 = .ok (.getfield 80, 3) := by decide +kernel
theorem dX5_rope_41 : decode cX5_rope 41 = .ok (.iload 4, 2) := by decide +kernel
theorem dX5_rope_43 : decode cX5_rope 43 = .ok (.baload, 1) := by decide +kernel
theorem dX5_rope_44 : decode cX5_rope 44 = .ok (.iload_n 3, 1) := by decide +kernel
theorem dX5_rope_45 : decode cX5_rope 45 = .ok (.if_icmp .ne 6, 3) := by decide +kernel
theorem dX5_rope_48 : decode cX5_rope 48 = .ok (.bipush (-5), 2) := by decide +kernel
theorem dX5_rope_50 : decode cX5_rope 50 = .ok (.ireturn, 1) := by decide +kernel
theorem dX5_rope_51 : decode cX5_rope 51 = .ok (.iload_n 3, 1) := by decide +kernel
theorem dX5_rope_52 : decode cX5_rope 52 = .ok (.ifCond .eq 18, 3) := by decide +kernel
theorem dX5_rope_55 : decode cX5_rope 55 = .ok (.aload_n 0, 1) := by decide +kernel
theorem dX5_rope_56 : decode cX5_rope 56 = .ok (.getfield 12, 3) := by decide +kernel
theorem dX5_rope_59 : decode cX5_rope 59 = .ok (.invokevirtual 83, 3) := by decide +kernel
theorem dX5_rope_62 : decode cX5_rope 62 = .ok (.bipush 24, 2) := by decide +kernel
theorem dX5_rope_64 : decode cX5_rope 64 = .ok (.if_icmp .lt 6, 3) := by decide +kernel
theorem dX5_rope_67 : decode cX5_rope 67 = .ok (.bipush (-4), 2) := by decide +kernel
theorem dX5_rope_69 : decode cX5_rope 69 = .ok (.ireturn, 1) := by decide +kernel
theorem dX5_rope_70 : decode cX5_rope 70 = .ok (.aload_n 0, 1) := by decide +kernel
theorem dX5_rope_71 : decode cX5_rope 71 = .ok (.invokevirtual 59, 3) := by decide +kernel
theorem dX5_rope_74 : decode cX5_rope 74 = .ok (.aload_n 0, 1) := by decide +kernel
theorem dX5_rope_75 : decode cX5_rope 75 = .ok (.getfield 12, 3) := by decide +kernel
theorem dX5_rope_78 : decode cX5_rope 78 = .ok (.getfield 80, 3) := by decide +kernel
theorem dX5_rope_81 : decode cX5_rope 81 = .ok (.iload 4, 2) := by decide +kernel
theorem dX5_rope_83 : decode cX5_rope 83 = .ok (.iload_n 3, 1) := by decide +kernel
theorem dX5_rope_84 : decode cX5_rope 84 = .ok (.bastore, 1) := by decide +kernel
theorem dX5_rope_85 : decode cX5_rope 85 = .ok (.aload_n 0, 1) := by decide +kernel
theorem dX5_rope_86 : decode cX5_rope 86 = .ok (.getfield 12, 3) := by decide +kernel
theorem dX5_rope_89 : decode cX5_rope 89 = .ok (.invokevirtual 83, 3) := by decide +kernel
theorem dX5_rope_92 : decode cX5_rope 92 = .ok (.ireturn, 1) := by decide +kernel
set_option maxRecDepth 20000 in
theorem ggX5_door_X5_isDoor : GoodIn wsX5_door wsX5_isDoor := goodIn_r _ [7] (by decide +kernel) (by decide +kernel)
set_option maxRecDepth 20000 in
theorem gX5_door_X5_isDoor : GoodIn wsX5_door (va_wsS RX5 86 yX5_isDoor wsX5_isDoor) := goodIn_app (goodIn_of _ (by decide +kernel)) ggX5_door_X5_isDoor
set_option maxRecDepth 20000 in
theorem ggX5_door_X5_isCell : GoodIn wsX5_door wsX5_isCell := goodIn_r _ [10] (by decide +kernel) (by decide +kernel)
set_option maxRecDepth 20000 in
theorem gX5_door_X5_isCell : GoodIn wsX5_door (va_wsS RX5 66 yX5_isCell wsX5_isCell) := goodIn_app (goodIn_of _ (by decide +kernel)) ggX5_door_X5_isCell
set_option maxRecDepth 20000 in
theorem ggX5_door_X5_remember : GoodIn wsX5_door wsX5_remember := goodIn_r _ [14, 15, 1, 16, 17, 18, 19, 20, 21, 22, 23, 6, 24, 25, 26, 27, 28, 29, 30, 31, 32, 33, 34, 35, 36, 37, 38, 39, 40, 41, 42, 43, 44, 45, 46, 47, 48, 49, 50, 51, 52, 53, 54, 55, 56, 57, 58, 59, 60, 61, 62, 63, 64, 65, 66, 67] (by decide +kernel) (by decide +kernel)
set_option maxRecDepth 20000 in
theorem gX5_door_X5_remember : GoodIn wsX5_door (wsV RX5 59 RX5 yX5_remember wsX5_remember) := goodIn_app (goodIn_of _ (by decide +kernel)) ggX5_door_X5_remember
theorem dX5_door_0 : decode cX5_door 0 = .ok (.iload_n 1, 1) := by decide +kernel
theorem dX5_door_1 : decode cX5_door 1 = .ok (.invokestatic 86, 3) := by decide +kernel
theorem dX5_door_4 : decode cX5_door 4 = .ok (.ifCond .eq 10, 3) := by decide +kernel
theorem dX5_door_7 : decode cX5_door 7 = .ok (.iload_n 2, 1) := by decide +kernel
theorem dX5_door_8 : decode cX5_door 8 = .ok (.invokestatic 66, 3) := by decide +kernel
theorem dX5_door_11 : decode cX5_door 11 = .ok (.ifCond .ne 5, 3) := by decide +kernel
theorem dX5_door_14 : decode cX5_door 14 = .ok (.iconst (-1), 1) := by decide +kernel
theorem dX5_door_15 : decode cX5_door 15 = .ok (.ireturn, 1) := by decide +kernel
theorem dX5_door_16 : decode cX5_door 16 = .ok (.iload_n 3, 1) := by decide +kernel
theorem dX5_door_17 : decode cX5_door 17 = .ok (.iconst 1, 1) := by decide +kernel
theorem dX5_door_18 : decode cX5_door 18 = .ok (.if_icmp .lt 9, 3) := by decide +kernel
theorem dX5_door_21 : decode cX5_door 21 = .ok (.iload_n 3, 1) := by decide +kernel
theorem dX5_door_22 : decode cX5_door 22 = .ok (.bipush 9, 2) := by decide +kernel
theorem dX5_door_24 : decode cX5_door 24 = .ok (.if_icmp .le 6, 3) := by decide +kernel
theorem dX5_door_27 : decode cX5_door 27 = .ok (.bipush (-2), 2) := by decide +kernel
theorem dX5_door_29 : decode cX5_door 29 = .ok (.ireturn, 1) := by decide +kernel
theorem dX5_door_30 : decode cX5_door 30 = .ok (.aload_n 0, 1) := by decide +kernel
theorem dX5_door_31 : decode cX5_door 31 = .ok (.invokevirtual 59, 3) := by decide +kernel
theorem dX5_door_34 : decode cX5_door 34 = .ok (.aload_n 0, 1) := by decide +kernel
theorem dX5_door_35 : decode cX5_door 35 = .ok (.getfield 12, 3) := by decide +kernel
theorem dX5_door_38 : decode cX5_door 38 = .ok (.getfield 89, 3) := by decide +kernel
theorem dX5_door_41 : decode cX5_door 41 = .ok (.iload_n 1, 1) := by decide +kernel
theorem dX5_door_42 : decode cX5_door 42 = .ok (.iaload, 1) := by decide +kernel
theorem dX5_door_43 : decode cX5_door 43 = .ok (.istore 4, 2) := by decide +kernel
theorem dX5_door_45 : decode cX5_door 45 = .ok (.aload_n 0, 1) := by decide +kernel
theorem dX5_door_46 : decode cX5_door 46 = .ok (.getfield 12, 3) := by decide +kernel
theorem dX5_door_49 : decode cX5_door 49 = .ok (.getfield 89, 3) := by decide +kernel
theorem dX5_door_52 : decode cX5_door 52 = .ok (.iload_n 1, 1) := by decide +kernel
theorem dX5_door_53 : decode cX5_door 53 = .ok (.iload_n 2, 1) := by decide +kernel
theorem dX5_door_54 : decode cX5_door 54 = .ok (.iastore, 1) := by decide +kernel
theorem dX5_door_55 : decode cX5_door 55 = .ok (.aload_n 0, 1) := by decide +kernel
theorem dX5_door_56 : decode cX5_door 56 = .ok (.getfield 12, 3) := by decide +kernel
theorem dX5_door_59 : decode cX5_door 59 = .ok (.getfield 93, 3) := by decide +kernel
theorem dX5_door_62 : decode cX5_door 62 = .ok (.iload_n 1, 1) := by decide +kernel
theorem dX5_door_63 : decode cX5_door 63 = .ok (.iload_n 3, 1) := by decide +kernel
theorem dX5_door_64 : decode cX5_door 64 = .ok (.iastore, 1) := by decide +kernel
theorem dX5_door_65 : decode cX5_door 65 = .ok (.iload 4, 2) := by decide +kernel
theorem dX5_door_67 : decode cX5_door 67 = .ok (.ireturn, 1) := by decide +kernel
set_option maxRecDepth 20000 in
theorem ggX5_open_X5_isDoor : GoodIn wsX5_open wsX5_isDoor := goodIn_r _ [6] (by decide +kernel) (by decide +kernel)
set_option maxRecDepth 20000 in
theorem gX5_open_X5_isDoor : GoodIn wsX5_open (va_wsS RX5 86 yX5_isDoor wsX5_isDoor) := goodIn_app (goodIn_of _ (by decide +kernel)) ggX5_open_X5_isDoor
set_option maxRecDepth 20000 in
theorem ggX5_open_X5_remember : GoodIn wsX5_open wsX5_remember := goodIn_r _ [10, 11, 1, 12, 13, 14, 15, 16, 17, 18, 19, 5, 20, 21, 22, 23, 24, 25, 26, 27, 28, 29, 30, 31, 32, 33, 34, 35, 36, 37, 38, 39, 40, 41, 53, 54, 55, 56, 57, 58, 59, 60, 61, 62, 63, 64, 65, 66, 67, 68, 69, 70, 71, 72, 73, 74] (by decide +kernel) (by decide +kernel)
set_option maxRecDepth 20000 in
theorem gX5_open_X5_remember : GoodIn wsX5_open (wsV RX5 59 RX5 yX5_remember wsX5_remember) := goodIn_app (goodIn_of _ (by decide +kernel)) ggX5_open_X5_remember
set_option maxRecDepth 20000 in
theorem ggX5_open_X1_openDoors : GoodIn wsX5_open wsX1_openDoors := goodIn_r _ [45, 40, 63, 64, 65, 66, 67, 68, 69, 70, 71, 72, 73, 74] (by decide +kernel) (by decide +kernel)
set_option maxRecDepth 20000 in
theorem gX5_open_X1_openDoors : GoodIn wsX5_open (wsV RX5 99 RX1 yX1_openDoors wsX1_openDoors) := goodIn_app (goodIn_of _ (by decide +kernel)) ggX5_open_X1_openDoors
set_option maxRecDepth 20000 in
theorem ggX5_open_J6_bitCount_0f7a4 : GoodIn wsX5_open wsJ6_bitCount_0f7a4 := goodIn_r _ [49, 50, 51, 52] (by decide +kernel) (by decide +kernel)
set_option maxRecDepth 20000 in
theorem gX5_open_J6_bitCount_0f7a4 : GoodIn wsX5_open (va_wsS RX5 102 yJ6_bitCount_0f7a4 wsJ6_bitCount_0f7a4) := goodIn_app (goodIn_of _ (by decide +kernel)) ggX5_open_J6_bitCount_0f7a4
theorem dX5_open_0 : decode cX5_open 0 = .ok (.iload_n 1, 1) := by decide +kernel
theorem dX5_open_1 : decode cX5_open 1 = .ok (.invokestatic 86, 3) := by decide +kernel
theorem dX5_open_4 : decode cX5_open 4 = .ok (.ifCond .ne 5, 3) := by decide +kernel
theorem dX5_open_7 : decode cX5_open 7 = .ok (.iconst (-1), 1) := by decide +kernel
theorem dX5_open_8 : decode cX5_open 8 = .ok (.ireturn, 1) := by decide +kernel
theorem dX5_open_9 : decode cX5_open 9 = .ok (.aload_n 0, 1) := by decide +kernel
theorem dX5_open_10 : decode cX5_open 10 = .ok (.getfield 12, 3) := by decide +kernel
theorem dX5_open_13 : decode cX5_open 13 = .ok (.getfield 96, 3) := by decide +kernel
theorem dX5_open_16 : decode cX5_open 16 = .ok (.iload_n 1, 1) := by decide +kernel
theorem dX5_open_17 : decode cX5_open 17 = .ok (.baload, 1) := by decide +kernel
theorem dX5_open_18 : decode cX5_open 18 = .ok (.iload_n 2, 1) := by decide +kernel
theorem dX5_open_19 : decode cX5_open 19 = .ok (.if_icmp .ne 6, 3) := by decide +kernel
theorem dX5_open_22 : decode cX5_open 22 = .ok (.bipush (-5), 2) := by decide +kernel
theorem dX5_open_24 : decode cX5_open 24 = .ok (.ireturn, 1) := by decide +kernel
theorem dX5_open_25 : decode cX5_open 25 = .ok (.aload_n 0, 1) := by decide +kernel
theorem dX5_open_26 : decode cX5_open 26 = .ok (.invokevirtual 59, 3) := by decide +kernel
theorem dX5_open_29 : decode cX5_open 29 = .ok (.aload_n 0, 1) := by decide +kernel
theorem dX5_open_30 : decode cX5_open 30 = .ok (.getfield 12, 3) := by decide +kernel
theorem dX5_open_33 : decode cX5_open 33 = .ok (.getfield 96, 3) := by decide +kernel
theorem dX5_open_36 : decode cX5_open 36 = .ok (.iload_n 1, 1) := by decide +kernel
theorem dX5_open_37 : decode cX5_open 37 = .ok (.iload_n 2, 1) := by decide +kernel
theorem dX5_open_38 : decode cX5_open 38 = .ok (.bastore, 1) := by decide +kernel
theorem dX5_open_39 : decode cX5_open 39 = .ok (.aload_n 0, 1) := by decide +kernel
theorem dX5_open_40 : decode cX5_open 40 = .ok (.getfield 12, 3) := by decide +kernel
theorem dX5_open_43 : decode cX5_open 43 = .ok (.invokevirtual 99, 3) := by decide +kernel
theorem dX5_open_46 : decode cX5_open 46 = .ok (.invokestatic 102, 3) := by decide +kernel
theorem dX5_open_49 : decode cX5_open 49 = .ok (.ireturn, 1) := by decide +kernel
set_option maxRecDepth 20000 in
theorem ggX5_guard_X5_isCell : GoodIn wsX5_guard wsX5_isCell := goodIn_r _ [7] (by decide +kernel) (by decide +kernel)
set_option maxRecDepth 20000 in
theorem gX5_guard_X5_isCell : GoodIn wsX5_guard (va_wsS RX5 66 yX5_isCell wsX5_isCell) := goodIn_app (goodIn_of _ (by decide +kernel)) ggX5_guard_X5_isCell
set_option maxRecDepth 20000 in
theorem ggX5_guard_X5_isDoor : GoodIn wsX5_guard wsX5_isDoor := goodIn_r _ [10] (by decide +kernel) (by decide +kernel)
set_option maxRecDepth 20000 in
theorem gX5_guard_X5_isDoor : GoodIn wsX5_guard (va_wsS RX5 86 yX5_isDoor wsX5_isDoor) := goodIn_app (goodIn_of _ (by decide +kernel)) ggX5_guard_X5_isDoor
set_option maxRecDepth 20000 in
theorem ggX5_guard_X5_remember : GoodIn wsX5_guard wsX5_remember := goodIn_r _ [14, 15, 1, 16, 17, 18, 19, 20, 21, 22, 23, 6, 24, 25, 26, 27, 28, 29, 30, 31, 32, 33, 34, 35, 36, 37, 38, 39, 40, 41, 42, 43, 44, 45, 100, 101, 102, 103, 104, 105, 106, 107, 108, 109, 110, 111, 112, 113, 114, 115, 116, 117, 118, 119, 120, 121] (by decide +kernel) (by decide +kernel)
set_option maxRecDepth 20000 in
theorem gX5_guard_X5_remember : GoodIn wsX5_guard (wsV RX5 59 RX5 yX5_remember wsX5_remember) := goodIn_app (goodIn_of _ (by decide +kernel)) ggX5_guard_X5_remember
set_option maxRecDepth 20000 in
theorem ggX5_guard_X4_find : GoodIn wsX5_guard wsX4_find := goodIn_r _ [50, 51, 52, 53, 54, 55, 49, 56, 57, 58, 59, 5, 6, 7, 60, 61, 62, 32, 63, 41, 64, 65, 17, 18, 19, 20, 66, 67, 68, 69, 70, 71, 72, 73, 74, 9, 10, 75, 76, 77, 78, 79, 80, 81, 82, 83, 84, 85, 86, 87, 88, 89, 90, 91, 92, 93, 94, 95, 96, 97, 98, 122, 123, 124, 125, 126, 127, 110, 111, 112, 113, 114, 115, 116, 117, 118, 119, 120, 121] (by decide +kernel) (by decide +kernel)
set_option maxRecDepth 20000 in
theorem gX5_guard_X4_find : GoodIn wsX5_guard (wsV RX5 111 RX4 yX4_find wsX4_find) := goodIn_app (goodIn_of _ (by decide +kernel)) ggX5_guard_X4_find
set_option maxRecDepth 20000 in
theorem ggX5_guard_X4_goalOf : GoodIn wsX5_guard wsX4_goalOf := goodIn_r _ [92, 51, 5, 6, 7, 122, 123, 124, 125, 126, 127] (by decide +kernel) (by decide +kernel)
set_option maxRecDepth 20000 in
theorem gX5_guard_X4_goalOf : GoodIn wsX5_guard (wsV RX5 115 RX4 yX4_goalOf wsX4_goalOf) := goodIn_app (goodIn_of _ (by decide +kernel)) ggX5_guard_X4_goalOf
theorem dX5_guard_0 : decode cX5_guard 0 = .ok (.iload_n 1, 1) := by decide +kernel
theorem dX5_guard_1 : decode cX5_guard 1 = .ok (.invokestatic 66, 3) := by decide +kernel
theorem dX5_guard_4 : decode cX5_guard 4 = .ok (.ifCond .ne 5, 3) := by decide +kernel
theorem dX5_guard_7 : decode cX5_guard 7 = .ok (.iconst (-1), 1) := by decide +kernel
theorem dX5_guard_8 : decode cX5_guard 8 = .ok (.ireturn, 1) := by decide +kernel
theorem dX5_guard_9 : decode cX5_guard 9 = .ok (.iload_n 2, 1) := by decide +kernel
theorem dX5_guard_10 : decode cX5_guard 10 = .ok (.iconst (-1), 1) := by decide +kernel
theorem dX5_guard_11 : decode cX5_guard 11 = .ok (.if_icmp .eq 13, 3) := by decide +kernel
theorem dX5_guard_14 : decode cX5_guard 14 = .ok (.iload_n 2, 1) := by decide +kernel
theorem dX5_guard_15 : decode cX5_guard 15 = .ok (.invokestatic 86, 3) := by decide +kernel
theorem dX5_guard_18 : decode cX5_guard 18 = .ok (.ifCond .ne 6, 3) := by decide +kernel
theorem dX5_guard_21 : decode cX5_guard 21 = .ok (.bipush (-2), 2) := by decide +kernel
theorem dX5_guard_23 : decode cX5_guard 23 = .ok (.ireturn, 1) := by decide +kernel
theorem dX5_guard_24 : decode cX5_guard 24 = .ok (.aload_n 0, 1) := by decide +kernel
theorem dX5_guard_25 : decode cX5_guard 25 = .ok (.invokevirtual 59, 3) := by decide +kernel
theorem dX5_guard_28 : decode cX5_guard 28 = .ok (.aload_n 0, 1) := by decide +kernel
theorem dX5_guard_29 : decode cX5_guard 29 = .ok (.getfield 12, 3) := by decide +kernel
theorem dX5_guard_32 : decode cX5_guard 32 = .ok (.getfield 108, 3) := by decide +kernel
theorem dX5_guard_35 : decode cX5_guard 35 = .ok (.iload_n 1, 1) := by decide +kernel
theorem dX5_guard_36 : decode cX5_guard 36 = .ok (.iload_n 2, 1) := by decide +kernel
theorem dX5_guard_37 : decode cX5_guard 37 = .ok (.iastore, 1) := by decide +kernel
theorem dX5_guard_38 : decode cX5_guard 38 = .ok (.aload_n 0, 1) := by decide +kernel
theorem dX5_guard_39 : decode cX5_guard 39 = .ok (.getfield 19, 3) := by decide +kernel
theorem dX5_guard_42 : decode cX5_guard 42 = .ok (.aload_n 0, 1) := by decide +kernel
theorem dX5_guard_43 : decode cX5_guard 43 = .ok (.getfield 12, 3) := by decide +kernel
theorem dX5_guard_46 : decode cX5_guard 46 = .ok (.invokevirtual 111, 3) := by decide +kernel
theorem dX5_guard_49 : decode cX5_guard 49 = .ok (.aload_n 0, 1) := by decide +kernel
theorem dX5_guard_50 : decode cX5_guard 50 = .ok (.getfield 19, 3) := by decide +kernel
theorem dX5_guard_53 : decode cX5_guard 53 = .ok (.iload_n 1, 1) := by decide +kernel
theorem dX5_guard_54 : decode cX5_guard 54 = .ok (.invokevirtual 115, 3) := by decide +kernel
theorem dX5_guard_57 : decode cX5_guard 57 = .ok (.ireturn, 1) := by decide +kernel
set_option maxRecDepth 20000 in
theorem ggX5_enter_X5_isCell : GoodIn wsX5_enter wsX5_isCell := goodIn_r _ [7] (by decide +kernel) (by decide +kernel)
set_option maxRecDepth 20000 in
theorem gX5_enter_X5_isCell : GoodIn wsX5_enter (va_wsS RX5 66 yX5_isCell wsX5_isCell) := goodIn_app (goodIn_of _ (by decide +kernel)) ggX5_enter_X5_isCell
set_option maxRecDepth 20000 in
theorem ggX5_enter_X5_remember : GoodIn wsX5_enter wsX5_remember := goodIn_r _ [11, 12, 1, 13, 14, 15, 16, 17, 18, 19, 20, 6, 21, 22, 23, 24, 25, 26, 27, 28, 29, 30, 31, 32, 33, 34, 35, 36, 37, 38, 39, 40, 41, 42, 47, 48, 49, 50, 51, 52, 53, 54, 55, 56, 57, 58, 59, 60, 61, 62, 63, 64, 65, 66, 67, 68] (by decide +kernel) (by decide +kernel)
set_option maxRecDepth 20000 in
theorem gX5_enter_X5_remember : GoodIn wsX5_enter (wsV RX5 59 RX5 yX5_remember wsX5_remember) := goodIn_app (goodIn_of _ (by decide +kernel)) ggX5_enter_X5_remember
set_option maxRecDepth 20000 in
theorem ggX5_enter_X1_letIn : GoodIn wsX5_enter wsX1_letIn := goodIn_r _ [46, 36, 33, 5, 6, 7, 57, 58, 59, 60, 61, 62, 63, 64, 65, 66, 67, 68] (by decide +kernel) (by decide +kernel)
set_option maxRecDepth 20000 in
theorem gX5_enter_X1_letIn : GoodIn wsX5_enter (wsV RX5 121 RX1 yX1_letIn wsX1_letIn) := goodIn_app (goodIn_of _ (by decide +kernel)) ggX5_enter_X1_letIn
theorem dX5_enter_0 : decode cX5_enter 0 = .ok (.iload_n 1, 1) := by decide +kernel
theorem dX5_enter_1 : decode cX5_enter 1 = .ok (.invokestatic 66, 3) := by decide +kernel
theorem dX5_enter_4 : decode cX5_enter 4 = .ok (.ifCond .ne 5, 3) := by decide +kernel
theorem dX5_enter_7 : decode cX5_enter 7 = .ok (.iconst (-1), 1) := by decide +kernel
theorem dX5_enter_8 : decode cX5_enter 8 = .ok (.ireturn, 1) := by decide +kernel
theorem dX5_enter_9 : decode cX5_enter 9 = .ok (.iload_n 2, 1) := by decide +kernel
theorem dX5_enter_10 : decode cX5_enter 10 = .ok (.iconst 1, 1) := by decide +kernel
theorem dX5_enter_11 : decode cX5_enter 11 = .ok (.if_icmp .lt 9, 3) := by decide +kernel
theorem dX5_enter_14 : decode cX5_enter 14 = .ok (.iload_n 2, 1) := by decide +kernel
theorem dX5_enter_15 : decode cX5_enter 15 = .ok (.bipush 20, 2) := by decide +kernel
theorem dX5_enter_17 : decode cX5_enter 17 = .ok (.if_icmp .le 6, 3) := by decide +kernel
theorem dX5_enter_20 : decode cX5_enter 20 = .ok (.bipush (-2), 2) := by decide +kernel
theorem dX5_enter_22 : decode cX5_enter 22 = .ok (.ireturn, 1) := by decide +kernel
theorem dX5_enter_23 : decode cX5_enter 23 = .ok (.aload_n 0, 1) := by decide +kernel
theorem dX5_enter_24 : decode cX5_enter 24 = .ok (.getfield 12, 3) := by decide +kernel
theorem dX5_enter_27 : decode cX5_enter 27 = .ok (.getfield 118, 3) := by decide +kernel
theorem dX5_enter_30 : decode cX5_enter 30 = .ok (.iload_n 1, 1) := by decide +kernel
theorem dX5_enter_31 : decode cX5_enter 31 = .ok (.iaload, 1) := by decide +kernel
theorem dX5_enter_32 : decode cX5_enter 32 = .ok (.iload_n 2, 1) := by decide +kernel
theorem dX5_enter_33 : decode cX5_enter 33 = .ok (.iadd, 1) := by decide +kernel
theorem dX5_enter_34 : decode cX5_enter 34 = .ok (.aload_n 0, 1) := by decide +kernel
theorem dX5_enter_35 : decode cX5_enter 35 = .ok (.getfield 12, 3) := by decide +kernel
theorem dX5_enter_38 : decode cX5_enter 38 = .ok (.getfield 62, 3) := by decide +kernel
theorem dX5_enter_41 : decode cX5_enter 41 = .ok (.if_icmp .le 6, 3) := by decide +kernel
theorem dX5_enter_44 : decode cX5_enter 44 = .ok (.bipush (-4), 2) := by decide +kernel
theorem dX5_enter_46 : decode cX5_enter 46 = .ok (.ireturn, 1) := by decide +kernel
theorem dX5_enter_47 : decode cX5_enter 47 = .ok (.aload_n 0, 1) := by decide +kernel
theorem dX5_enter_48 : decode cX5_enter 48 = .ok (.invokevirtual 59, 3) := by decide +kernel
theorem dX5_enter_51 : decode cX5_enter 51 = .ok (.aload_n 0, 1) := by decide +kernel
theorem dX5_enter_52 : decode cX5_enter 52 = .ok (.getfield 12, 3) := by decide +kernel
theorem dX5_enter_55 : decode cX5_enter 55 = .ok (.iload_n 1, 1) := by decide +kernel
theorem dX5_enter_56 : decode cX5_enter 56 = .ok (.iload_n 2, 1) := by decide +kernel
theorem dX5_enter_57 : decode cX5_enter 57 = .ok (.invokevirtual 121, 3) := by decide +kernel
theorem dX5_enter_60 : decode cX5_enter 60 = .ok (.aload_n 0, 1) := by decide +kernel
theorem dX5_enter_61 : decode cX5_enter 61 = .ok (.getfield 12, 3) := by decide +kernel
theorem dX5_enter_64 : decode cX5_enter 64 = .ok (.getfield 118, 3) := by decide +kernel
theorem dX5_enter_67 : decode cX5_enter 67 = .ok (.iload_n 1, 1) := by decide +kernel
theorem dX5_enter_68 : decode cX5_enter 68 = .ok (.iaload, 1) := by decide +kernel
theorem dX5_enter_69 : decode cX5_enter 69 = .ok (.ireturn, 1) := by decide +kernel
set_option maxRecDepth 20000 in
theorem ggX5_read_X3_firstFault : GoodIn wsX5_read wsX3_firstFault := goodIn_r _ [9, 10, 11, 12, 13, 8, 14, 15, 16, 17, 18, 19, 20, 21, 99, 100] (by decide +kernel) (by decide +kernel)
set_option maxRecDepth 20000 in
theorem gX5_read_X3_firstFault : GoodIn wsX5_read (wsV RX5 125 RX3 yX3_firstFault wsX3_firstFault) := goodIn_app (goodIn_of _ (by decide +kernel)) ggX5_read_X3_firstFault
set_option maxRecDepth 20000 in
theorem ggX5_read_X5_remember : GoodIn wsX5_read wsX5_remember := goodIn_r _ [26, 27, 2, 28, 29, 30, 31, 32, 33, 34, 35, 25, 36, 37, 38, 39, 40, 41, 42, 43, 44, 45, 46, 47, 48, 49, 50, 51, 52, 53, 54, 55, 56, 57, 77, 78, 79, 80, 81, 82, 83, 84, 85, 86, 87, 88, 89, 90, 91, 92, 93, 94, 95, 96, 97, 98] (by decide +kernel) (by decide +kernel)
set_option maxRecDepth 20000 in
theorem gX5_read_X5_remember : GoodIn wsX5_read (wsV RX5 59 RX5 yX5_remember wsX5_remember) := goodIn_app (goodIn_of _ (by decide +kernel)) ggX5_read_X5_remember
set_option maxRecDepth 20000 in
theorem ggX5_read_X3_letCrowdsIn : GoodIn wsX5_read wsX3_letCrowdsIn := goodIn_r _ [61, 10, 11, 12, 13, 8, 14, 15, 62, 63, 64, 65, 66, 30, 31, 32, 67, 68, 69, 44, 70, 46, 51, 71, 25, 72, 73, 74, 75, 76, 48, 99, 100, 87, 88, 89, 90, 91, 92, 93, 94, 95, 96, 97, 98] (by decide +kernel) (by decide +kernel)
set_option maxRecDepth 20000 in
theorem gX5_read_X3_letCrowdsIn : GoodIn wsX5_read (wsV RX5 131 RX3 yX3_letCrowdsIn wsX3_letCrowdsIn) := goodIn_app (goodIn_of _ (by decide +kernel)) ggX5_read_X3_letCrowdsIn
theorem dX5_read_0 : decode cX5_read 0 = .ok (.aload_n 0, 1) := by decide +kernel
theorem dX5_read_1 : decode cX5_read 1 = .ok (.getfield 40, 3) := by decide +kernel
theorem dX5_read_4 : decode cX5_read 4 = .ok (.invokevirtual 125, 3) := by decide +kernel
theorem dX5_read_7 : decode cX5_read 7 = .ok (.bipush (-6), 2) := by decide +kernel
theorem dX5_read_9 : decode cX5_read 9 = .ok (.if_icmp .eq 6, 3) := by decide +kernel
theorem dX5_read_12 : decode cX5_read 12 = .ok (.bipush (-3), 2) := by decide +kernel
theorem dX5_read_14 : decode cX5_read 14 = .ok (.ireturn, 1) := by decide +kernel
theorem dX5_read_15 : decode cX5_read 15 = .ok (.aload_n 0, 1) := by decide +kernel
theorem dX5_read_16 : decode cX5_read 16 = .ok (.invokevirtual 59, 3) := by decide +kernel
theorem dX5_read_19 : decode cX5_read 19 = .ok (.aload_n 0, 1) := by decide +kernel
theorem dX5_read_20 : decode cX5_read 20 = .ok (.getfield 12, 3) := by decide +kernel
theorem dX5_read_23 : decode cX5_read 23 = .ok (.getfield 128, 3) := by decide +kernel
theorem dX5_read_26 : decode cX5_read 26 = .ok (.istore_n 1, 1) := by decide +kernel
theorem dX5_read_27 : decode cX5_read 27 = .ok (.aload_n 0, 1) := by decide +kernel
theorem dX5_read_28 : decode cX5_read 28 = .ok (.getfield 40, 3) := by decide +kernel
theorem dX5_read_31 : decode cX5_read 31 = .ok (.aload_n 0, 1) := by decide +kernel
theorem dX5_read_32 : decode cX5_read 32 = .ok (.getfield 12, 3) := by decide +kernel
theorem dX5_read_35 : decode cX5_read 35 = .ok (.invokevirtual 131, 3) := by decide +kernel
theorem dX5_read_38 : decode cX5_read 38 = .ok (.aload_n 0, 1) := by decide +kernel
theorem dX5_read_39 : decode cX5_read 39 = .ok (.getfield 40, 3) := by decide +kernel
theorem dX5_read_42 : decode cX5_read 42 = .ok (.iconst 0, 1) := by decide +kernel
theorem dX5_read_43 : decode cX5_read 43 = .ok (.putfield 134, 3) := by decide +kernel
theorem dX5_read_46 : decode cX5_read 46 = .ok (.aload_n 0, 1) := by decide +kernel
theorem dX5_read_47 : decode cX5_read 47 = .ok (.getfield 12, 3) := by decide +kernel
theorem dX5_read_50 : decode cX5_read 50 = .ok (.getfield 128, 3) := by decide +kernel
theorem dX5_read_53 : decode cX5_read 53 = .ok (.iload_n 1, 1) := by decide +kernel
theorem dX5_read_54 : decode cX5_read 54 = .ok (.isub, 1) := by decide +kernel
theorem dX5_read_55 : decode cX5_read 55 = .ok (.ireturn, 1) := by decide +kernel
set_option maxRecDepth 20000 in
theorem ggX5_pass_X5_remember : GoodIn wsX5_pass wsX5_remember := goodIn_r _ [9, 10, 1, 11, 12, 13, 14, 15, 16, 17, 18, 8, 19, 20, 21, 22, 23, 24, 25, 26, 27, 28, 29, 30, 31, 32, 33, 34, 35, 36, 37, 38, 39, 40, 136, 137, 138, 139, 140, 141, 142, 143, 144, 145, 146, 147, 148, 149, 150, 151, 152, 153, 154, 155, 156, 157] (by decide +kernel) (by decide +kernel)
set_option maxRecDepth 20000 in
theorem gX5_pass_X5_remember : GoodIn wsX5_pass (wsV RX5 59 RX5 yX5_remember wsX5_remember) := goodIn_app (goodIn_of _ (by decide +kernel)) ggX5_pass_X5_remember
set_option maxRecDepth 20000 in
theorem ggX5_pass_X4_find : GoodIn wsX5_pass wsX4_find := goodIn_r _ [45, 46, 47, 48, 49, 50, 44, 51, 52, 53, 54, 55, 8, 56, 57, 58, 59, 27, 60, 36, 61, 62, 12, 13, 14, 15, 63, 64, 65, 66, 67, 68, 69, 70, 71, 72, 73, 74, 75, 76, 77, 78, 79, 80, 81, 82, 83, 84, 85, 86, 87, 88, 89, 90, 91, 92, 93, 94, 95, 96, 97, 158, 159, 160, 161, 162, 163, 146, 147, 148, 149, 150, 151, 152, 153, 154, 155, 156, 157] (by decide +kernel) (by decide +kernel)
set_option maxRecDepth 20000 in
theorem gX5_pass_X4_find : GoodIn wsX5_pass (wsV RX5 111 RX4 yX4_find wsX4_find) := goodIn_app (goodIn_of _ (by decide +kernel)) ggX5_pass_X4_find
set_option maxRecDepth 20000 in
theorem ggX5_pass_X2_run : GoodIn wsX5_pass wsX2_run := goodIn_r _ [102, 103, 104, 105, 106, 101, 107, 108, 109, 110, 111, 112, 13, 14, 15, 113, 55, 8, 56, 114, 115, 116, 44, 117, 96, 118, 119, 120, 121, 97, 122, 123, 124, 125, 47, 126, 127, 128, 129, 130, 131, 132, 133, 134, 27, 135, 29, 34, 146, 147, 148, 149, 150, 151, 152, 153, 154, 155, 156, 157, 164, 158, 159, 160, 161, 162, 163] (by decide +kernel) (by decide +kernel)
set_option maxRecDepth 20000 in
theorem gX5_pass_X2_run : GoodIn wsX5_pass (wsV RX5 140 RX2 yX2_run wsX2_run) := goodIn_app (goodIn_of _ (by decide +kernel)) ggX5_pass_X2_run
theorem dX5_pass_0 : decode cX5_pass 0 = .ok (.iload_n 1, 1) := by decide +kernel
theorem dX5_pass_1 : decode cX5_pass 1 = .ok (.iconst 1, 1) := by decide +kernel
theorem dX5_pass_2 : decode cX5_pass 2 = .ok (.if_icmp .lt 9, 3) := by decide +kernel
theorem dX5_pass_5 : decode cX5_pass 5 = .ok (.iload_n 1, 1) := by decide +kernel
theorem dX5_pass_6 : decode cX5_pass 6 = .ok (.bipush 99, 2) := by decide +kernel
theorem dX5_pass_8 : decode cX5_pass 8 = .ok (.if_icmp .le 6, 3) := by decide +kernel
theorem dX5_pass_11 : decode cX5_pass 11 = .ok (.bipush (-2), 2) := by decide +kernel
theorem dX5_pass_13 : decode cX5_pass 13 = .ok (.ireturn, 1) := by decide +kernel
theorem dX5_pass_14 : decode cX5_pass 14 = .ok (.aload_n 0, 1) := by decide +kernel
theorem dX5_pass_15 : decode cX5_pass 15 = .ok (.getfield 12, 3) := by decide +kernel
theorem dX5_pass_18 : decode cX5_pass 18 = .ok (.getfield 137, 3) := by decide +kernel
theorem dX5_pass_21 : decode cX5_pass 21 = .ok (.iload_n 1, 1) := by decide +kernel
theorem dX5_pass_22 : decode cX5_pass 22 = .ok (.iadd, 1) := by decide +kernel
theorem dX5_pass_23 : decode cX5_pass 23 = .ok (.sipush 9999, 3) := by decide +kernel
theorem dX5_pass_26 : decode cX5_pass 26 = .ok (.if_icmp .le 6, 3) := by decide +kernel
theorem dX5_pass_29 : decode cX5_pass 29 = .ok (.bipush (-4), 2) := by decide +kernel
theorem dX5_pass_31 : decode cX5_pass 31 = .ok (.ireturn, 1) := by decide +kernel
theorem dX5_pass_32 : decode cX5_pass 32 = .ok (.aload_n 0, 1) := by decide +kernel
theorem dX5_pass_33 : decode cX5_pass 33 = .ok (.invokevirtual 59, 3) := by decide +kernel
theorem dX5_pass_36 : decode cX5_pass 36 = .ok (.aload_n 0, 1) := by decide +kernel
theorem dX5_pass_37 : decode cX5_pass 37 = .ok (.getfield 19, 3) := by decide +kernel
theorem dX5_pass_40 : decode cX5_pass 40 = .ok (.aload_n 0, 1) := by decide +kernel
theorem dX5_pass_41 : decode cX5_pass 41 = .ok (.getfield 12, 3) := by decide +kernel
theorem dX5_pass_44 : decode cX5_pass 44 = .ok (.invokevirtual 111, 3) := by decide +kernel
theorem dX5_pass_47 : decode cX5_pass 47 = .ok (.iconst 0, 1) := by decide +kernel
theorem dX5_pass_48 : decode cX5_pass 48 = .ok (.istore_n 2, 1) := by decide +kernel
theorem dX5_pass_49 : decode cX5_pass 49 = .ok (.iconst 0, 1) := by decide +kernel
theorem dX5_pass_50 : decode cX5_pass 50 = .ok (.istore_n 3, 1) := by decide +kernel
theorem dX5_pass_51 : decode cX5_pass 51 = .ok (.iload_n 3, 1) := by decide +kernel
theorem dX5_pass_52 : decode cX5_pass 52 = .ok (.iload_n 1, 1) := by decide +kernel
theorem dX5_pass_53 : decode cX5_pass 53 = .ok (.if_icmp .ge 27, 3) := by decide +kernel
theorem dX5_pass_56 : decode cX5_pass 56 = .ok (.iload_n 2, 1) := by decide +kernel
theorem dX5_pass_57 : decode cX5_pass 57 = .ok (.aload_n 0, 1) := by decide +kernel
theorem dX5_pass_58 : decode cX5_pass 58 = .ok (.getfield 26, 3) := by decide +kernel
theorem dX5_pass_61 : decode cX5_pass 61 = .ok (.aload_n 0, 1) := by decide +kernel
theorem dX5_pass_62 : decode cX5_pass 62 = .ok (.getfield 12, 3) := by decide +kernel
theorem dX5_pass_65 : decode cX5_pass 65 = .ok (.aload_n 0, 1) := by decide +kernel
theorem dX5_pass_66 : decode cX5_pass 66 = .ok (.getfield 19, 3) := by decide +kernel
theorem dX5_pass_69 : decode cX5_pass 69 = .ok (.invokevirtual 140, 3) := by decide +kernel
theorem dX5_pass_72 : decode cX5_pass 72 = .ok (.iadd, 1) := by decide +kernel
theorem dX5_pass_73 : decode cX5_pass 73 = .ok (.istore_n 2, 1) := by decide +kernel
theorem dX5_pass_74 : decode cX5_pass 74 = .ok (.iinc 3 1, 3) := by decide +kernel
theorem dX5_pass_77 : decode cX5_pass 77 = .ok (.goto (-26), 3) := by decide +kernel
theorem dX5_pass_80 : decode cX5_pass 80 = .ok (.iload_n 2, 1) := by decide +kernel
theorem dX5_pass_81 : decode cX5_pass 81 = .ok (.ireturn, 1) := by decide +kernel
set_option maxRecDepth 20000 in
theorem ggX5_cell_X5_isCell : GoodIn wsX5_cell wsX5_isCell := goodIn_r _ [8] (by decide +kernel) (by decide +kernel)
set_option maxRecDepth 20000 in
theorem gX5_cell_X5_isCell : GoodIn wsX5_cell (va_wsS RX5 66 yX5_isCell wsX5_isCell) := goodIn_app (goodIn_of _ (by decide +kernel)) ggX5_cell_X5_isCell
set_option maxRecDepth 20000 in
theorem ggX5_cell_X4_find : GoodIn wsX5_cell wsX4_find := goodIn_r _ [13, 14, 15, 16, 17, 18, 12, 19, 20, 21, 22, 6, 7, 8, 23, 24, 25, 26, 27, 28, 29, 30, 31, 32, 33, 34, 35, 36, 37, 38, 39, 40, 41, 42, 43, 44, 45, 46, 47, 48, 49, 50, 51, 52, 53, 54, 55, 56, 57, 58, 59, 60, 61, 62, 63, 64, 65, 66, 67, 68, 69, 102, 103, 104, 105, 106, 107, 90, 91, 92, 93, 94, 95, 96, 97, 98, 99, 100, 101] (by decide +kernel) (by decide +kernel)
set_option maxRecDepth 20000 in
theorem gX5_cell_X4_find : GoodIn wsX5_cell (wsV RX5 111 RX4 yX4_find wsX4_find) := goodIn_app (goodIn_of _ (by decide +kernel)) ggX5_cell_X4_find
set_option maxRecDepth 20000 in
theorem ggX5_cell_X4_goalOf : GoodIn wsX5_cell wsX4_goalOf := goodIn_r _ [63, 14, 6, 7, 8, 102, 103, 104, 105, 106, 107] (by decide +kernel) (by decide +kernel)
set_option maxRecDepth 20000 in
theorem gX5_cell_X4_goalOf : GoodIn wsX5_cell (wsV RX5 115 RX4 yX4_goalOf wsX4_goalOf) := goodIn_app (goodIn_of _ (by decide +kernel)) ggX5_cell_X4_goalOf
set_option maxRecDepth 20000 in
theorem ggX5_cell_X4_stepsToGoal : GoodIn wsX5_cell wsX4_stepsToGoal := goodIn_r _ [59, 60, 61, 62, 12, 63, 14, 6, 7, 8, 40, 41, 42, 43, 20, 44, 45, 102, 103, 104, 105, 106, 107] (by decide +kernel) (by decide +kernel)
set_option maxRecDepth 20000 in
theorem gX5_cell_X4_stepsToGoal : GoodIn wsX5_cell (wsV RX5 144 RX4 yX4_stepsToGoal wsX4_stepsToGoal) := goodIn_app (goodIn_of _ (by decide +kernel)) ggX5_cell_X4_stepsToGoal
set_option maxRecDepth 20000 in
theorem ggX5_cell_X4_nextOf : GoodIn wsX5_cell wsX4_nextOf := goodIn_r _ [75, 15, 6, 7, 8, 102, 103, 104, 105, 106, 107] (by decide +kernel) (by decide +kernel)
set_option maxRecDepth 20000 in
theorem gX5_cell_X4_nextOf : GoodIn wsX5_cell (wsV RX5 147 RX4 yX4_nextOf wsX4_nextOf) := goodIn_app (goodIn_of _ (by decide +kernel)) ggX5_cell_X4_nextOf
set_option maxRecDepth 20000 in
theorem ggX5_cell_X1_ropesAround : GoodIn wsX5_cell wsX1_ropesAround := goodIn_r _ [79, 28, 29, 7, 30, 31, 32, 33, 34, 35, 36, 37, 38, 39, 90, 91, 92, 93, 94, 95, 96, 97, 98, 99, 100, 101] (by decide +kernel) (by decide +kernel)
set_option maxRecDepth 20000 in
theorem gX5_cell_X1_ropesAround : GoodIn wsX5_cell (wsV RX5 150 RX1 yX1_ropesAround wsX1_ropesAround) := goodIn_app (goodIn_of _ (by decide +kernel)) ggX5_cell_X1_ropesAround
theorem dX5_cell_0 : decode cX5_cell 0 = .ok (.iload_n 1, 1) := by decide +kernel
theorem dX5_cell_1 : decode cX5_cell 1 = .ok (.invokestatic 66, 3) := by decide +kernel
theorem dX5_cell_4 : decode cX5_cell 4 = .ok (.ifCond .ne 5, 3) := by decide +kernel
theorem dX5_cell_7 : decode cX5_cell 7 = .ok (.iconst (-1), 1) := by decide +kernel
theorem dX5_cell_8 : decode cX5_cell 8 = .ok (.ireturn, 1) := by decide +kernel
theorem dX5_cell_9 : decode cX5_cell 9 = .ok (.aload_n 0, 1) := by decide +kernel
theorem dX5_cell_10 : decode cX5_cell 10 = .ok (.getfield 19, 3) := by decide +kernel
theorem dX5_cell_13 : decode cX5_cell 13 = .ok (.aload_n 0, 1) := by decide +kernel
theorem dX5_cell_14 : decode cX5_cell 14 = .ok (.getfield 12, 3) := by decide +kernel
theorem dX5_cell_17 : decode cX5_cell 17 = .ok (.invokevirtual 111, 3) := by decide +kernel
theorem dX5_cell_20 : decode cX5_cell 20 = .ok (.iload_n 2, 1) := by decide +kernel
theorem dX5_cell_21 : decode cX5_cell 21 = .ok (.tableswitch 113 0 5 #[39, 49, 58, 67, 76, 104], 39) := by decide +kernel
theorem dX5_cell_60 : decode cX5_cell 60 = .ok (.aload_n 0, 1) := by decide +kernel
theorem dX5_cell_61 : decode cX5_cell 61 = .ok (.getfield 12, 3) := by decide +kernel
theorem dX5_cell_64 : decode cX5_cell 64 = .ok (.getfield 118, 3) := by decide +kernel
theorem dX5_cell_67 : decode cX5_cell 67 = .ok (.iload_n 1, 1) := by decide +kernel
theorem dX5_cell_68 : decode cX5_cell 68 = .ok (.iaload, 1) := by decide +kernel
theorem dX5_cell_69 : decode cX5_cell 69 = .ok (.ireturn, 1) := by decide +kernel
theorem dX5_cell_70 : decode cX5_cell 70 = .ok (.aload_n 0, 1) := by decide +kernel
theorem dX5_cell_71 : decode cX5_cell 71 = .ok (.getfield 19, 3) := by decide +kernel
theorem dX5_cell_74 : decode cX5_cell 74 = .ok (.iload_n 1, 1) := by decide +kernel
theorem dX5_cell_75 : decode cX5_cell 75 = .ok (.invokevirtual 115, 3) := by decide +kernel
theorem dX5_cell_78 : decode cX5_cell 78 = .ok (.ireturn, 1) := by decide +kernel
theorem dX5_cell_79 : decode cX5_cell 79 = .ok (.aload_n 0, 1) := by decide +kernel
theorem dX5_cell_80 : decode cX5_cell 80 = .ok (.getfield 19, 3) := by decide +kernel
theorem dX5_cell_83 : decode cX5_cell 83 = .ok (.iload_n 1, 1) := by decide +kernel
theorem dX5_cell_84 : decode cX5_cell 84 = .ok (.invokevirtual 144, 3) := by decide +kernel
theorem dX5_cell_87 : decode cX5_cell 87 = .ok (.ireturn, 1) := by decide +kernel
theorem dX5_cell_88 : decode cX5_cell 88 = .ok (.aload_n 0, 1) := by decide +kernel
theorem dX5_cell_89 : decode cX5_cell 89 = .ok (.getfield 19, 3) := by decide +kernel
theorem dX5_cell_92 : decode cX5_cell 92 = .ok (.iload_n 1, 1) := by decide +kernel
theorem dX5_cell_93 : decode cX5_cell 93 = .ok (.invokevirtual 147, 3) := by decide +kernel
theorem dX5_cell_96 : decode cX5_cell 96 = .ok (.ireturn, 1) := by decide +kernel
theorem dX5_cell_97 : decode cX5_cell 97 = .ok (.aload_n 0, 1) := by decide +kernel
theorem dX5_cell_98 : decode cX5_cell 98 = .ok (.getfield 12, 3) := by decide +kernel
theorem dX5_cell_101 : decode cX5_cell 101 = .ok (.getfield 108, 3) := by decide +kernel
theorem dX5_cell_104 : decode cX5_cell 104 = .ok (.iload_n 1, 1) := by decide +kernel
theorem dX5_cell_105 : decode cX5_cell 105 = .ok (.iaload, 1) := by decide +kernel
theorem dX5_cell_106 : decode cX5_cell 106 = .ok (.iconst (-1), 1) := by decide +kernel
theorem dX5_cell_107 : decode cX5_cell 107 = .ok (.if_icmp .ne 8, 3) := by decide +kernel
theorem dX5_cell_110 : decode cX5_cell 110 = .ok (.bipush (-6), 2) := by decide +kernel
theorem dX5_cell_112 : decode cX5_cell 112 = .ok (.goto 12, 3) := by decide +kernel
theorem dX5_cell_115 : decode cX5_cell 115 = .ok (.aload_n 0, 1) := by decide +kernel
theorem dX5_cell_116 : decode cX5_cell 116 = .ok (.getfield 12, 3) := by decide +kernel
theorem dX5_cell_119 : decode cX5_cell 119 = .ok (.getfield 108, 3) := by decide +kernel
theorem dX5_cell_122 : decode cX5_cell 122 = .ok (.iload_n 1, 1) := by decide +kernel
theorem dX5_cell_123 : decode cX5_cell 123 = .ok (.iaload, 1) := by decide +kernel
theorem dX5_cell_124 : decode cX5_cell 124 = .ok (.ireturn, 1) := by decide +kernel
theorem dX5_cell_125 : decode cX5_cell 125 = .ok (.aload_n 0, 1) := by decide +kernel
theorem dX5_cell_126 : decode cX5_cell 126 = .ok (.getfield 12, 3) := by decide +kernel
theorem dX5_cell_129 : decode cX5_cell 129 = .ok (.iload_n 1, 1) := by decide +kernel
theorem dX5_cell_130 : decode cX5_cell 130 = .ok (.invokevirtual 150, 3) := by decide +kernel
theorem dX5_cell_133 : decode cX5_cell 133 = .ok (.ireturn, 1) := by decide +kernel
theorem dX5_cell_134 : decode cX5_cell 134 = .ok (.bipush (-2), 2) := by decide +kernel
theorem dX5_cell_136 : decode cX5_cell 136 = .ok (.ireturn, 1) := by decide +kernel
set_option maxRecDepth 20000 in
theorem ggX5_doorOf_X5_isDoor : GoodIn wsX5_doorOf wsX5_isDoor := goodIn_r _ [10] (by decide +kernel) (by decide +kernel)
set_option maxRecDepth 20000 in
theorem gX5_doorOf_X5_isDoor : GoodIn wsX5_doorOf (va_wsS RX5 86 yX5_isDoor wsX5_isDoor) := goodIn_app (goodIn_of _ (by decide +kernel)) ggX5_doorOf_X5_isDoor
set_option maxRecDepth 20000 in
theorem ggX5_doorOf_X4_find : GoodIn wsX5_doorOf wsX4_find := goodIn_r _ [15, 16, 17, 18, 19, 20, 14, 21, 22, 23, 24, 25, 9, 26, 27, 28, 29, 30, 31, 32, 33, 34, 35, 36, 37, 38, 39, 40, 41, 42, 43, 44, 45, 46, 47, 8, 10, 48, 49, 50, 51, 52, 53, 54, 55, 56, 57, 58, 59, 60, 61, 62, 63, 64, 65, 66, 67, 68, 69, 70, 71, 103, 104, 105, 106, 107, 108, 91, 92, 93, 94, 95, 96, 97, 98, 99, 100, 101, 102] (by decide +kernel) (by decide +kernel)
set_option maxRecDepth 20000 in
theorem gX5_doorOf_X4_find : GoodIn wsX5_doorOf (wsV RX5 111 RX4 yX4_find wsX4_find) := goodIn_app (goodIn_of _ (by decide +kernel)) ggX5_doorOf_X4_find
set_option maxRecDepth 20000 in
theorem ggX5_doorOf_X4_cellsWithGoal : GoodIn wsX5_doorOf wsX4_cellsWithGoal := goodIn_r _ [75, 16, 103, 104, 105, 106, 107, 108] (by decide +kernel) (by decide +kernel)
set_option maxRecDepth 20000 in
theorem gX5_doorOf_X4_cellsWithGoal : GoodIn wsX5_doorOf (wsV RX5 156 RX4 yX4_cellsWithGoal wsX4_cellsWithGoal) := goodIn_app (goodIn_of _ (by decide +kernel)) ggX5_doorOf_X4_cellsWithGoal
set_option maxRecDepth 20000 in
theorem ggX5_doorOf_X4_peopleWithGoal : GoodIn wsX5_doorOf wsX4_peopleWithGoal := goodIn_r _ [79, 16, 80, 103, 104, 105, 106, 107, 108, 91, 92, 93, 94, 95, 96, 97, 98, 99, 100, 101, 102] (by decide +kernel) (by decide +kernel)
set_option maxRecDepth 20000 in
theorem gX5_doorOf_X4_peopleWithGoal : GoodIn wsX5_doorOf (wsV RX5 159 RX4 yX4_peopleWithGoal wsX4_peopleWithGoal) := goodIn_app (goodIn_of _ (by decide +kernel)) ggX5_doorOf_X4_peopleWithGoal
theorem dX5_doorOf_0 : decode cX5_doorOf 0 = .ok (.iload_n 1, 1) := by decide +kernel
theorem dX5_doorOf_1 : decode cX5_doorOf 1 = .ok (.invokestatic 86, 3) := by decide +kernel
theorem dX5_doorOf_4 : decode cX5_doorOf 4 = .ok (.ifCond .ne 5, 3) := by decide +kernel
theorem dX5_doorOf_7 : decode cX5_doorOf 7 = .ok (.iconst (-1), 1) := by decide +kernel
theorem dX5_doorOf_8 : decode cX5_doorOf 8 = .ok (.ireturn, 1) := by decide +kernel
theorem dX5_doorOf_9 : decode cX5_doorOf 9 = .ok (.aload_n 0, 1) := by decide +kernel
theorem dX5_doorOf_10 : decode cX5_doorOf 10 = .ok (.getfield 19, 3) := by decide +kernel
theorem dX5_doorOf_13 : decode cX5_doorOf 13 = .ok (.aload_n 0, 1) := by decide +kernel
theorem dX5_doorOf_14 : decode cX5_doorOf 14 = .ok (.getfield 12, 3) := by decide +kernel
theorem dX5_doorOf_17 : decode cX5_doorOf 17 = .ok (.invokevirtual 111, 3) := by decide +kernel
theorem dX5_doorOf_20 : decode cX5_doorOf 20 = .ok (.iload_n 2, 1) := by decide +kernel
theorem dX5_doorOf_21 : decode cX5_doorOf 21 = .ok (.tableswitch 109 0 5 #[39, 49, 59, 77, 87, 96], 39) := by decide +kernel
theorem dX5_doorOf_60 : decode cX5_doorOf 60 = .ok (.aload_n 0, 1) := by decide +kernel
theorem dX5_doorOf_61 : decode cX5_doorOf 61 = .ok (.getfield 12, 3) := by decide +kernel
theorem dX5_doorOf_64 : decode cX5_doorOf 64 = .ok (.getfield 89, 3) := by decide +kernel
theorem dX5_doorOf_67 : decode cX5_doorOf 67 = .ok (.iload_n 1, 1) := by decide +kernel
theorem dX5_doorOf_68 : decode cX5_doorOf 68 = .ok (.iaload, 1) := by decide +kernel
theorem dX5_doorOf_69 : decode cX5_doorOf 69 = .ok (.ireturn, 1) := by decide +kernel
theorem dX5_doorOf_70 : decode cX5_doorOf 70 = .ok (.aload_n 0, 1) := by decide +kernel
theorem dX5_doorOf_71 : decode cX5_doorOf 71 = .ok (.getfield 12, 3) := by decide +kernel
theorem dX5_doorOf_74 : decode cX5_doorOf 74 = .ok (.getfield 93, 3) := by decide +kernel
theorem dX5_doorOf_77 : decode cX5_doorOf 77 = .ok (.iload_n 1, 1) := by decide +kernel
theorem dX5_doorOf_78 : decode cX5_doorOf 78 = .ok (.iaload, 1) := by decide +kernel
theorem dX5_doorOf_79 : decode cX5_doorOf 79 = .ok (.ireturn, 1) := by decide +kernel
theorem dX5_doorOf_80 : decode cX5_doorOf 80 = .ok (.aload_n 0, 1) := by decide +kernel
theorem dX5_doorOf_81 : decode cX5_doorOf 81 = .ok (.getfield 12, 3) := by decide +kernel
theorem dX5_doorOf_84 : decode cX5_doorOf 84 = .ok (.getfield 96, 3) := by decide +kernel
