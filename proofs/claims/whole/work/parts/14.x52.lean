theorem dX5_strandedNow_1 : decode cX5_strandedNow 1 = .ok (.getfield 19, 3) := by decide +kernel
theorem dX5_strandedNow_4 : decode cX5_strandedNow 4 = .ok (.aload_n 0, 1) := by decide +kernel
theorem dX5_strandedNow_5 : decode cX5_strandedNow 5 = .ok (.getfield 12, 3) := by decide +kernel
theorem dX5_strandedNow_8 : decode cX5_strandedNow 8 = .ok (.invokevirtual 111, 3) := by decide +kernel
theorem dX5_strandedNow_11 : decode cX5_strandedNow 11 = .ok (.aload_n 0, 1) := by decide +kernel
theorem dX5_strandedNow_12 : decode cX5_strandedNow 12 = .ok (.getfield 19, 3) := by decide +kernel
theorem dX5_strandedNow_15 : decode cX5_strandedNow 15 = .ok (.aload_n 0, 1) := by decide +kernel
theorem dX5_strandedNow_16 : decode cX5_strandedNow 16 = .ok (.getfield 12, 3) := by decide +kernel
theorem dX5_strandedNow_19 : decode cX5_strandedNow 19 = .ok (.invokevirtual 233, 3) := by decide +kernel
theorem dX5_strandedNow_22 : decode cX5_strandedNow 22 = .ok (.ireturn, 1) := by decide +kernel
set_option maxRecDepth 20000 in
theorem ggX5_canHang_X5_isEdge : GoodIn wsX5_canHang wsX5_isEdge := goodIn_r _ [6] (by decide +kernel) (by decide +kernel)
set_option maxRecDepth 20000 in
theorem gX5_canHang_X5_isEdge : GoodIn wsX5_canHang (va_wsS RX5 77 yX5_isEdge wsX5_isEdge) := goodIn_app (goodIn_of _ (by decide +kernel)) ggX5_canHang_X5_isEdge
set_option maxRecDepth 20000 in
theorem ggX5_canHang_X5_edgeAt : GoodIn wsX5_canHang wsX5_edgeAt := goodIn_r _ [9, 10, 11, 5, 12, 13, 14, 15, 16, 17, 18, 19] (by decide +kernel) (by decide +kernel)
set_option maxRecDepth 20000 in
theorem gX5_canHang_X5_edgeAt : GoodIn wsX5_canHang (va_wsS RX5 73 yX5_edgeAt wsX5_edgeAt) := goodIn_app (goodIn_of _ (by decide +kernel)) ggX5_canHang_X5_edgeAt
theorem dX5_canHang_0 : decode cX5_canHang 0 = .ok (.iload_n 1, 1) := by decide +kernel
theorem dX5_canHang_1 : decode cX5_canHang 1 = .ok (.invokestatic 77, 3) := by decide +kernel
theorem dX5_canHang_4 : decode cX5_canHang 4 = .ok (.ifCond .eq 32, 3) := by decide +kernel
theorem dX5_canHang_7 : decode cX5_canHang 7 = .ok (.iload_n 1, 1) := by decide +kernel
theorem dX5_canHang_8 : decode cX5_canHang 8 = .ok (.iconst 2, 1) := by decide +kernel
theorem dX5_canHang_9 : decode cX5_canHang 9 = .ok (.idiv, 1) := by decide +kernel
theorem dX5_canHang_10 : decode cX5_canHang 10 = .ok (.iload_n 1, 1) := by decide +kernel
theorem dX5_canHang_11 : decode cX5_canHang 11 = .ok (.iconst 2, 1) := by decide +kernel
theorem dX5_canHang_12 : decode cX5_canHang 12 = .ok (.irem, 1) := by decide +kernel
theorem dX5_canHang_13 : decode cX5_canHang 13 = .ok (.invokestatic 73, 3) := by decide +kernel
theorem dX5_canHang_16 : decode cX5_canHang 16 = .ok (.iload_n 1, 1) := by decide +kernel
theorem dX5_canHang_17 : decode cX5_canHang 17 = .ok (.if_icmp .ne 19, 3) := by decide +kernel
theorem dX5_canHang_20 : decode cX5_canHang 20 = .ok (.aload_n 0, 1) := by decide +kernel
theorem dX5_canHang_21 : decode cX5_canHang 21 = .ok (.getfield 12, 3) := by decide +kernel
theorem dX5_canHang_24 : decode cX5_canHang 24 = .ok (.getfield 80, 3) := by decide +kernel
theorem dX5_canHang_27 : decode cX5_canHang 27 = .ok (.iload_n 1, 1) := by decide +kernel
theorem dX5_canHang_28 : decode cX5_canHang 28 = .ok (.baload, 1) := by decide +kernel
theorem dX5_canHang_29 : decode cX5_canHang 29 = .ok (.ifCond .ne 7, 3) := by decide +kernel
theorem dX5_canHang_32 : decode cX5_canHang 32 = .ok (.iconst 1, 1) := by decide +kernel
theorem dX5_canHang_33 : decode cX5_canHang 33 = .ok (.goto 4, 3) := by decide +kernel
theorem dX5_canHang_36 : decode cX5_canHang 36 = .ok (.iconst 0, 1) := by decide +kernel
theorem dX5_canHang_37 : decode cX5_canHang 37 = .ok (.ireturn, 1) := by decide +kernel
set_option maxRecDepth 20000 in
theorem ggX5_copyHall_X1_copyFrom : GoodIn wsX5_copyHall wsX1_copyFrom := goodIn_r _ [5, 6, 7, 8, 9, 10, 11, 12, 13, 14, 15, 16, 17, 18, 19, 20, 21, 22, 23, 24, 25, 26, 27, 28, 29] (by decide +kernel) (by decide +kernel)
set_option maxRecDepth 20000 in
theorem gX5_copyHall_X1_copyFrom : GoodIn wsX5_copyHall (wsV RX5 236 RX1 yX1_copyFrom wsX1_copyFrom) := goodIn_app (goodIn_of _ (by decide +kernel)) ggX5_copyHall_X1_copyFrom
theorem dX5_copyHall_0 : decode cX5_copyHall 0 = .ok (.aload_n 0, 1) := by decide +kernel
theorem dX5_copyHall_1 : decode cX5_copyHall 1 = .ok (.ifnull 12, 3) := by decide +kernel
theorem dX5_copyHall_4 : decode cX5_copyHall 4 = .ok (.aload_n 1, 1) := by decide +kernel
theorem dX5_copyHall_5 : decode cX5_copyHall 5 = .ok (.ifnull 8, 3) := by decide +kernel
theorem dX5_copyHall_8 : decode cX5_copyHall 8 = .ok (.aload_n 1, 1) := by decide +kernel
theorem dX5_copyHall_9 : decode cX5_copyHall 9 = .ok (.aload_n 0, 1) := by decide +kernel
theorem dX5_copyHall_10 : decode cX5_copyHall 10 = .ok (.invokevirtual 236, 3) := by decide +kernel
theorem dX5_copyHall_13 : decode cX5_copyHall 13 = .ok (.return_, 1) := by decide +kernel
theorem dX5_isCell_0 : decode cX5_isCell 0 = .ok (.iload_n 0, 1) := by decide +kernel
theorem dX5_isCell_1 : decode cX5_isCell 1 = .ok (.ifCond .lt 13, 3) := by decide +kernel
theorem dX5_isCell_4 : decode cX5_isCell 4 = .ok (.iload_n 0, 1) := by decide +kernel
theorem dX5_isCell_5 : decode cX5_isCell 5 = .ok (.bipush 35, 2) := by decide +kernel
theorem dX5_isCell_7 : decode cX5_isCell 7 = .ok (.if_icmp .ge 7, 3) := by decide +kernel
theorem dX5_isCell_10 : decode cX5_isCell 10 = .ok (.iconst 1, 1) := by decide +kernel
theorem dX5_isCell_11 : decode cX5_isCell 11 = .ok (.goto 4, 3) := by decide +kernel
theorem dX5_isCell_14 : decode cX5_isCell 14 = .ok (.iconst 0, 1) := by decide +kernel
theorem dX5_isCell_15 : decode cX5_isCell 15 = .ok (.ireturn, 1) := by decide +kernel
theorem dX5_isDoor_0 : decode cX5_isDoor 0 = .ok (.iload_n 0, 1) := by decide +kernel
theorem dX5_isDoor_1 : decode cX5_isDoor 1 = .ok (.ifCond .lt 12, 3) := by decide +kernel
theorem dX5_isDoor_4 : decode cX5_isDoor 4 = .ok (.iload_n 0, 1) := by decide +kernel
theorem dX5_isDoor_5 : decode cX5_isDoor 5 = .ok (.iconst 4, 1) := by decide +kernel
theorem dX5_isDoor_6 : decode cX5_isDoor 6 = .ok (.if_icmp .ge 7, 3) := by decide +kernel
theorem dX5_isDoor_9 : decode cX5_isDoor 9 = .ok (.iconst 1, 1) := by decide +kernel
theorem dX5_isDoor_10 : decode cX5_isDoor 10 = .ok (.goto 4, 3) := by decide +kernel
theorem dX5_isDoor_13 : decode cX5_isDoor 13 = .ok (.iconst 0, 1) := by decide +kernel
theorem dX5_isDoor_14 : decode cX5_isDoor 14 = .ok (.ireturn, 1) := by decide +kernel
theorem dX5_isSide_0 : decode cX5_isSide 0 = .ok (.iload_n 0, 1) := by decide +kernel
theorem dX5_isSide_1 : decode cX5_isSide 1 = .ok (.ifCond .lt 12, 3) := by decide +kernel
theorem dX5_isSide_4 : decode cX5_isSide 4 = .ok (.iload_n 0, 1) := by decide +kernel
theorem dX5_isSide_5 : decode cX5_isSide 5 = .ok (.iconst 2, 1) := by decide +kernel
theorem dX5_isSide_6 : decode cX5_isSide 6 = .ok (.if_icmp .ge 7, 3) := by decide +kernel
theorem dX5_isSide_9 : decode cX5_isSide 9 = .ok (.iconst 1, 1) := by decide +kernel
theorem dX5_isSide_10 : decode cX5_isSide 10 = .ok (.goto 4, 3) := by decide +kernel
theorem dX5_isSide_13 : decode cX5_isSide 13 = .ok (.iconst 0, 1) := by decide +kernel
theorem dX5_isSide_14 : decode cX5_isSide 14 = .ok (.ireturn, 1) := by decide +kernel
theorem dX5_isEdge_0 : decode cX5_isEdge 0 = .ok (.iload_n 0, 1) := by decide +kernel
theorem dX5_isEdge_1 : decode cX5_isEdge 1 = .ok (.ifCond .lt 13, 3) := by decide +kernel
theorem dX5_isEdge_4 : decode cX5_isEdge 4 = .ok (.iload_n 0, 1) := by decide +kernel
theorem dX5_isEdge_5 : decode cX5_isEdge 5 = .ok (.bipush 70, 2) := by decide +kernel
theorem dX5_isEdge_7 : decode cX5_isEdge 7 = .ok (.if_icmp .ge 7, 3) := by decide +kernel
theorem dX5_isEdge_10 : decode cX5_isEdge 10 = .ok (.iconst 1, 1) := by decide +kernel
theorem dX5_isEdge_11 : decode cX5_isEdge 11 = .ok (.goto 4, 3) := by decide +kernel
theorem dX5_isEdge_14 : decode cX5_isEdge 14 = .ok (.iconst 0, 1) := by decide +kernel
theorem dX5_isEdge_15 : decode cX5_isEdge 15 = .ok (.ireturn, 1) := by decide +kernel
theorem dX5_beside_0 : decode cX5_beside 0 = .ok (.iload_n 1, 1) := by decide +kernel
theorem dX5_beside_1 : decode cX5_beside 1 = .ok (.tableswitch 97 0 3 #[31, 47, 63, 81], 31) := by decide +kernel
theorem dX5_beside_32 : decode cX5_beside 32 = .ok (.iload_n 0, 1) := by decide +kernel
theorem dX5_beside_33 : decode cX5_beside 33 = .ok (.bipush 7, 2) := by decide +kernel
theorem dX5_beside_35 : decode cX5_beside 35 = .ok (.if_icmp .lt 10, 3) := by decide +kernel
theorem dX5_beside_38 : decode cX5_beside 38 = .ok (.iload_n 0, 1) := by decide +kernel
theorem dX5_beside_39 : decode cX5_beside 39 = .ok (.bipush 7, 2) := by decide +kernel
theorem dX5_beside_41 : decode cX5_beside 41 = .ok (.isub, 1) := by decide +kernel
theorem dX5_beside_42 : decode cX5_beside 42 = .ok (.goto 5, 3) := by decide +kernel
theorem dX5_beside_45 : decode cX5_beside 45 = .ok (.bipush (-6), 2) := by decide +kernel
theorem dX5_beside_47 : decode cX5_beside 47 = .ok (.ireturn, 1) := by decide +kernel
theorem dX5_beside_48 : decode cX5_beside 48 = .ok (.iload_n 0, 1) := by decide +kernel
theorem dX5_beside_49 : decode cX5_beside 49 = .ok (.bipush 7, 2) := by decide +kernel
theorem dX5_beside_51 : decode cX5_beside 51 = .ok (.irem, 1) := by decide +kernel
theorem dX5_beside_52 : decode cX5_beside 52 = .ok (.ifCond .le 9, 3) := by decide +kernel
theorem dX5_beside_55 : decode cX5_beside 55 = .ok (.iload_n 0, 1) := by decide +kernel
theorem dX5_beside_56 : decode cX5_beside 56 = .ok (.iconst 1, 1) := by decide +kernel
theorem dX5_beside_57 : decode cX5_beside 57 = .ok (.isub, 1) := by decide +kernel
theorem dX5_beside_58 : decode cX5_beside 58 = .ok (.goto 5, 3) := by decide +kernel
theorem dX5_beside_61 : decode cX5_beside 61 = .ok (.bipush (-6), 2) := by decide +kernel
theorem dX5_beside_63 : decode cX5_beside 63 = .ok (.ireturn, 1) := by decide +kernel
theorem dX5_beside_64 : decode cX5_beside 64 = .ok (.iload_n 0, 1) := by decide +kernel
theorem dX5_beside_65 : decode cX5_beside 65 = .ok (.bipush 7, 2) := by decide +kernel
theorem dX5_beside_67 : decode cX5_beside 67 = .ok (.irem, 1) := by decide +kernel
theorem dX5_beside_68 : decode cX5_beside 68 = .ok (.bipush 6, 2) := by decide +kernel
theorem dX5_beside_70 : decode cX5_beside 70 = .ok (.if_icmp .ge 9, 3) := by decide +kernel
theorem dX5_beside_73 : decode cX5_beside 73 = .ok (.iload_n 0, 1) := by decide +kernel
theorem dX5_beside_74 : decode cX5_beside 74 = .ok (.iconst 1, 1) := by decide +kernel
theorem dX5_beside_75 : decode cX5_beside 75 = .ok (.iadd, 1) := by decide +kernel
theorem dX5_beside_76 : decode cX5_beside 76 = .ok (.goto 5, 3) := by decide +kernel
theorem dX5_beside_79 : decode cX5_beside 79 = .ok (.bipush (-6), 2) := by decide +kernel
theorem dX5_beside_81 : decode cX5_beside 81 = .ok (.ireturn, 1) := by decide +kernel
theorem dX5_beside_82 : decode cX5_beside 82 = .ok (.iload_n 0, 1) := by decide +kernel
theorem dX5_beside_83 : decode cX5_beside 83 = .ok (.bipush 28, 2) := by decide +kernel
theorem dX5_beside_85 : decode cX5_beside 85 = .ok (.if_icmp .ge 10, 3) := by decide +kernel
theorem dX5_beside_88 : decode cX5_beside 88 = .ok (.iload_n 0, 1) := by decide +kernel
theorem dX5_beside_89 : decode cX5_beside 89 = .ok (.bipush 7, 2) := by decide +kernel
theorem dX5_beside_91 : decode cX5_beside 91 = .ok (.iadd, 1) := by decide +kernel
theorem dX5_beside_92 : decode cX5_beside 92 = .ok (.goto 5, 3) := by decide +kernel
theorem dX5_beside_95 : decode cX5_beside 95 = .ok (.bipush (-6), 2) := by decide +kernel
theorem dX5_beside_97 : decode cX5_beside 97 = .ok (.ireturn, 1) := by decide +kernel
theorem dX5_beside_98 : decode cX5_beside 98 = .ok (.bipush (-6), 2) := by decide +kernel
theorem dX5_beside_100 : decode cX5_beside 100 = .ok (.ireturn, 1) := by decide +kernel
set_option maxRecDepth 20000 in
theorem ggX5_edgeTowards_X5_beside : GoodIn wsX5_edgeTowards wsX5_beside := goodIn_r _ [8] (by decide +kernel) (by decide +kernel)
set_option maxRecDepth 20000 in
theorem gX5_edgeTowards_X5_beside : GoodIn wsX5_edgeTowards (va_wsS RX5 239 yX5_beside wsX5_beside) := goodIn_app (goodIn_of _ (by decide +kernel)) ggX5_edgeTowards_X5_beside
theorem dX5_edgeTowards_0 : decode cX5_edgeTowards 0 = .ok (.iload_n 0, 1) := by decide +kernel
theorem dX5_edgeTowards_1 : decode cX5_edgeTowards 1 = .ok (.iload_n 1, 1) := by decide +kernel
theorem dX5_edgeTowards_2 : decode cX5_edgeTowards 2 = .ok (.invokestatic 239, 3) := by decide +kernel
theorem dX5_edgeTowards_5 : decode cX5_edgeTowards 5 = .ok (.istore_n 2, 1) := by decide +kernel
theorem dX5_edgeTowards_6 : decode cX5_edgeTowards 6 = .ok (.iload_n 2, 1) := by decide +kernel
theorem dX5_edgeTowards_7 : decode cX5_edgeTowards 7 = .ok (.bipush (-6), 2) := by decide +kernel
theorem dX5_edgeTowards_9 : decode cX5_edgeTowards 9 = .ok (.if_icmp .ne 6, 3) := by decide +kernel
theorem dX5_edgeTowards_12 : decode cX5_edgeTowards 12 = .ok (.bipush (-6), 2) := by decide +kernel
theorem dX5_edgeTowards_14 : decode cX5_edgeTowards 14 = .ok (.ireturn, 1) := by decide +kernel
theorem dX5_edgeTowards_15 : decode cX5_edgeTowards 15 = .ok (.iload_n 1, 1) := by decide +kernel
theorem dX5_edgeTowards_16 : decode cX5_edgeTowards 16 = .ok (.iconst 1, 1) := by decide +kernel
theorem dX5_edgeTowards_17 : decode cX5_edgeTowards 17 = .ok (.if_icmp .eq 8, 3) := by decide +kernel
theorem dX5_edgeTowards_20 : decode cX5_edgeTowards 20 = .ok (.iload_n 1, 1) := by decide +kernel
theorem dX5_edgeTowards_21 : decode cX5_edgeTowards 21 = .ok (.iconst 2, 1) := by decide +kernel
theorem dX5_edgeTowards_22 : decode cX5_edgeTowards 22 = .ok (.if_icmp .ne 7, 3) := by decide +kernel
theorem dX5_edgeTowards_25 : decode cX5_edgeTowards 25 = .ok (.iconst 0, 1) := by decide +kernel
theorem dX5_edgeTowards_26 : decode cX5_edgeTowards 26 = .ok (.goto 4, 3) := by decide +kernel
theorem dX5_edgeTowards_29 : decode cX5_edgeTowards 29 = .ok (.iconst 1, 1) := by decide +kernel
theorem dX5_edgeTowards_30 : decode cX5_edgeTowards 30 = .ok (.istore_n 3, 1) := by decide +kernel
theorem dX5_edgeTowards_31 : decode cX5_edgeTowards 31 = .ok (.iconst 2, 1) := by decide +kernel
theorem dX5_edgeTowards_32 : decode cX5_edgeTowards 32 = .ok (.iload_n 0, 1) := by decide +kernel
theorem dX5_edgeTowards_33 : decode cX5_edgeTowards 33 = .ok (.iload_n 2, 1) := by decide +kernel
theorem dX5_edgeTowards_34 : decode cX5_edgeTowards 34 = .ok (.invokestatic 228, 3) := by decide +kernel
theorem dX5_edgeTowards_37 : decode cX5_edgeTowards 37 = .ok (.imul, 1) := by decide +kernel
theorem dX5_edgeTowards_38 : decode cX5_edgeTowards 38 = .ok (.iload_n 3, 1) := by decide +kernel
theorem dX5_edgeTowards_39 : decode cX5_edgeTowards 39 = .ok (.iadd, 1) := by decide +kernel
theorem dX5_edgeTowards_40 : decode cX5_edgeTowards 40 = .ok (.ireturn, 1) := by decide +kernel
set_option maxRecDepth 20000 in
theorem ggX5_edgeAt_X5_edgeTowards : GoodIn wsX5_edgeAt wsX5_edgeTowards := goodIn_r _ [4, 5, 6, 7, 8, 9, 10, 3, 11] (by decide +kernel) (by decide +kernel)
set_option maxRecDepth 20000 in
theorem gX5_edgeAt_X5_edgeTowards : GoodIn wsX5_edgeAt (va_wsS RX5 242 yX5_edgeTowards wsX5_edgeTowards) := goodIn_app (goodIn_of _ (by decide +kernel)) ggX5_edgeAt_X5_edgeTowards
theorem dX5_edgeAt_0 : decode cX5_edgeAt 0 = .ok (.iload_n 0, 1) := by decide +kernel
theorem dX5_edgeAt_1 : decode cX5_edgeAt 1 = .ok (.iload_n 1, 1) := by decide +kernel
theorem dX5_edgeAt_2 : decode cX5_edgeAt 2 = .ok (.ifCond .ne 7, 3) := by decide +kernel
theorem dX5_edgeAt_5 : decode cX5_edgeAt 5 = .ok (.iconst 2, 1) := by decide +kernel
theorem dX5_edgeAt_6 : decode cX5_edgeAt 6 = .ok (.goto 4, 3) := by decide +kernel
theorem dX5_edgeAt_9 : decode cX5_edgeAt 9 = .ok (.iconst 3, 1) := by decide +kernel
theorem dX5_edgeAt_10 : decode cX5_edgeAt 10 = .ok (.invokestatic 242, 3) := by decide +kernel
theorem dX5_edgeAt_13 : decode cX5_edgeAt 13 = .ok (.ireturn, 1) := by decide +kernel
theorem dX5_charactersIn_0 : decode cX5_charactersIn 0 = .ok (.iconst 0, 1) := by decide +kernel
theorem dX5_charactersIn_1 : decode cX5_charactersIn 1 = .ok (.istore_n 2, 1) := by decide +kernel
theorem dX5_charactersIn_2 : decode cX5_charactersIn 2 = .ok (.iload_n 2, 1) := by decide +kernel
theorem dX5_charactersIn_3 : decode cX5_charactersIn 3 = .ok (.bipush 8, 2) := by decide +kernel
theorem dX5_charactersIn_5 : decode cX5_charactersIn 5 = .ok (.if_icmp .ge 48, 3) := by decide +kernel
theorem dX5_charactersIn_8 : decode cX5_charactersIn 8 = .ok (.lload_n 0, 1) := by decide +kernel
theorem dX5_charactersIn_9 : decode cX5_charactersIn 9 = .ok (.bipush 8, 2) := by decide +kernel
theorem dX5_charactersIn_11 : decode cX5_charactersIn 11 = .ok (.iload_n 2, 1) := by decide +kernel
theorem dX5_charactersIn_12 : decode cX5_charactersIn 12 = .ok (.imul, 1) := by decide +kernel
theorem dX5_charactersIn_13 : decode cX5_charactersIn 13 = .ok (.lushr, 1) := by decide +kernel
theorem dX5_charactersIn_14 : decode cX5_charactersIn 14 = .ok (.lstore_n 3, 1) := by decide +kernel
theorem dX5_charactersIn_15 : decode cX5_charactersIn 15 = .ok (.lload_n 3, 1) := by decide +kernel
theorem dX5_charactersIn_16 : decode cX5_charactersIn 16 = .ok (.lconst 0, 1) := by decide +kernel
theorem dX5_charactersIn_17 : decode cX5_charactersIn 17 = .ok (.lcmp, 1) := by decide +kernel
theorem dX5_charactersIn_18 : decode cX5_charactersIn 18 = .ok (.ifCond .ne 5, 3) := by decide +kernel
theorem dX5_charactersIn_21 : decode cX5_charactersIn 21 = .ok (.iload_n 2, 1) := by decide +kernel
theorem dX5_charactersIn_22 : decode cX5_charactersIn 22 = .ok (.ireturn, 1) := by decide +kernel
theorem dX5_charactersIn_23 : decode cX5_charactersIn 23 = .ok (.lload_n 3, 1) := by decide +kernel
theorem dX5_charactersIn_24 : decode cX5_charactersIn 24 = .ok (.l2i, 1) := by decide +kernel
theorem dX5_charactersIn_25 : decode cX5_charactersIn 25 = .ok (.sipush 255, 3) := by decide +kernel
theorem dX5_charactersIn_28 : decode cX5_charactersIn 28 = .ok (.iand, 1) := by decide +kernel
theorem dX5_charactersIn_29 : decode cX5_charactersIn 29 = .ok (.istore 5, 2) := by decide +kernel
theorem dX5_charactersIn_31 : decode cX5_charactersIn 31 = .ok (.iload 5, 2) := by decide +kernel
theorem dX5_charactersIn_33 : decode cX5_charactersIn 33 = .ok (.bipush 33, 2) := by decide +kernel
theorem dX5_charactersIn_35 : decode cX5_charactersIn 35 = .ok (.if_icmp .lt 10, 3) := by decide +kernel
theorem dX5_charactersIn_38 : decode cX5_charactersIn 38 = .ok (.iload 5, 2) := by decide +kernel
theorem dX5_charactersIn_40 : decode cX5_charactersIn 40 = .ok (.bipush 126, 2) := by decide +kernel
theorem dX5_charactersIn_42 : decode cX5_charactersIn 42 = .ok (.if_icmp .le 5, 3) := by decide +kernel
theorem dX5_charactersIn_45 : decode cX5_charactersIn 45 = .ok (.iconst 0, 1) := by decide +kernel
theorem dX5_charactersIn_46 : decode cX5_charactersIn 46 = .ok (.ireturn, 1) := by decide +kernel
theorem dX5_charactersIn_47 : decode cX5_charactersIn 47 = .ok (.iinc 2 1, 3) := by decide +kernel
theorem dX5_charactersIn_50 : decode cX5_charactersIn 50 = .ok (.goto (-48), 3) := by decide +kernel
theorem dX5_charactersIn_53 : decode cX5_charactersIn 53 = .ok (.bipush 8, 2) := by decide +kernel
theorem dX5_charactersIn_55 : decode cX5_charactersIn 55 = .ok (.ireturn, 1) := by decide +kernel
