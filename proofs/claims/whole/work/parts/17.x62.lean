theorem dX6_enter_56 : decode cX6_enter 56 = .ok (.iadd, 1) := by decide +kernel
theorem dX6_enter_57 : decode cX6_enter 57 = .ok (.dup2, 1) := by decide +kernel
theorem dX6_enter_58 : decode cX6_enter 58 = .ok (.iaload, 1) := by decide +kernel
theorem dX6_enter_59 : decode cX6_enter 59 = .ok (.iload_n 2, 1) := by decide +kernel
theorem dX6_enter_60 : decode cX6_enter 60 = .ok (.iadd, 1) := by decide +kernel
theorem dX6_enter_61 : decode cX6_enter 61 = .ok (.iastore, 1) := by decide +kernel
theorem dX6_enter_62 : decode cX6_enter 62 = .ok (.aload_n 0, 1) := by decide +kernel
theorem dX6_enter_63 : decode cX6_enter 63 = .ok (.getfield 7, 3) := by decide +kernel
theorem dX6_enter_66 : decode cX6_enter 66 = .ok (.iconst 2, 1) := by decide +kernel
theorem dX6_enter_67 : decode cX6_enter 67 = .ok (.dup2, 1) := by decide +kernel
theorem dX6_enter_68 : decode cX6_enter 68 = .ok (.iaload, 1) := by decide +kernel
theorem dX6_enter_69 : decode cX6_enter 69 = .ok (.iload_n 2, 1) := by decide +kernel
theorem dX6_enter_70 : decode cX6_enter 70 = .ok (.iadd, 1) := by decide +kernel
theorem dX6_enter_71 : decode cX6_enter 71 = .ok (.iastore, 1) := by decide +kernel
theorem dX6_enter_72 : decode cX6_enter 72 = .ok (.aload_n 0, 1) := by decide +kernel
theorem dX6_enter_73 : decode cX6_enter 73 = .ok (.getfield 7, 3) := by decide +kernel
theorem dX6_enter_76 : decode cX6_enter 76 = .ok (.bipush 21, 2) := by decide +kernel
theorem dX6_enter_78 : decode cX6_enter 78 = .ok (.iload_n 1, 1) := by decide +kernel
theorem dX6_enter_79 : decode cX6_enter 79 = .ok (.iadd, 1) := by decide +kernel
theorem dX6_enter_80 : decode cX6_enter 80 = .ok (.iaload, 1) := by decide +kernel
theorem dX6_enter_81 : decode cX6_enter 81 = .ok (.ireturn, 1) := by decide +kernel
set_option maxRecDepth 20000 in
theorem ggX6_pass_X6_in : GoodIn wsX6_pass wsX6_in := goodIn_r _ [5] (by decide +kernel) (by decide +kernel)
set_option maxRecDepth 20000 in
theorem gX6_pass_X6_in : GoodIn wsX6_pass (va_wsS RX6 47 yX6_in wsX6_in) := goodIn_app (goodIn_of _ (by decide +kernel)) ggX6_pass_X6_in
set_option maxRecDepth 20000 in
theorem ggX6_pass_X6_record : GoodIn wsX6_pass wsX6_record := goodIn_r _ [9, 10, 11, 1, 63, 64, 65, 66, 67, 68, 69, 70, 71, 72, 73, 74, 75, 76, 77, 78] (by decide +kernel) (by decide +kernel)
set_option maxRecDepth 20000 in
theorem gX6_pass_X6_record : GoodIn wsX6_pass (wsV RX6 96 RX6 yX6_record wsX6_record) := goodIn_app (goodIn_of _ (by decide +kernel)) ggX6_pass_X6_record
set_option maxRecDepth 20000 in
theorem ggX6_pass_X6_layWays : GoodIn wsX6_pass wsX6_layWays := goodIn_r _ [15, 16, 17, 18, 19, 20, 21, 22, 4, 23, 1, 24, 25, 26, 27, 28, 29, 30, 31, 32, 33, 34, 35, 36, 37, 38, 39, 40, 41, 42, 43, 44, 45, 63, 64, 65, 66, 67, 68, 69, 70, 71, 72, 73, 74, 75, 76, 77, 78] (by decide +kernel) (by decide +kernel)
set_option maxRecDepth 20000 in
theorem gX6_pass_X6_layWays : GoodIn wsX6_pass (wsV RX6 118 RX6 yX6_layWays wsX6_layWays) := goodIn_app (goodIn_of _ (by decide +kernel)) ggX6_pass_X6_layWays
set_option maxRecDepth 20000 in
theorem ggX6_pass_X6_out : GoodIn wsX6_pass wsX6_out := goodIn_r _ [49, 1, 63, 64, 65, 66, 67, 68, 69, 70, 71, 72, 73, 74, 75, 76, 77, 78] (by decide +kernel) (by decide +kernel)
set_option maxRecDepth 20000 in
theorem gX6_pass_X6_out : GoodIn wsX6_pass (wsV RX6 121 RX6 yX6_out wsX6_out) := goodIn_app (goodIn_of _ (by decide +kernel)) ggX6_pass_X6_out
set_option maxRecDepth 20000 in
theorem ggX6_pass_X6_minute : GoodIn wsX6_pass wsX6_minute := goodIn_r _ [53, 1, 54, 17, 55, 56, 57, 4, 58, 59, 60, 61, 62, 19, 63, 64, 65, 66, 67, 68, 69, 70, 71, 72, 73, 74, 75, 76, 77, 78] (by decide +kernel) (by decide +kernel)
set_option maxRecDepth 20000 in
theorem gX6_pass_X6_minute : GoodIn wsX6_pass (wsV RX6 93 RX6 yX6_minute wsX6_minute) := goodIn_app (goodIn_of _ (by decide +kernel)) ggX6_pass_X6_minute
theorem dX6_pass_0 : decode cX6_pass 0 = .ok (.iload_n 1, 1) := by decide +kernel
theorem dX6_pass_1 : decode cX6_pass 1 = .ok (.iconst 1, 1) := by decide +kernel
theorem dX6_pass_2 : decode cX6_pass 2 = .ok (.bipush 99, 2) := by decide +kernel
theorem dX6_pass_4 : decode cX6_pass 4 = .ok (.invokestatic 47, 3) := by decide +kernel
theorem dX6_pass_7 : decode cX6_pass 7 = .ok (.ifCond .ne 6, 3) := by decide +kernel
theorem dX6_pass_10 : decode cX6_pass 10 = .ok (.bipush (-2), 2) := by decide +kernel
theorem dX6_pass_12 : decode cX6_pass 12 = .ok (.ireturn, 1) := by decide +kernel
theorem dX6_pass_13 : decode cX6_pass 13 = .ok (.aload_n 0, 1) := by decide +kernel
theorem dX6_pass_14 : decode cX6_pass 14 = .ok (.getfield 7, 3) := by decide +kernel
theorem dX6_pass_17 : decode cX6_pass 17 = .ok (.iconst 1, 1) := by decide +kernel
theorem dX6_pass_18 : decode cX6_pass 18 = .ok (.iaload, 1) := by decide +kernel
theorem dX6_pass_19 : decode cX6_pass 19 = .ok (.iload_n 1, 1) := by decide +kernel
theorem dX6_pass_20 : decode cX6_pass 20 = .ok (.iadd, 1) := by decide +kernel
theorem dX6_pass_21 : decode cX6_pass 21 = .ok (.sipush 9999, 3) := by decide +kernel
theorem dX6_pass_24 : decode cX6_pass 24 = .ok (.if_icmp .le 6, 3) := by decide +kernel
theorem dX6_pass_27 : decode cX6_pass 27 = .ok (.bipush (-4), 2) := by decide +kernel
theorem dX6_pass_29 : decode cX6_pass 29 = .ok (.ireturn, 1) := by decide +kernel
theorem dX6_pass_30 : decode cX6_pass 30 = .ok (.aload_n 0, 1) := by decide +kernel
theorem dX6_pass_31 : decode cX6_pass 31 = .ok (.invokevirtual 96, 3) := by decide +kernel
theorem dX6_pass_34 : decode cX6_pass 34 = .ok (.aload_n 0, 1) := by decide +kernel
theorem dX6_pass_35 : decode cX6_pass 35 = .ok (.invokevirtual 118, 3) := by decide +kernel
theorem dX6_pass_38 : decode cX6_pass 38 = .ok (.aload_n 0, 1) := by decide +kernel
theorem dX6_pass_39 : decode cX6_pass 39 = .ok (.invokevirtual 121, 3) := by decide +kernel
theorem dX6_pass_42 : decode cX6_pass 42 = .ok (.istore_n 2, 1) := by decide +kernel
theorem dX6_pass_43 : decode cX6_pass 43 = .ok (.iconst 0, 1) := by decide +kernel
theorem dX6_pass_44 : decode cX6_pass 44 = .ok (.istore_n 3, 1) := by decide +kernel
theorem dX6_pass_45 : decode cX6_pass 45 = .ok (.iload_n 3, 1) := by decide +kernel
theorem dX6_pass_46 : decode cX6_pass 46 = .ok (.iload_n 1, 1) := by decide +kernel
theorem dX6_pass_47 : decode cX6_pass 47 = .ok (.if_icmp .ge 13, 3) := by decide +kernel
theorem dX6_pass_50 : decode cX6_pass 50 = .ok (.aload_n 0, 1) := by decide +kernel
theorem dX6_pass_51 : decode cX6_pass 51 = .ok (.invokevirtual 93, 3) := by decide +kernel
theorem dX6_pass_54 : decode cX6_pass 54 = .ok (.iinc 3 1, 3) := by decide +kernel
theorem dX6_pass_57 : decode cX6_pass 57 = .ok (.goto (-12), 3) := by decide +kernel
theorem dX6_pass_60 : decode cX6_pass 60 = .ok (.aload_n 0, 1) := by decide +kernel
theorem dX6_pass_61 : decode cX6_pass 61 = .ok (.invokevirtual 121, 3) := by decide +kernel
theorem dX6_pass_64 : decode cX6_pass 64 = .ok (.iload_n 2, 1) := by decide +kernel
theorem dX6_pass_65 : decode cX6_pass 65 = .ok (.isub, 1) := by decide +kernel
theorem dX6_pass_66 : decode cX6_pass 66 = .ok (.ireturn, 1) := by decide +kernel
set_option maxRecDepth 20000 in
theorem ggX6_ropesOf_X6_hasRope : GoodIn wsX6_ropesOf wsX6_hasRope := goodIn_r _ [5, 6, 7, 8, 4, 9, 10, 11, 12, 13, 14, 15, 16, 17, 18, 19, 20, 21, 22, 23, 24, 25, 26, 27, 28] (by decide +kernel) (by decide +kernel)
set_option maxRecDepth 20000 in
theorem gX6_ropesOf_X6_hasRope : GoodIn wsX6_ropesOf (wsV RX6 124 RX6 yX6_hasRope wsX6_hasRope) := goodIn_app (goodIn_of _ (by decide +kernel)) ggX6_ropesOf_X6_hasRope
theorem dX6_ropesOf_0 : decode cX6_ropesOf 0 = .ok (.iconst 0, 1) := by decide +kernel
theorem dX6_ropesOf_1 : decode cX6_ropesOf 1 = .ok (.istore_n 2, 1) := by decide +kernel
theorem dX6_ropesOf_2 : decode cX6_ropesOf 2 = .ok (.iconst 0, 1) := by decide +kernel
theorem dX6_ropesOf_3 : decode cX6_ropesOf 3 = .ok (.istore_n 3, 1) := by decide +kernel
theorem dX6_ropesOf_4 : decode cX6_ropesOf 4 = .ok (.iload_n 3, 1) := by decide +kernel
theorem dX6_ropesOf_5 : decode cX6_ropesOf 5 = .ok (.iconst 4, 1) := by decide +kernel
theorem dX6_ropesOf_6 : decode cX6_ropesOf 6 = .ok (.if_icmp .ge 28, 3) := by decide +kernel
theorem dX6_ropesOf_9 : decode cX6_ropesOf 9 = .ok (.iload_n 2, 1) := by decide +kernel
theorem dX6_ropesOf_10 : decode cX6_ropesOf 10 = .ok (.aload_n 0, 1) := by decide +kernel
theorem dX6_ropesOf_11 : decode cX6_ropesOf 11 = .ok (.iload_n 1, 1) := by decide +kernel
theorem dX6_ropesOf_12 : decode cX6_ropesOf 12 = .ok (.iload_n 3, 1) := by decide +kernel
theorem dX6_ropesOf_13 : decode cX6_ropesOf 13 = .ok (.invokevirtual 124, 3) := by decide +kernel
theorem dX6_ropesOf_16 : decode cX6_ropesOf 16 = .ok (.ifCond .eq 9, 3) := by decide +kernel
theorem dX6_ropesOf_19 : decode cX6_ropesOf 19 = .ok (.iconst 1, 1) := by decide +kernel
theorem dX6_ropesOf_20 : decode cX6_ropesOf 20 = .ok (.iload_n 3, 1) := by decide +kernel
theorem dX6_ropesOf_21 : decode cX6_ropesOf 21 = .ok (.ishl, 1) := by decide +kernel
theorem dX6_ropesOf_22 : decode cX6_ropesOf 22 = .ok (.goto 4, 3) := by decide +kernel
theorem dX6_ropesOf_25 : decode cX6_ropesOf 25 = .ok (.iconst 0, 1) := by decide +kernel
theorem dX6_ropesOf_26 : decode cX6_ropesOf 26 = .ok (.ior, 1) := by decide +kernel
theorem dX6_ropesOf_27 : decode cX6_ropesOf 27 = .ok (.istore_n 2, 1) := by decide +kernel
theorem dX6_ropesOf_28 : decode cX6_ropesOf 28 = .ok (.iinc 3 1, 3) := by decide +kernel
theorem dX6_ropesOf_31 : decode cX6_ropesOf 31 = .ok (.goto (-27), 3) := by decide +kernel
theorem dX6_ropesOf_34 : decode cX6_ropesOf 34 = .ok (.iload_n 2, 1) := by decide +kernel
theorem dX6_ropesOf_35 : decode cX6_ropesOf 35 = .ok (.ireturn, 1) := by decide +kernel
set_option maxRecDepth 20000 in
theorem ggX6_cell_X6_isCell : GoodIn wsX6_cell wsX6_isCell := goodIn_r _ [8, 9, 10, 7, 11] (by decide +kernel) (by decide +kernel)
set_option maxRecDepth 20000 in
theorem gX6_cell_X6_isCell : GoodIn wsX6_cell (va_wsS RX6 102 yX6_isCell wsX6_isCell) := goodIn_app (goodIn_of _ (by decide +kernel)) ggX6_cell_X6_isCell
set_option maxRecDepth 20000 in
theorem ggX6_cell_X6_layWays : GoodIn wsX6_cell wsX6_layWays := goodIn_r _ [15, 2, 3, 16, 4, 17, 18, 19, 7, 20, 1, 21, 22, 23, 24, 25, 26, 27, 28, 29, 30, 31, 32, 33, 34, 35, 36, 37, 38, 39, 40, 41, 42, 51, 52, 53, 54, 55, 56, 57, 58, 59, 60, 61, 62, 63, 64, 65, 66] (by decide +kernel) (by decide +kernel)
set_option maxRecDepth 20000 in
theorem gX6_cell_X6_layWays : GoodIn wsX6_cell (wsV RX6 118 RX6 yX6_layWays wsX6_layWays) := goodIn_app (goodIn_of _ (by decide +kernel)) ggX6_cell_X6_layWays
set_option maxRecDepth 20000 in
theorem ggX6_cell_X6_ropesOf : GoodIn wsX6_cell wsX6_ropesOf := goodIn_r _ [46, 47, 48, 49, 7, 50, 1, 25, 26, 27, 28, 29, 30, 51, 52, 53, 54, 55, 56, 57, 58, 59, 60, 61, 62, 63, 64, 65, 66] (by decide +kernel) (by decide +kernel)
set_option maxRecDepth 20000 in
theorem gX6_cell_X6_ropesOf : GoodIn wsX6_cell (wsV RX6 127 RX6 yX6_ropesOf wsX6_ropesOf) := goodIn_app (goodIn_of _ (by decide +kernel)) ggX6_cell_X6_ropesOf
theorem dX6_cell_0 : decode cX6_cell 0 = .ok (.iload_n 1, 1) := by decide +kernel
theorem dX6_cell_1 : decode cX6_cell 1 = .ok (.invokestatic 102, 3) := by decide +kernel
theorem dX6_cell_4 : decode cX6_cell 4 = .ok (.ifCond .ne 5, 3) := by decide +kernel
theorem dX6_cell_7 : decode cX6_cell 7 = .ok (.iconst (-1), 1) := by decide +kernel
theorem dX6_cell_8 : decode cX6_cell 8 = .ok (.ireturn, 1) := by decide +kernel
theorem dX6_cell_9 : decode cX6_cell 9 = .ok (.aload_n 0, 1) := by decide +kernel
theorem dX6_cell_10 : decode cX6_cell 10 = .ok (.invokevirtual 118, 3) := by decide +kernel
theorem dX6_cell_13 : decode cX6_cell 13 = .ok (.iload_n 2, 1) := by decide +kernel
theorem dX6_cell_14 : decode cX6_cell 14 = .ok (.tableswitch 102 0 5 #[38, 48, 55, 62, 69, 96], 38) := by decide +kernel
theorem dX6_cell_52 : decode cX6_cell 52 = .ok (.aload_n 0, 1) := by decide +kernel
theorem dX6_cell_53 : decode cX6_cell 53 = .ok (.getfield 7, 3) := by decide +kernel
theorem dX6_cell_56 : decode cX6_cell 56 = .ok (.bipush 21, 2) := by decide +kernel
theorem dX6_cell_58 : decode cX6_cell 58 = .ok (.iload_n 1, 1) := by decide +kernel
theorem dX6_cell_59 : decode cX6_cell 59 = .ok (.iadd, 1) := by decide +kernel
theorem dX6_cell_60 : decode cX6_cell 60 = .ok (.iaload, 1) := by decide +kernel
theorem dX6_cell_61 : decode cX6_cell 61 = .ok (.ireturn, 1) := by decide +kernel
theorem dX6_cell_62 : decode cX6_cell 62 = .ok (.aload_n 0, 1) := by decide +kernel
theorem dX6_cell_63 : decode cX6_cell 63 = .ok (.getfield 32, 3) := by decide +kernel
theorem dX6_cell_66 : decode cX6_cell 66 = .ok (.iload_n 1, 1) := by decide +kernel
theorem dX6_cell_67 : decode cX6_cell 67 = .ok (.iaload, 1) := by decide +kernel
theorem dX6_cell_68 : decode cX6_cell 68 = .ok (.ireturn, 1) := by decide +kernel
theorem dX6_cell_69 : decode cX6_cell 69 = .ok (.aload_n 0, 1) := by decide +kernel
theorem dX6_cell_70 : decode cX6_cell 70 = .ok (.getfield 35, 3) := by decide +kernel
theorem dX6_cell_73 : decode cX6_cell 73 = .ok (.iload_n 1, 1) := by decide +kernel
theorem dX6_cell_74 : decode cX6_cell 74 = .ok (.iaload, 1) := by decide +kernel
theorem dX6_cell_75 : decode cX6_cell 75 = .ok (.ireturn, 1) := by decide +kernel
theorem dX6_cell_76 : decode cX6_cell 76 = .ok (.aload_n 0, 1) := by decide +kernel
theorem dX6_cell_77 : decode cX6_cell 77 = .ok (.getfield 38, 3) := by decide +kernel
theorem dX6_cell_80 : decode cX6_cell 80 = .ok (.iload_n 1, 1) := by decide +kernel
theorem dX6_cell_81 : decode cX6_cell 81 = .ok (.iaload, 1) := by decide +kernel
theorem dX6_cell_82 : decode cX6_cell 82 = .ok (.ireturn, 1) := by decide +kernel
theorem dX6_cell_83 : decode cX6_cell 83 = .ok (.aload_n 0, 1) := by decide +kernel
theorem dX6_cell_84 : decode cX6_cell 84 = .ok (.getfield 7, 3) := by decide +kernel
theorem dX6_cell_87 : decode cX6_cell 87 = .ok (.bipush 56, 2) := by decide +kernel
theorem dX6_cell_89 : decode cX6_cell 89 = .ok (.iload_n 1, 1) := by decide +kernel
theorem dX6_cell_90 : decode cX6_cell 90 = .ok (.iadd, 1) := by decide +kernel
theorem dX6_cell_91 : decode cX6_cell 91 = .ok (.iaload, 1) := by decide +kernel
theorem dX6_cell_92 : decode cX6_cell 92 = .ok (.ifCond .ge 8, 3) := by decide +kernel
theorem dX6_cell_95 : decode cX6_cell 95 = .ok (.bipush (-6), 2) := by decide +kernel
theorem dX6_cell_97 : decode cX6_cell 97 = .ok (.goto 12, 3) := by decide +kernel
theorem dX6_cell_100 : decode cX6_cell 100 = .ok (.aload_n 0, 1) := by decide +kernel
theorem dX6_cell_101 : decode cX6_cell 101 = .ok (.getfield 7, 3) := by decide +kernel
theorem dX6_cell_104 : decode cX6_cell 104 = .ok (.bipush 56, 2) := by decide +kernel
theorem dX6_cell_106 : decode cX6_cell 106 = .ok (.iload_n 1, 1) := by decide +kernel
theorem dX6_cell_107 : decode cX6_cell 107 = .ok (.iadd, 1) := by decide +kernel
theorem dX6_cell_108 : decode cX6_cell 108 = .ok (.iaload, 1) := by decide +kernel
theorem dX6_cell_109 : decode cX6_cell 109 = .ok (.ireturn, 1) := by decide +kernel
theorem dX6_cell_110 : decode cX6_cell 110 = .ok (.aload_n 0, 1) := by decide +kernel
theorem dX6_cell_111 : decode cX6_cell 111 = .ok (.iload_n 1, 1) := by decide +kernel
theorem dX6_cell_112 : decode cX6_cell 112 = .ok (.invokevirtual 127, 3) := by decide +kernel
theorem dX6_cell_115 : decode cX6_cell 115 = .ok (.ireturn, 1) := by decide +kernel
theorem dX6_cell_116 : decode cX6_cell 116 = .ok (.bipush (-2), 2) := by decide +kernel
theorem dX6_cell_118 : decode cX6_cell 118 = .ok (.ireturn, 1) := by decide +kernel
set_option maxRecDepth 20000 in
theorem ggX6_goalOfMany_X6_layWays : GoodIn wsX6_goalOfMany wsX6_layWays := goodIn_r _ [7, 1, 8, 9, 10, 11, 12, 13, 6, 14, 2, 15, 16, 17, 18, 19, 20, 21, 22, 23, 24, 25, 26, 27, 28, 29, 30, 31, 32, 33, 34, 35, 36, 37, 38, 39, 40, 41, 42, 43, 44, 45, 46, 47, 48, 49, 50, 51, 52] (by decide +kernel) (by decide +kernel)
set_option maxRecDepth 20000 in
theorem gX6_goalOfMany_X6_layWays : GoodIn wsX6_goalOfMany (wsV RX6 118 RX6 yX6_layWays wsX6_layWays) := goodIn_app (goodIn_of _ (by decide +kernel)) ggX6_goalOfMany_X6_layWays
theorem dX6_goalOfMany_0 : decode cX6_goalOfMany 0 = .ok (.aload_n 0, 1) := by decide +kernel
theorem dX6_goalOfMany_1 : decode cX6_goalOfMany 1 = .ok (.invokevirtual 118, 3) := by decide +kernel
theorem dX6_goalOfMany_4 : decode cX6_goalOfMany 4 = .ok (.iconst 0, 1) := by decide +kernel
theorem dX6_goalOfMany_5 : decode cX6_goalOfMany 5 = .ok (.istore_n 3, 1) := by decide +kernel
theorem dX6_goalOfMany_6 : decode cX6_goalOfMany 6 = .ok (.iconst 0, 1) := by decide +kernel
theorem dX6_goalOfMany_7 : decode cX6_goalOfMany 7 = .ok (.istore 4, 2) := by decide +kernel
theorem dX6_goalOfMany_9 : decode cX6_goalOfMany 9 = .ok (.iload 4, 2) := by decide +kernel
theorem dX6_goalOfMany_11 : decode cX6_goalOfMany 11 = .ok (.bipush 35, 2) := by decide +kernel
theorem dX6_goalOfMany_13 : decode cX6_goalOfMany 13 = .ok (.if_icmp .ge 45, 3) := by decide +kernel
theorem dX6_goalOfMany_16 : decode cX6_goalOfMany 16 = .ok (.iload_n 3, 1) := by decide +kernel
theorem dX6_goalOfMany_17 : decode cX6_goalOfMany 17 = .ok (.aload_n 0, 1) := by decide +kernel
theorem dX6_goalOfMany_18 : decode cX6_goalOfMany 18 = .ok (.getfield 32, 3) := by decide +kernel
theorem dX6_goalOfMany_21 : decode cX6_goalOfMany 21 = .ok (.iload 4, 2) := by decide +kernel
theorem dX6_goalOfMany_23 : decode cX6_goalOfMany 23 = .ok (.iaload, 1) := by decide +kernel
theorem dX6_goalOfMany_24 : decode cX6_goalOfMany 24 = .ok (.iload_n 1, 1) := by decide +kernel
theorem dX6_goalOfMany_25 : decode cX6_goalOfMany 25 = .ok (.if_icmp .eq 7, 3) := by decide +kernel
theorem dX6_goalOfMany_28 : decode cX6_goalOfMany 28 = .ok (.iconst 0, 1) := by decide +kernel
theorem dX6_goalOfMany_29 : decode cX6_goalOfMany 29 = .ok (.goto 21, 3) := by decide +kernel
theorem dX6_goalOfMany_32 : decode cX6_goalOfMany 32 = .ok (.iload_n 2, 1) := by decide +kernel
theorem dX6_goalOfMany_33 : decode cX6_goalOfMany 33 = .ok (.ifCond .eq 7, 3) := by decide +kernel
theorem dX6_goalOfMany_36 : decode cX6_goalOfMany 36 = .ok (.iconst 1, 1) := by decide +kernel
theorem dX6_goalOfMany_37 : decode cX6_goalOfMany 37 = .ok (.goto 13, 3) := by decide +kernel
theorem dX6_goalOfMany_40 : decode cX6_goalOfMany 40 = .ok (.aload_n 0, 1) := by decide +kernel
theorem dX6_goalOfMany_41 : decode cX6_goalOfMany 41 = .ok (.getfield 7, 3) := by decide +kernel
theorem dX6_goalOfMany_44 : decode cX6_goalOfMany 44 = .ok (.bipush 21, 2) := by decide +kernel
theorem dX6_goalOfMany_46 : decode cX6_goalOfMany 46 = .ok (.iload 4, 2) := by decide +kernel
theorem dX6_goalOfMany_48 : decode cX6_goalOfMany 48 = .ok (.iadd, 1) := by decide +kernel
theorem dX6_goalOfMany_49 : decode cX6_goalOfMany 49 = .ok (.iaload, 1) := by decide +kernel
theorem dX6_goalOfMany_50 : decode cX6_goalOfMany 50 = .ok (.iadd, 1) := by decide +kernel
theorem dX6_goalOfMany_51 : decode cX6_goalOfMany 51 = .ok (.istore_n 3, 1) := by decide +kernel
theorem dX6_goalOfMany_52 : decode cX6_goalOfMany 52 = .ok (.iinc 4 1, 3) := by decide +kernel
theorem dX6_goalOfMany_55 : decode cX6_goalOfMany 55 = .ok (.goto (-46), 3) := by decide +kernel
theorem dX6_goalOfMany_58 : decode cX6_goalOfMany 58 = .ok (.iload_n 3, 1) := by decide +kernel
theorem dX6_goalOfMany_59 : decode cX6_goalOfMany 59 = .ok (.ireturn, 1) := by decide +kernel
set_option maxRecDepth 20000 in
theorem ggX6_doorOf_X6_isDoor : GoodIn wsX6_doorOf wsX6_isDoor := goodIn_r _ [5, 6, 7, 4, 8] (by decide +kernel) (by decide +kernel)
set_option maxRecDepth 20000 in
theorem gX6_doorOf_X6_isDoor : GoodIn wsX6_doorOf (va_wsS RX6 112 yX6_isDoor wsX6_isDoor) := goodIn_app (goodIn_of _ (by decide +kernel)) ggX6_doorOf_X6_isDoor
set_option maxRecDepth 20000 in
theorem ggX6_doorOf_X6_goalOfMany : GoodIn wsX6_doorOf wsX6_goalOfMany := goodIn_r _ [12, 13, 1, 14, 15, 16, 4, 17, 18, 19, 20, 21, 22, 23, 24, 25, 26, 27, 28, 29, 30, 31, 32, 33, 34, 35, 36, 37, 38, 39, 40, 41, 42, 43, 44, 45, 46, 47, 48, 49, 50, 51, 52, 53, 54, 55, 56, 57, 58, 59, 60, 61, 62] (by decide +kernel) (by decide +kernel)
set_option maxRecDepth 20000 in
theorem gX6_doorOf_X6_goalOfMany : GoodIn wsX6_doorOf (wsV RX6 130 RX6 yX6_goalOfMany wsX6_goalOfMany) := goodIn_app (goodIn_of _ (by decide +kernel)) ggX6_doorOf_X6_goalOfMany
theorem dX6_doorOf_0 : decode cX6_doorOf 0 = .ok (.iload_n 1, 1) := by decide +kernel
theorem dX6_doorOf_1 : decode cX6_doorOf 1 = .ok (.invokestatic 112, 3) := by decide +kernel
theorem dX6_doorOf_4 : decode cX6_doorOf 4 = .ok (.ifCond .ne 5, 3) := by decide +kernel
theorem dX6_doorOf_7 : decode cX6_doorOf 7 = .ok (.iconst (-1), 1) := by decide +kernel
theorem dX6_doorOf_8 : decode cX6_doorOf 8 = .ok (.ireturn, 1) := by decide +kernel
theorem dX6_doorOf_9 : decode cX6_doorOf 9 = .ok (.iload_n 2, 1) := by decide +kernel
theorem dX6_doorOf_10 : decode cX6_doorOf 10 = .ok (.tableswitch 67 0 5 #[38, 38, 38, 38, 51, 51], 38) := by decide +kernel
theorem dX6_doorOf_48 : decode cX6_doorOf 48 = .ok (.aload_n 0, 1) := by decide +kernel
theorem dX6_doorOf_49 : decode cX6_doorOf 49 = .ok (.getfield 7, 3) := by decide +kernel
theorem dX6_doorOf_52 : decode cX6_doorOf 52 = .ok (.iconst 5, 1) := by decide +kernel
theorem dX6_doorOf_53 : decode cX6_doorOf 53 = .ok (.iconst 4, 1) := by decide +kernel
theorem dX6_doorOf_54 : decode cX6_doorOf 54 = .ok (.iload_n 2, 1) := by decide +kernel
theorem dX6_doorOf_55 : decode cX6_doorOf 55 = .ok (.imul, 1) := by decide +kernel
theorem dX6_doorOf_56 : decode cX6_doorOf 56 = .ok (.iadd, 1) := by decide +kernel
theorem dX6_doorOf_57 : decode cX6_doorOf 57 = .ok (.iload_n 1, 1) := by decide +kernel
theorem dX6_doorOf_58 : decode cX6_doorOf 58 = .ok (.iadd, 1) := by decide +kernel
theorem dX6_doorOf_59 : decode cX6_doorOf 59 = .ok (.iaload, 1) := by decide +kernel
theorem dX6_doorOf_60 : decode cX6_doorOf 60 = .ok (.ireturn, 1) := by decide +kernel
theorem dX6_doorOf_61 : decode cX6_doorOf 61 = .ok (.aload_n 0, 1) := by decide +kernel
theorem dX6_doorOf_62 : decode cX6_doorOf 62 = .ok (.iload_n 1, 1) := by decide +kernel
theorem dX6_doorOf_63 : decode cX6_doorOf 63 = .ok (.iload_n 2, 1) := by decide +kernel
theorem dX6_doorOf_64 : decode cX6_doorOf 64 = .ok (.iconst 4, 1) := by decide +kernel
theorem dX6_doorOf_65 : decode cX6_doorOf 65 = .ok (.if_icmp .ne 7, 3) := by decide +kernel
theorem dX6_doorOf_68 : decode cX6_doorOf 68 = .ok (.iconst 1, 1) := by decide +kernel
theorem dX6_doorOf_69 : decode cX6_doorOf 69 = .ok (.goto 4, 3) := by decide +kernel
theorem dX6_doorOf_72 : decode cX6_doorOf 72 = .ok (.iconst 0, 1) := by decide +kernel
theorem dX6_doorOf_73 : decode cX6_doorOf 73 = .ok (.invokevirtual 130, 3) := by decide +kernel
theorem dX6_doorOf_76 : decode cX6_doorOf 76 = .ok (.ireturn, 1) := by decide +kernel
theorem dX6_doorOf_77 : decode cX6_doorOf 77 = .ok (.bipush (-2), 2) := by decide +kernel
theorem dX6_doorOf_79 : decode cX6_doorOf 79 = .ok (.ireturn, 1) := by decide +kernel
theorem dX6_uneven_0 : decode cX6_uneven 0 = .ok (.iconst (-1), 1) := by decide +kernel
theorem dX6_uneven_1 : decode cX6_uneven 1 = .ok (.istore_n 1, 1) := by decide +kernel
theorem dX6_uneven_2 : decode cX6_uneven 2 = .ok (.iconst (-1), 1) := by decide +kernel
theorem dX6_uneven_3 : decode cX6_uneven 3 = .ok (.istore_n 2, 1) := by decide +kernel
theorem dX6_uneven_4 : decode cX6_uneven 4 = .ok (.iconst 0, 1) := by decide +kernel
theorem dX6_uneven_5 : decode cX6_uneven 5 = .ok (.istore_n 3, 1) := by decide +kernel
theorem dX6_uneven_6 : decode cX6_uneven 6 = .ok (.iload_n 3, 1) := by decide +kernel
theorem dX6_uneven_7 : decode cX6_uneven 7 = .ok (.iconst 4, 1) := by decide +kernel
theorem dX6_uneven_8 : decode cX6_uneven 8 = .ok (.if_icmp .ge 80, 3) := by decide +kernel
theorem dX6_uneven_11 : decode cX6_uneven 11 = .ok (.aload_n 0, 1) := by decide +kernel
theorem dX6_uneven_12 : decode cX6_uneven 12 = .ok (.getfield 7, 3) := by decide +kernel
theorem dX6_uneven_15 : decode cX6_uneven 15 = .ok (.bipush 13, 2) := by decide +kernel
theorem dX6_uneven_17 : decode cX6_uneven 17 = .ok (.iload_n 3, 1) := by decide +kernel
theorem dX6_uneven_18 : decode cX6_uneven 18 = .ok (.iadd, 1) := by decide +kernel
theorem dX6_uneven_19 : decode cX6_uneven 19 = .ok (.iaload, 1) := by decide +kernel
theorem dX6_uneven_20 : decode cX6_uneven 20 = .ok (.iconst 1, 1) := by decide +kernel
theorem dX6_uneven_21 : decode cX6_uneven 21 = .ok (.if_icmp .ne 61, 3) := by decide +kernel
theorem dX6_uneven_24 : decode cX6_uneven 24 = .ok (.iload_n 1, 1) := by decide +kernel
theorem dX6_uneven_25 : decode cX6_uneven 25 = .ok (.aload_n 0, 1) := by decide +kernel
theorem dX6_uneven_26 : decode cX6_uneven 26 = .ok (.getfield 7, 3) := by decide +kernel
theorem dX6_uneven_29 : decode cX6_uneven 29 = .ok (.bipush 17, 2) := by decide +kernel
theorem dX6_uneven_31 : decode cX6_uneven 31 = .ok (.iload_n 3, 1) := by decide +kernel
theorem dX6_uneven_32 : decode cX6_uneven 32 = .ok (.iadd, 1) := by decide +kernel
theorem dX6_uneven_33 : decode cX6_uneven 33 = .ok (.iaload, 1) := by decide +kernel
theorem dX6_uneven_34 : decode cX6_uneven 34 = .ok (.if_icmp .ge 15, 3) := by decide +kernel
theorem dX6_uneven_37 : decode cX6_uneven 37 = .ok (.aload_n 0, 1) := by decide +kernel
theorem dX6_uneven_38 : decode cX6_uneven 38 = .ok (.getfield 7, 3) := by decide +kernel
theorem dX6_uneven_41 : decode cX6_uneven 41 = .ok (.bipush 17, 2) := by decide +kernel
theorem dX6_uneven_43 : decode cX6_uneven 43 = .ok (.iload_n 3, 1) := by decide +kernel
theorem dX6_uneven_44 : decode cX6_uneven 44 = .ok (.iadd, 1) := by decide +kernel
theorem dX6_uneven_45 : decode cX6_uneven 45 = .ok (.iaload, 1) := by decide +kernel
theorem dX6_uneven_46 : decode cX6_uneven 46 = .ok (.goto 4, 3) := by decide +kernel
theorem dX6_uneven_49 : decode cX6_uneven 49 = .ok (.iload_n 1, 1) := by decide +kernel
theorem dX6_uneven_50 : decode cX6_uneven 50 = .ok (.istore_n 1, 1) := by decide +kernel
theorem dX6_uneven_51 : decode cX6_uneven 51 = .ok (.iload_n 2, 1) := by decide +kernel
theorem dX6_uneven_52 : decode cX6_uneven 52 = .ok (.ifCond .lt 16, 3) := by decide +kernel
theorem dX6_uneven_55 : decode cX6_uneven 55 = .ok (.aload_n 0, 1) := by decide +kernel
theorem dX6_uneven_56 : decode cX6_uneven 56 = .ok (.getfield 7, 3) := by decide +kernel
theorem dX6_uneven_59 : decode cX6_uneven 59 = .ok (.bipush 17, 2) := by decide +kernel
theorem dX6_uneven_61 : decode cX6_uneven 61 = .ok (.iload_n 3, 1) := by decide +kernel
theorem dX6_uneven_62 : decode cX6_uneven 62 = .ok (.iadd, 1) := by decide +kernel
theorem dX6_uneven_63 : decode cX6_uneven 63 = .ok (.iaload, 1) := by decide +kernel
theorem dX6_uneven_64 : decode cX6_uneven 64 = .ok (.iload_n 2, 1) := by decide +kernel
theorem dX6_uneven_65 : decode cX6_uneven 65 = .ok (.if_icmp .ge 15, 3) := by decide +kernel
theorem dX6_uneven_68 : decode cX6_uneven 68 = .ok (.aload_n 0, 1) := by decide +kernel
theorem dX6_uneven_69 : decode cX6_uneven 69 = .ok (.getfield 7, 3) := by decide +kernel
theorem dX6_uneven_72 : decode cX6_uneven 72 = .ok (.bipush 17, 2) := by decide +kernel
theorem dX6_uneven_74 : decode cX6_uneven 74 = .ok (.iload_n 3, 1) := by decide +kernel
theorem dX6_uneven_75 : decode cX6_uneven 75 = .ok (.iadd, 1) := by decide +kernel
theorem dX6_uneven_76 : decode cX6_uneven 76 = .ok (.iaload, 1) := by decide +kernel
theorem dX6_uneven_77 : decode cX6_uneven 77 = .ok (.goto 4, 3) := by decide +kernel
theorem dX6_uneven_80 : decode cX6_uneven 80 = .ok (.iload_n 2, 1) := by decide +kernel
theorem dX6_uneven_81 : decode cX6_uneven 81 = .ok (.istore_n 2, 1) := by decide +kernel
theorem dX6_uneven_82 : decode cX6_uneven 82 = .ok (.iinc 3 1, 3) := by decide +kernel
theorem dX6_uneven_85 : decode cX6_uneven 85 = .ok (.goto (-79), 3) := by decide +kernel
theorem dX6_uneven_88 : decode cX6_uneven 88 = .ok (.iload_n 1, 1) := by decide +kernel
theorem dX6_uneven_89 : decode cX6_uneven 89 = .ok (.iload_n 2, 1) := by decide +kernel
theorem dX6_uneven_90 : decode cX6_uneven 90 = .ok (.isub, 1) := by decide +kernel
theorem dX6_uneven_91 : decode cX6_uneven 91 = .ok (.ireturn, 1) := by decide +kernel
theorem dX6_guards_0 : decode cX6_guards 0 = .ok (.iconst 0, 1) := by decide +kernel
theorem dX6_guards_1 : decode cX6_guards 1 = .ok (.istore_n 1, 1) := by decide +kernel
theorem dX6_guards_2 : decode cX6_guards 2 = .ok (.iconst 0, 1) := by decide +kernel
theorem dX6_guards_3 : decode cX6_guards 3 = .ok (.istore_n 2, 1) := by decide +kernel
theorem dX6_guards_4 : decode cX6_guards 4 = .ok (.iload_n 2, 1) := by decide +kernel
theorem dX6_guards_5 : decode cX6_guards 5 = .ok (.bipush 35, 2) := by decide +kernel
theorem dX6_guards_7 : decode cX6_guards 7 = .ok (.if_icmp .ge 29, 3) := by decide +kernel
theorem dX6_guards_10 : decode cX6_guards 10 = .ok (.iload_n 1, 1) := by decide +kernel
theorem dX6_guards_11 : decode cX6_guards 11 = .ok (.aload_n 0, 1) := by decide +kernel
theorem dX6_guards_12 : decode cX6_guards 12 = .ok (.getfield 7, 3) := by decide +kernel
theorem dX6_guards_15 : decode cX6_guards 15 = .ok (.bipush 56, 2) := by decide +kernel
theorem dX6_guards_17 : decode cX6_guards 17 = .ok (.iload_n 2, 1) := by decide +kernel
theorem dX6_guards_18 : decode cX6_guards 18 = .ok (.iadd, 1) := by decide +kernel
theorem dX6_guards_19 : decode cX6_guards 19 = .ok (.iaload, 1) := by decide +kernel
theorem dX6_guards_20 : decode cX6_guards 20 = .ok (.ifCond .ge 7, 3) := by decide +kernel
theorem dX6_guards_23 : decode cX6_guards 23 = .ok (.iconst 0, 1) := by decide +kernel
theorem dX6_guards_24 : decode cX6_guards 24 = .ok (.goto 4, 3) := by decide +kernel
theorem dX6_guards_27 : decode cX6_guards 27 = .ok (.iconst 1, 1) := by decide +kernel
theorem dX6_guards_28 : decode cX6_guards 28 = .ok (.iadd, 1) := by decide +kernel
theorem dX6_guards_29 : decode cX6_guards 29 = .ok (.istore_n 1, 1) := by decide +kernel
theorem dX6_guards_30 : decode cX6_guards 30 = .ok (.iinc 2 1, 3) := by decide +kernel
theorem dX6_guards_33 : decode cX6_guards 33 = .ok (.goto (-29), 3) := by decide +kernel
theorem dX6_guards_36 : decode cX6_guards 36 = .ok (.iload_n 1, 1) := by decide +kernel
theorem dX6_guards_37 : decode cX6_guards 37 = .ok (.ireturn, 1) := by decide +kernel
set_option maxRecDepth 20000 in
theorem ggX6_count_X6_people : GoodIn wsX6_count wsX6_people := goodIn_r _ [8, 1, 67, 68, 69, 70, 71, 72, 73, 74, 75, 76, 77, 78, 79, 80, 81, 82] (by decide +kernel) (by decide +kernel)
set_option maxRecDepth 20000 in
theorem gX6_count_X6_people : GoodIn wsX6_count (wsV RX6 86 RX6 yX6_people wsX6_people) := goodIn_app (goodIn_of _ (by decide +kernel)) ggX6_count_X6_people
set_option maxRecDepth 20000 in
theorem ggX6_count_X6_out : GoodIn wsX6_count wsX6_out := goodIn_r _ [12, 1, 67, 68, 69, 70, 71, 72, 73, 74, 75, 76, 77, 78, 79, 80, 81, 82] (by decide +kernel) (by decide +kernel)
set_option maxRecDepth 20000 in
theorem gX6_count_X6_out : GoodIn wsX6_count (wsV RX6 121 RX6 yX6_out wsX6_out) := goodIn_app (goodIn_of _ (by decide +kernel)) ggX6_count_X6_out
set_option maxRecDepth 20000 in
theorem ggX6_count_X6_ropes : GoodIn wsX6_count wsX6_ropes := goodIn_r _ [16, 1, 67, 68, 69, 70, 71, 72, 73, 74, 75, 76, 77, 78, 79, 80, 81, 82] (by decide +kernel) (by decide +kernel)
set_option maxRecDepth 20000 in
theorem gX6_count_X6_ropes : GoodIn wsX6_count (wsV RX6 109 RX6 yX6_ropes wsX6_ropes) := goodIn_app (goodIn_of _ (by decide +kernel)) ggX6_count_X6_ropes
set_option maxRecDepth 20000 in
theorem ggX6_count_X6_openSet : GoodIn wsX6_count wsX6_openSet := goodIn_r _ [20, 1, 67, 68, 69, 70, 71, 72, 73, 74, 75, 76, 77, 78, 79, 80, 81, 82] (by decide +kernel) (by decide +kernel)
set_option maxRecDepth 20000 in
theorem gX6_count_X6_openSet : GoodIn wsX6_count (wsV RX6 134 RX6 yX6_openSet wsX6_openSet) := goodIn_app (goodIn_of _ (by decide +kernel)) ggX6_count_X6_openSet
set_option maxRecDepth 20000 in
theorem ggX6_count_X6_layWays : GoodIn wsX6_count wsX6_layWays := goodIn_r _ [24, 25, 26, 27, 28, 29, 30, 31, 7, 32, 1, 33, 34, 35, 36, 37, 38, 39, 40, 41, 42, 43, 44, 45, 46, 47, 48, 49, 50, 51, 52, 53, 54, 67, 68, 69, 70, 71, 72, 73, 74, 75, 76, 77, 78, 79, 80, 81, 82] (by decide +kernel) (by decide +kernel)
set_option maxRecDepth 20000 in
theorem gX6_count_X6_layWays : GoodIn wsX6_count (wsV RX6 118 RX6 yX6_layWays wsX6_layWays) := goodIn_app (goodIn_of _ (by decide +kernel)) ggX6_count_X6_layWays
set_option maxRecDepth 20000 in
theorem ggX6_count_X6_shutIn : GoodIn wsX6_count wsX6_shutIn := goodIn_r _ [58, 25, 1, 67, 68, 69, 70, 71, 72, 73, 74, 75, 76, 77, 78, 79, 80, 81, 82] (by decide +kernel) (by decide +kernel)
set_option maxRecDepth 20000 in
theorem gX6_count_X6_shutIn : GoodIn wsX6_count (wsV RX6 90 RX6 yX6_shutIn wsX6_shutIn) := goodIn_app (goodIn_of _ (by decide +kernel)) ggX6_count_X6_shutIn
set_option maxRecDepth 20000 in
theorem ggX6_count_X6_uneven : GoodIn wsX6_count wsX6_uneven := goodIn_r _ [62, 1, 67, 68, 69, 70, 71, 72, 73, 74, 75, 76, 77, 78, 79, 80, 81, 82] (by decide +kernel) (by decide +kernel)
set_option maxRecDepth 20000 in
theorem gX6_count_X6_uneven : GoodIn wsX6_count (wsV RX6 137 RX6 yX6_uneven wsX6_uneven) := goodIn_app (goodIn_of _ (by decide +kernel)) ggX6_count_X6_uneven
set_option maxRecDepth 20000 in
theorem ggX6_count_X6_guards : GoodIn wsX6_count wsX6_guards := goodIn_r _ [66, 1, 67, 68, 69, 70, 71, 72, 73, 74, 75, 76, 77, 78, 79, 80, 81, 82] (by decide +kernel) (by decide +kernel)
set_option maxRecDepth 20000 in
theorem gX6_count_X6_guards : GoodIn wsX6_count (wsV RX6 140 RX6 yX6_guards wsX6_guards) := goodIn_app (goodIn_of _ (by decide +kernel)) ggX6_count_X6_guards
theorem dX6_count_0 : decode cX6_count 0 = .ok (.iload_n 1, 1) := by decide +kernel
theorem dX6_count_1 : decode cX6_count 1 = .ok (.tableswitch 145 0 13 #[71, 71, 78, 83, 90, 95, 95, 106, 111, 116, 125, 130, 135, 140], 71) := by decide +kernel
theorem dX6_count_72 : decode cX6_count 72 = .ok (.aload_n 0, 1) := by decide +kernel
theorem dX6_count_73 : decode cX6_count 73 = .ok (.getfield 7, 3) := by decide +kernel
theorem dX6_count_76 : decode cX6_count 76 = .ok (.iload_n 1, 1) := by decide +kernel
theorem dX6_count_77 : decode cX6_count 77 = .ok (.iaload, 1) := by decide +kernel
theorem dX6_count_78 : decode cX6_count 78 = .ok (.ireturn, 1) := by decide +kernel
theorem dX6_count_79 : decode cX6_count 79 = .ok (.aload_n 0, 1) := by decide +kernel
theorem dX6_count_80 : decode cX6_count 80 = .ok (.invokevirtual 86, 3) := by decide +kernel
theorem dX6_count_83 : decode cX6_count 83 = .ok (.ireturn, 1) := by decide +kernel
theorem dX6_count_84 : decode cX6_count 84 = .ok (.aload_n 0, 1) := by decide +kernel
theorem dX6_count_85 : decode cX6_count 85 = .ok (.getfield 7, 3) := by decide +kernel
theorem dX6_count_88 : decode cX6_count 88 = .ok (.iconst 2, 1) := by decide +kernel
theorem dX6_count_89 : decode cX6_count 89 = .ok (.iaload, 1) := by decide +kernel
theorem dX6_count_90 : decode cX6_count 90 = .ok (.ireturn, 1) := by decide +kernel
theorem dX6_count_91 : decode cX6_count 91 = .ok (.aload_n 0, 1) := by decide +kernel
theorem dX6_count_92 : decode cX6_count 92 = .ok (.invokevirtual 121, 3) := by decide +kernel
theorem dX6_count_95 : decode cX6_count 95 = .ok (.ireturn, 1) := by decide +kernel
theorem dX6_count_96 : decode cX6_count 96 = .ok (.aload_n 0, 1) := by decide +kernel
theorem dX6_count_97 : decode cX6_count 97 = .ok (.getfield 7, 3) := by decide +kernel
theorem dX6_count_100 : decode cX6_count 100 = .ok (.iconst 3, 1) := by decide +kernel
theorem dX6_count_101 : decode cX6_count 101 = .ok (.iload_n 1, 1) := by decide +kernel
theorem dX6_count_102 : decode cX6_count 102 = .ok (.iadd, 1) := by decide +kernel
theorem dX6_count_103 : decode cX6_count 103 = .ok (.iconst 5, 1) := by decide +kernel
theorem dX6_count_104 : decode cX6_count 104 = .ok (.isub, 1) := by decide +kernel
theorem dX6_count_105 : decode cX6_count 105 = .ok (.iaload, 1) := by decide +kernel
theorem dX6_count_106 : decode cX6_count 106 = .ok (.ireturn, 1) := by decide +kernel
theorem dX6_count_107 : decode cX6_count 107 = .ok (.aload_n 0, 1) := by decide +kernel
theorem dX6_count_108 : decode cX6_count 108 = .ok (.invokevirtual 109, 3) := by decide +kernel
theorem dX6_count_111 : decode cX6_count 111 = .ok (.ireturn, 1) := by decide +kernel
theorem dX6_count_112 : decode cX6_count 112 = .ok (.aload_n 0, 1) := by decide +kernel
theorem dX6_count_113 : decode cX6_count 113 = .ok (.invokevirtual 134, 3) := by decide +kernel
theorem dX6_count_116 : decode cX6_count 116 = .ok (.ireturn, 1) := by decide +kernel
theorem dX6_count_117 : decode cX6_count 117 = .ok (.aload_n 0, 1) := by decide +kernel
theorem dX6_count_118 : decode cX6_count 118 = .ok (.invokevirtual 118, 3) := by decide +kernel
theorem dX6_count_121 : decode cX6_count 121 = .ok (.aload_n 0, 1) := by decide +kernel
theorem dX6_count_122 : decode cX6_count 122 = .ok (.invokevirtual 90, 3) := by decide +kernel
theorem dX6_count_125 : decode cX6_count 125 = .ok (.ireturn, 1) := by decide +kernel
theorem dX6_count_126 : decode cX6_count 126 = .ok (.aload_n 0, 1) := by decide +kernel
theorem dX6_count_127 : decode cX6_count 127 = .ok (.invokevirtual 137, 3) := by decide +kernel
theorem dX6_count_130 : decode cX6_count 130 = .ok (.ireturn, 1) := by decide +kernel
theorem dX6_count_131 : decode cX6_count 131 = .ok (.aload_n 0, 1) := by decide +kernel
theorem dX6_count_132 : decode cX6_count 132 = .ok (.invokevirtual 140, 3) := by decide +kernel
theorem dX6_count_135 : decode cX6_count 135 = .ok (.ireturn, 1) := by decide +kernel
theorem dX6_count_136 : decode cX6_count 136 = .ok (.aload_n 0, 1) := by decide +kernel
theorem dX6_count_137 : decode cX6_count 137 = .ok (.getfield 143, 3) := by decide +kernel
theorem dX6_count_140 : decode cX6_count 140 = .ok (.ireturn, 1) := by decide +kernel
theorem dX6_count_141 : decode cX6_count 141 = .ok (.aload_n 0, 1) := by decide +kernel
theorem dX6_count_142 : decode cX6_count 142 = .ok (.getfield 51, 3) := by decide +kernel
theorem dX6_count_145 : decode cX6_count 145 = .ok (.ireturn, 1) := by decide +kernel
theorem dX6_count_146 : decode cX6_count 146 = .ok (.bipush (-2), 2) := by decide +kernel
theorem dX6_count_148 : decode cX6_count 148 = .ok (.ireturn, 1) := by decide +kernel
set_option maxRecDepth 20000 in
theorem ggX6_distance_X6_isCell : GoodIn wsX6_distance wsX6_isCell := goodIn_r _ [5, 6, 7, 4, 8] (by decide +kernel) (by decide +kernel)
set_option maxRecDepth 20000 in
theorem gX6_distance_X6_isCell : GoodIn wsX6_distance (va_wsS RX6 102 yX6_isCell wsX6_isCell) := goodIn_app (goodIn_of _ (by decide +kernel)) ggX6_distance_X6_isCell
set_option maxRecDepth 20000 in
theorem ggX6_distance_X6_isDoor : GoodIn wsX6_distance wsX6_isDoor := goodIn_r _ [11, 6, 7, 4, 8] (by decide +kernel) (by decide +kernel)
set_option maxRecDepth 20000 in
theorem gX6_distance_X6_isDoor : GoodIn wsX6_distance (va_wsS RX6 112 yX6_isDoor wsX6_isDoor) := goodIn_app (goodIn_of _ (by decide +kernel)) ggX6_distance_X6_isDoor
set_option maxRecDepth 20000 in
theorem ggX6_distance_X6_layFar : GoodIn wsX6_distance wsX6_layFar := goodIn_r _ [15, 1, 16, 17, 18, 19, 4, 20, 21, 22, 23, 24, 25, 26, 27, 28, 29, 30, 31, 32, 33, 34, 35, 36, 37, 38, 39, 40, 41, 42] (by decide +kernel) (by decide +kernel)
set_option maxRecDepth 20000 in
theorem gX6_distance_X6_layFar : GoodIn wsX6_distance (wsV RX6 69 RX6 yX6_layFar wsX6_layFar) := goodIn_app (goodIn_of _ (by decide +kernel)) ggX6_distance_X6_layFar
theorem dX6_distance_0 : decode cX6_distance 0 = .ok (.iload_n 1, 1) := by decide +kernel
theorem dX6_distance_1 : decode cX6_distance 1 = .ok (.invokestatic 102, 3) := by decide +kernel
theorem dX6_distance_4 : decode cX6_distance 4 = .ok (.ifCond .eq 10, 3) := by decide +kernel
theorem dX6_distance_7 : decode cX6_distance 7 = .ok (.iload_n 2, 1) := by decide +kernel
theorem dX6_distance_8 : decode cX6_distance 8 = .ok (.invokestatic 112, 3) := by decide +kernel
theorem dX6_distance_11 : decode cX6_distance 11 = .ok (.ifCond .ne 5, 3) := by decide +kernel
theorem dX6_distance_14 : decode cX6_distance 14 = .ok (.iconst (-1), 1) := by decide +kernel
theorem dX6_distance_15 : decode cX6_distance 15 = .ok (.ireturn, 1) := by decide +kernel
theorem dX6_distance_16 : decode cX6_distance 16 = .ok (.aload_n 0, 1) := by decide +kernel
theorem dX6_distance_17 : decode cX6_distance 17 = .ok (.iload_n 2, 1) := by decide +kernel
theorem dX6_distance_18 : decode cX6_distance 18 = .ok (.invokevirtual 69, 3) := by decide +kernel
theorem dX6_distance_21 : decode cX6_distance 21 = .ok (.aload_n 0, 1) := by decide +kernel
theorem dX6_distance_22 : decode cX6_distance 22 = .ok (.getfield 29, 3) := by decide +kernel
theorem dX6_distance_25 : decode cX6_distance 25 = .ok (.bipush 35, 2) := by decide +kernel
theorem dX6_distance_27 : decode cX6_distance 27 = .ok (.iload_n 2, 1) := by decide +kernel
theorem dX6_distance_28 : decode cX6_distance 28 = .ok (.imul, 1) := by decide +kernel
theorem dX6_distance_29 : decode cX6_distance 29 = .ok (.iload_n 1, 1) := by decide +kernel
theorem dX6_distance_30 : decode cX6_distance 30 = .ok (.iadd, 1) := by decide +kernel
theorem dX6_distance_31 : decode cX6_distance 31 = .ok (.iaload, 1) := by decide +kernel
theorem dX6_distance_32 : decode cX6_distance 32 = .ok (.bipush 100, 2) := by decide +kernel
theorem dX6_distance_34 : decode cX6_distance 34 = .ok (.if_icmp .ge 17, 3) := by decide +kernel
theorem dX6_distance_37 : decode cX6_distance 37 = .ok (.aload_n 0, 1) := by decide +kernel
theorem dX6_distance_38 : decode cX6_distance 38 = .ok (.getfield 29, 3) := by decide +kernel
theorem dX6_distance_41 : decode cX6_distance 41 = .ok (.bipush 35, 2) := by decide +kernel
theorem dX6_distance_43 : decode cX6_distance 43 = .ok (.iload_n 2, 1) := by decide +kernel
theorem dX6_distance_44 : decode cX6_distance 44 = .ok (.imul, 1) := by decide +kernel
theorem dX6_distance_45 : decode cX6_distance 45 = .ok (.iload_n 1, 1) := by decide +kernel
theorem dX6_distance_46 : decode cX6_distance 46 = .ok (.iadd, 1) := by decide +kernel
theorem dX6_distance_47 : decode cX6_distance 47 = .ok (.iaload, 1) := by decide +kernel
theorem dX6_distance_48 : decode cX6_distance 48 = .ok (.goto 5, 3) := by decide +kernel
theorem dX6_distance_51 : decode cX6_distance 51 = .ok (.bipush (-6), 2) := by decide +kernel
theorem dX6_distance_53 : decode cX6_distance 53 = .ok (.ireturn, 1) := by decide +kernel
set_option maxRecDepth 20000 in
theorem ggX6_untilOut_X6_putAside : GoodIn wsX6_untilOut wsX6_putAside := goodIn_r _ [5, 6, 7, 71, 72, 73, 74, 75, 76, 77, 78, 79, 80, 81, 82, 83, 84, 85, 86] (by decide +kernel) (by decide +kernel)
set_option maxRecDepth 20000 in
theorem gX6_untilOut_X6_putAside : GoodIn wsX6_untilOut (wsV RX6 146 RX6 yX6_putAside wsX6_putAside) := goodIn_app (goodIn_of _ (by decide +kernel)) ggX6_untilOut_X6_putAside
set_option maxRecDepth 20000 in
theorem ggX6_untilOut_X6_layWays : GoodIn wsX6_untilOut wsX6_layWays := goodIn_r _ [11, 12, 13, 14, 15, 16, 17, 18, 4, 19, 7, 20, 21, 22, 23, 24, 25, 26, 27, 28, 29, 30, 31, 32, 33, 34, 35, 36, 37, 38, 39, 40, 41, 71, 72, 73, 74, 75, 76, 77, 78, 79, 80, 81, 82, 83, 84, 85, 86] (by decide +kernel) (by decide +kernel)
set_option maxRecDepth 20000 in
theorem gX6_untilOut_X6_layWays : GoodIn wsX6_untilOut (wsV RX6 118 RX6 yX6_layWays wsX6_layWays) := goodIn_app (goodIn_of _ (by decide +kernel)) ggX6_untilOut_X6_layWays
set_option maxRecDepth 20000 in
theorem ggX6_untilOut_X6_emptied : GoodIn wsX6_untilOut wsX6_emptied := goodIn_r _ [45, 46, 47, 48, 4, 49, 7, 50, 51, 52, 53, 12, 54, 55, 56, 57, 58, 13, 59, 60, 61, 62, 63, 64, 65, 66, 15, 71, 72, 73, 74, 75, 76, 77, 78, 79, 80, 81, 82, 83, 84, 85, 86] (by decide +kernel) (by decide +kernel)
set_option maxRecDepth 20000 in
theorem gX6_untilOut_X6_emptied : GoodIn wsX6_untilOut (wsV RX6 149 RX6 yX6_emptied wsX6_emptied) := goodIn_app (goodIn_of _ (by decide +kernel)) ggX6_untilOut_X6_emptied
set_option maxRecDepth 20000 in
theorem ggX6_untilOut_X6_putBack : GoodIn wsX6_untilOut wsX6_putBack := goodIn_r _ [70, 7, 6, 71, 72, 73, 74, 75, 76, 77, 78, 79, 80, 81, 82, 83, 84, 85, 86] (by decide +kernel) (by decide +kernel)
set_option maxRecDepth 20000 in
theorem gX6_untilOut_X6_putBack : GoodIn wsX6_untilOut (wsV RX6 152 RX6 yX6_putBack wsX6_putBack) := goodIn_app (goodIn_of _ (by decide +kernel)) ggX6_untilOut_X6_putBack
theorem dX6_untilOut_0 : decode cX6_untilOut 0 = .ok (.aload_n 0, 1) := by decide +kernel
theorem dX6_untilOut_1 : decode cX6_untilOut 1 = .ok (.invokevirtual 146, 3) := by decide +kernel
theorem dX6_untilOut_4 : decode cX6_untilOut 4 = .ok (.aload_n 0, 1) := by decide +kernel
theorem dX6_untilOut_5 : decode cX6_untilOut 5 = .ok (.invokevirtual 118, 3) := by decide +kernel
theorem dX6_untilOut_8 : decode cX6_untilOut 8 = .ok (.aload_n 0, 1) := by decide +kernel
theorem dX6_untilOut_9 : decode cX6_untilOut 9 = .ok (.invokevirtual 149, 3) := by decide +kernel
theorem dX6_untilOut_12 : decode cX6_untilOut 12 = .ok (.istore_n 1, 1) := by decide +kernel
theorem dX6_untilOut_13 : decode cX6_untilOut 13 = .ok (.aload_n 0, 1) := by decide +kernel
theorem dX6_untilOut_14 : decode cX6_untilOut 14 = .ok (.invokevirtual 152, 3) := by decide +kernel
theorem dX6_untilOut_17 : decode cX6_untilOut 17 = .ok (.iload_n 1, 1) := by decide +kernel
theorem dX6_untilOut_18 : decode cX6_untilOut 18 = .ok (.ireturn, 1) := by decide +kernel
set_option maxRecDepth 20000 in
theorem ggX6_tries_X6_putAside : GoodIn wsX6_tries wsX6_putAside := goodIn_r _ [7, 8, 1, 76, 77, 78, 79, 80, 81, 82, 83, 84, 85, 86, 87, 88, 89, 90, 91] (by decide +kernel) (by decide +kernel)
set_option maxRecDepth 20000 in
theorem gX6_tries_X6_putAside : GoodIn wsX6_tries (wsV RX6 146 RX6 yX6_putAside wsX6_putAside) := goodIn_app (goodIn_of _ (by decide +kernel)) ggX6_tries_X6_putAside
set_option maxRecDepth 20000 in
theorem ggX6_tries_X6_ropeAt : GoodIn wsX6_tries wsX6_ropeAt := goodIn_r _ [11] (by decide +kernel) (by decide +kernel)
set_option maxRecDepth 20000 in
theorem gX6_tries_X6_ropeAt : GoodIn wsX6_tries (va_wsS RX6 59 yX6_ropeAt wsX6_ropeAt) := goodIn_app (goodIn_of _ (by decide +kernel)) ggX6_tries_X6_ropeAt
set_option maxRecDepth 20000 in
theorem ggX6_tries_X6_layWays : GoodIn wsX6_tries wsX6_layWays := goodIn_r _ [15, 16, 17, 18, 19, 20, 21, 22, 6, 23, 1, 24, 25, 26, 27, 28, 29, 30, 9, 10, 11, 31, 32, 33, 34, 35, 36, 37, 38, 39, 40, 41, 42, 76, 77, 78, 79, 80, 81, 82, 83, 84, 85, 86, 87, 88, 89, 90, 91] (by decide +kernel) (by decide +kernel)
set_option maxRecDepth 20000 in
theorem gX6_tries_X6_layWays : GoodIn wsX6_tries (wsV RX6 118 RX6 yX6_layWays wsX6_layWays) := goodIn_app (goodIn_of _ (by decide +kernel)) ggX6_tries_X6_layWays
set_option maxRecDepth 20000 in
theorem ggX6_tries_X6_shutIn : GoodIn wsX6_tries wsX6_shutIn := goodIn_r _ [46, 16, 1, 76, 77, 78, 79, 80, 81, 82, 83, 84, 85, 86, 87, 88, 89, 90, 91] (by decide +kernel) (by decide +kernel)
set_option maxRecDepth 20000 in
theorem gX6_tries_X6_shutIn : GoodIn wsX6_tries (wsV RX6 90 RX6 yX6_shutIn wsX6_shutIn) := goodIn_app (goodIn_of _ (by decide +kernel)) ggX6_tries_X6_shutIn
set_option maxRecDepth 20000 in
theorem ggX6_tries_X6_emptied : GoodIn wsX6_tries wsX6_emptied := goodIn_r _ [50, 51, 52, 53, 6, 54, 1, 43, 44, 45, 46, 16, 55, 56, 57, 58, 59, 17, 60, 61, 62, 63, 64, 65, 66, 67, 19, 76, 77, 78, 79, 80, 81, 82, 83, 84, 85, 86, 87, 88, 89, 90, 91] (by decide +kernel) (by decide +kernel)
set_option maxRecDepth 20000 in
theorem gX6_tries_X6_emptied : GoodIn wsX6_tries (wsV RX6 149 RX6 yX6_emptied wsX6_emptied) := goodIn_app (goodIn_of _ (by decide +kernel)) ggX6_tries_X6_emptied
set_option maxRecDepth 20000 in
theorem ggX6_tries_X6_uneven : GoodIn wsX6_tries wsX6_uneven := goodIn_r _ [71, 1, 76, 77, 78, 79, 80, 81, 82, 83, 84, 85, 86, 87, 88, 89, 90, 91] (by decide +kernel) (by decide +kernel)
set_option maxRecDepth 20000 in
theorem gX6_tries_X6_uneven : GoodIn wsX6_tries (wsV RX6 137 RX6 yX6_uneven wsX6_uneven) := goodIn_app (goodIn_of _ (by decide +kernel)) ggX6_tries_X6_uneven
set_option maxRecDepth 20000 in
theorem ggX6_tries_X6_putBack : GoodIn wsX6_tries wsX6_putBack := goodIn_r _ [75, 1, 8, 76, 77, 78, 79, 80, 81, 82, 83, 84, 85, 86, 87, 88, 89, 90, 91] (by decide +kernel) (by decide +kernel)
set_option maxRecDepth 20000 in
theorem gX6_tries_X6_putBack : GoodIn wsX6_tries (wsV RX6 152 RX6 yX6_putBack wsX6_putBack) := goodIn_app (goodIn_of _ (by decide +kernel)) ggX6_tries_X6_putBack
theorem dX6_tries_0 : decode cX6_tries 0 = .ok (.aload_n 0, 1) := by decide +kernel
theorem dX6_tries_1 : decode cX6_tries 1 = .ok (.invokevirtual 146, 3) := by decide +kernel
theorem dX6_tries_4 : decode cX6_tries 4 = .ok (.aload_n 0, 1) := by decide +kernel
theorem dX6_tries_5 : decode cX6_tries 5 = .ok (.getfield 7, 3) := by decide +kernel
theorem dX6_tries_8 : decode cX6_tries 8 = .ok (.iload_n 1, 1) := by decide +kernel
theorem dX6_tries_9 : decode cX6_tries 9 = .ok (.iconst 2, 1) := by decide +kernel
theorem dX6_tries_10 : decode cX6_tries 10 = .ok (.iload_n 2, 1) := by decide +kernel
theorem dX6_tries_11 : decode cX6_tries 11 = .ok (.iadd, 1) := by decide +kernel
theorem dX6_tries_12 : decode cX6_tries 12 = .ok (.invokestatic 59, 3) := by decide +kernel
theorem dX6_tries_15 : decode cX6_tries 15 = .ok (.dup2, 1) := by decide +kernel
theorem dX6_tries_16 : decode cX6_tries 16 = .ok (.iaload, 1) := by decide +kernel
theorem dX6_tries_17 : decode cX6_tries 17 = .ok (.iconst 1, 1) := by decide +kernel
theorem dX6_tries_18 : decode cX6_tries 18 = .ok (.ixor, 1) := by decide +kernel
theorem dX6_tries_19 : decode cX6_tries 19 = .ok (.iastore, 1) := by decide +kernel
theorem dX6_tries_20 : decode cX6_tries 20 = .ok (.aload_n 0, 1) := by decide +kernel
theorem dX6_tries_21 : decode cX6_tries 21 = .ok (.invokevirtual 118, 3) := by decide +kernel
theorem dX6_tries_24 : decode cX6_tries 24 = .ok (.aload_n 0, 1) := by decide +kernel
theorem dX6_tries_25 : decode cX6_tries 25 = .ok (.getfield 44, 3) := by decide +kernel
theorem dX6_tries_28 : decode cX6_tries 28 = .ok (.iconst 2, 1) := by decide +kernel
theorem dX6_tries_29 : decode cX6_tries 29 = .ok (.aload_n 0, 1) := by decide +kernel
theorem dX6_tries_30 : decode cX6_tries 30 = .ok (.invokevirtual 90, 3) := by decide +kernel
theorem dX6_tries_33 : decode cX6_tries 33 = .ok (.iastore, 1) := by decide +kernel
theorem dX6_tries_34 : decode cX6_tries 34 = .ok (.aload_n 0, 1) := by decide +kernel
theorem dX6_tries_35 : decode cX6_tries 35 = .ok (.getfield 44, 3) := by decide +kernel
theorem dX6_tries_38 : decode cX6_tries 38 = .ok (.iconst 0, 1) := by decide +kernel
theorem dX6_tries_39 : decode cX6_tries 39 = .ok (.aload_n 0, 1) := by decide +kernel
theorem dX6_tries_40 : decode cX6_tries 40 = .ok (.invokevirtual 149, 3) := by decide +kernel
theorem dX6_tries_43 : decode cX6_tries 43 = .ok (.iastore, 1) := by decide +kernel
theorem dX6_tries_44 : decode cX6_tries 44 = .ok (.aload_n 0, 1) := by decide +kernel
theorem dX6_tries_45 : decode cX6_tries 45 = .ok (.getfield 44, 3) := by decide +kernel
theorem dX6_tries_48 : decode cX6_tries 48 = .ok (.iconst 1, 1) := by decide +kernel
theorem dX6_tries_49 : decode cX6_tries 49 = .ok (.aload_n 0, 1) := by decide +kernel
theorem dX6_tries_50 : decode cX6_tries 50 = .ok (.invokevirtual 137, 3) := by decide +kernel
theorem dX6_tries_53 : decode cX6_tries 53 = .ok (.iastore, 1) := by decide +kernel
theorem dX6_tries_54 : decode cX6_tries 54 = .ok (.aload_n 0, 1) := by decide +kernel
theorem dX6_tries_55 : decode cX6_tries 55 = .ok (.invokevirtual 152, 3) := by decide +kernel
theorem dX6_tries_58 : decode cX6_tries 58 = .ok (.return_, 1) := by decide +kernel
set_option maxRecDepth 20000 in
theorem ggX6_ifRope_X6_isCell : GoodIn wsX6_ifRope wsX6_isCell := goodIn_r _ [5, 6, 7, 4, 8] (by decide +kernel) (by decide +kernel)
set_option maxRecDepth 20000 in
theorem gX6_ifRope_X6_isCell : GoodIn wsX6_ifRope (va_wsS RX6 102 yX6_isCell wsX6_isCell) := goodIn_app (goodIn_of _ (by decide +kernel)) ggX6_ifRope_X6_isCell
set_option maxRecDepth 20000 in
theorem ggX6_ifRope_X6_in : GoodIn wsX6_ifRope wsX6_in := goodIn_r _ [8] (by decide +kernel) (by decide +kernel)
set_option maxRecDepth 20000 in
theorem gX6_ifRope_X6_in : GoodIn wsX6_ifRope (va_wsS RX6 47 yX6_in wsX6_in) := goodIn_app (goodIn_of _ (by decide +kernel)) ggX6_ifRope_X6_in
set_option maxRecDepth 20000 in
theorem ggX6_ifRope_X6_isEdge : GoodIn wsX6_ifRope wsX6_isEdge := goodIn_r _ [11, 12, 13, 4, 14] (by decide +kernel) (by decide +kernel)
set_option maxRecDepth 20000 in
theorem gX6_ifRope_X6_isEdge : GoodIn wsX6_ifRope (va_wsS RX6 106 yX6_isEdge wsX6_isEdge) := goodIn_app (goodIn_of _ (by decide +kernel)) ggX6_ifRope_X6_isEdge
set_option maxRecDepth 20000 in
theorem ggX6_ifRope_X6_tries : GoodIn wsX6_ifRope wsX6_tries := goodIn_r _ [18, 19, 1, 20, 21, 22, 4, 23, 24, 25, 26, 27, 28, 29, 30, 31, 32, 33, 34, 35, 36, 37, 38, 39, 40, 41, 42, 43, 12, 13, 14, 44, 45, 46, 47, 48, 49, 50, 51, 52, 53, 54, 55, 56, 57, 58, 59, 60, 61, 62, 63, 64, 65, 66, 67, 68, 69, 70, 71, 72, 73, 74, 75, 76, 77, 78, 79, 80, 81, 82, 83, 84, 85, 86, 87, 88, 89, 90, 91, 92, 93, 94, 95, 96, 97, 98, 99, 100, 101, 102, 103, 104] (by decide +kernel) (by decide +kernel)
set_option maxRecDepth 20000 in
theorem gX6_ifRope_X6_tries : GoodIn wsX6_ifRope (wsV RX6 155 RX6 yX6_tries wsX6_tries) := goodIn_app (goodIn_of _ (by decide +kernel)) ggX6_ifRope_X6_tries
theorem dX6_ifRope_0 : decode cX6_ifRope 0 = .ok (.iload_n 1, 1) := by decide +kernel
theorem dX6_ifRope_1 : decode cX6_ifRope 1 = .ok (.invokestatic 102, 3) := by decide +kernel
theorem dX6_ifRope_4 : decode cX6_ifRope 4 = .ok (.ifCond .ne 5, 3) := by decide +kernel
theorem dX6_ifRope_7 : decode cX6_ifRope 7 = .ok (.iconst (-1), 1) := by decide +kernel
theorem dX6_ifRope_8 : decode cX6_ifRope 8 = .ok (.ireturn, 1) := by decide +kernel
theorem dX6_ifRope_9 : decode cX6_ifRope 9 = .ok (.iload_n 2, 1) := by decide +kernel
theorem dX6_ifRope_10 : decode cX6_ifRope 10 = .ok (.iconst 0, 1) := by decide +kernel
theorem dX6_ifRope_11 : decode cX6_ifRope 11 = .ok (.iconst 1, 1) := by decide +kernel
theorem dX6_ifRope_12 : decode cX6_ifRope 12 = .ok (.invokestatic 47, 3) := by decide +kernel
theorem dX6_ifRope_15 : decode cX6_ifRope 15 = .ok (.ifCond .eq 12, 3) := by decide +kernel
theorem dX6_ifRope_18 : decode cX6_ifRope 18 = .ok (.iload_n 3, 1) := by decide +kernel
theorem dX6_ifRope_19 : decode cX6_ifRope 19 = .ok (.iconst 0, 1) := by decide +kernel
theorem dX6_ifRope_20 : decode cX6_ifRope 20 = .ok (.iconst 2, 1) := by decide +kernel
theorem dX6_ifRope_21 : decode cX6_ifRope 21 = .ok (.invokestatic 47, 3) := by decide +kernel
theorem dX6_ifRope_24 : decode cX6_ifRope 24 = .ok (.ifCond .ne 6, 3) := by decide +kernel
theorem dX6_ifRope_27 : decode cX6_ifRope 27 = .ok (.bipush (-2), 2) := by decide +kernel
theorem dX6_ifRope_29 : decode cX6_ifRope 29 = .ok (.ireturn, 1) := by decide +kernel
theorem dX6_ifRope_30 : decode cX6_ifRope 30 = .ok (.iload_n 1, 1) := by decide +kernel
theorem dX6_ifRope_31 : decode cX6_ifRope 31 = .ok (.iload_n 2, 1) := by decide +kernel
theorem dX6_ifRope_32 : decode cX6_ifRope 32 = .ok (.invokestatic 106, 3) := by decide +kernel
theorem dX6_ifRope_35 : decode cX6_ifRope 35 = .ok (.ifCond .ne 6, 3) := by decide +kernel
theorem dX6_ifRope_38 : decode cX6_ifRope 38 = .ok (.bipush (-5), 2) := by decide +kernel
theorem dX6_ifRope_40 : decode cX6_ifRope 40 = .ok (.ireturn, 1) := by decide +kernel
theorem dX6_ifRope_41 : decode cX6_ifRope 41 = .ok (.aload_n 0, 1) := by decide +kernel
theorem dX6_ifRope_42 : decode cX6_ifRope 42 = .ok (.iload_n 1, 1) := by decide +kernel
theorem dX6_ifRope_43 : decode cX6_ifRope 43 = .ok (.iload_n 2, 1) := by decide +kernel
theorem dX6_ifRope_44 : decode cX6_ifRope 44 = .ok (.invokevirtual 155, 3) := by decide +kernel
theorem dX6_ifRope_47 : decode cX6_ifRope 47 = .ok (.aload_n 0, 1) := by decide +kernel
theorem dX6_ifRope_48 : decode cX6_ifRope 48 = .ok (.getfield 44, 3) := by decide +kernel
theorem dX6_ifRope_51 : decode cX6_ifRope 51 = .ok (.iload_n 3, 1) := by decide +kernel
theorem dX6_ifRope_52 : decode cX6_ifRope 52 = .ok (.iaload, 1) := by decide +kernel
theorem dX6_ifRope_53 : decode cX6_ifRope 53 = .ok (.ireturn, 1) := by decide +kernel
set_option maxRecDepth 20000 in
theorem ggX6_bestRope_X6_in : GoodIn wsX6_bestRope wsX6_in := goodIn_r _ [6] (by decide +kernel) (by decide +kernel)
set_option maxRecDepth 20000 in
theorem gX6_bestRope_X6_in : GoodIn wsX6_bestRope (va_wsS RX6 47 yX6_in wsX6_in) := goodIn_app (goodIn_of _ (by decide +kernel)) ggX6_bestRope_X6_in
set_option maxRecDepth 20000 in
theorem ggX6_bestRope_X6_layWays : GoodIn wsX6_bestRope wsX6_layWays := goodIn_r _ [10, 11, 12, 13, 14, 15, 16, 17, 5, 18, 1, 19, 20, 21, 22, 23, 24, 25, 26, 27, 28, 29, 30, 31, 32, 33, 34, 35, 36, 37, 38, 39, 40, 86, 87, 88, 89, 90, 91, 92, 93, 94, 95, 96, 97, 98, 99, 100, 101] (by decide +kernel) (by decide +kernel)
set_option maxRecDepth 20000 in
theorem gX6_bestRope_X6_layWays : GoodIn wsX6_bestRope (wsV RX6 118 RX6 yX6_layWays wsX6_layWays) := goodIn_app (goodIn_of _ (by decide +kernel)) ggX6_bestRope_X6_layWays
set_option maxRecDepth 20000 in
theorem ggX6_bestRope_X6_shutIn : GoodIn wsX6_bestRope wsX6_shutIn := goodIn_r _ [44, 11, 1, 86, 87, 88, 89, 90, 91, 92, 93, 94, 95, 96, 97, 98, 99, 100, 101] (by decide +kernel) (by decide +kernel)
set_option maxRecDepth 20000 in
theorem gX6_bestRope_X6_shutIn : GoodIn wsX6_bestRope (wsV RX6 90 RX6 yX6_shutIn wsX6_shutIn) := goodIn_app (goodIn_of _ (by decide +kernel)) ggX6_bestRope_X6_shutIn
set_option maxRecDepth 20000 in
theorem ggX6_bestRope_X6_isEdge : GoodIn wsX6_bestRope wsX6_isEdge := goodIn_r _ [47, 23, 24, 5, 25] (by decide +kernel) (by decide +kernel)
set_option maxRecDepth 20000 in
theorem gX6_bestRope_X6_isEdge : GoodIn wsX6_bestRope (va_wsS RX6 106 yX6_isEdge wsX6_isEdge) := goodIn_app (goodIn_of _ (by decide +kernel)) ggX6_bestRope_X6_isEdge
set_option maxRecDepth 20000 in
theorem ggX6_bestRope_X6_tries : GoodIn wsX6_bestRope wsX6_tries := goodIn_r _ [51, 1, 2, 52, 53, 54, 5, 55, 56, 26, 27, 28, 7, 8, 9, 10, 11, 12, 13, 14, 15, 16, 17, 18, 19, 20, 21, 22, 23, 24, 25, 29, 30, 31, 32, 33, 34, 35, 36, 37, 38, 39, 40, 41, 42, 43, 44, 57, 58, 59, 60, 61, 62, 63, 64, 65, 66, 67, 68, 69, 70, 71, 72, 73, 74, 75, 76, 77, 78, 79, 80, 81, 82, 83, 84, 85, 86, 87, 88, 89, 90, 91, 92, 93, 94, 95, 96, 97, 98, 99, 100, 101] (by decide +kernel) (by decide +kernel)
set_option maxRecDepth 20000 in
theorem gX6_bestRope_X6_tries : GoodIn wsX6_bestRope (wsV RX6 155 RX6 yX6_tries wsX6_tries) := goodIn_app (goodIn_of _ (by decide +kernel)) ggX6_bestRope_X6_tries
theorem dX6_bestRope_0 : decode cX6_bestRope 0 = .ok (.iload_n 1, 1) := by decide +kernel
theorem dX6_bestRope_1 : decode cX6_bestRope 1 = .ok (.iconst 0, 1) := by decide +kernel
theorem dX6_bestRope_2 : decode cX6_bestRope 2 = .ok (.iconst 2, 1) := by decide +kernel
theorem dX6_bestRope_3 : decode cX6_bestRope 3 = .ok (.invokestatic 47, 3) := by decide +kernel
theorem dX6_bestRope_6 : decode cX6_bestRope 6 = .ok (.ifCond .ne 6, 3) := by decide +kernel
theorem dX6_bestRope_9 : decode cX6_bestRope 9 = .ok (.bipush (-2), 2) := by decide +kernel
theorem dX6_bestRope_11 : decode cX6_bestRope 11 = .ok (.ireturn, 1) := by decide +kernel
theorem dX6_bestRope_12 : decode cX6_bestRope 12 = .ok (.aload_n 0, 1) := by decide +kernel
theorem dX6_bestRope_13 : decode cX6_bestRope 13 = .ok (.invokevirtual 118, 3) := by decide +kernel
theorem dX6_bestRope_16 : decode cX6_bestRope 16 = .ok (.aload_n 0, 1) := by decide +kernel
theorem dX6_bestRope_17 : decode cX6_bestRope 17 = .ok (.invokevirtual 90, 3) := by decide +kernel
theorem dX6_bestRope_20 : decode cX6_bestRope 20 = .ok (.istore_n 2, 1) := by decide +kernel
theorem dX6_bestRope_21 : decode cX6_bestRope 21 = .ok (.bipush (-6), 2) := by decide +kernel
theorem dX6_bestRope_23 : decode cX6_bestRope 23 = .ok (.istore_n 3, 1) := by decide +kernel
theorem dX6_bestRope_24 : decode cX6_bestRope 24 = .ok (.iconst 0, 1) := by decide +kernel
theorem dX6_bestRope_25 : decode cX6_bestRope 25 = .ok (.istore 4, 2) := by decide +kernel
theorem dX6_bestRope_27 : decode cX6_bestRope 27 = .ok (.iconst 0, 1) := by decide +kernel
theorem dX6_bestRope_28 : decode cX6_bestRope 28 = .ok (.istore 5, 2) := by decide +kernel
theorem dX6_bestRope_30 : decode cX6_bestRope 30 = .ok (.iconst 0, 1) := by decide +kernel
theorem dX6_bestRope_31 : decode cX6_bestRope 31 = .ok (.istore 6, 2) := by decide +kernel
theorem dX6_bestRope_33 : decode cX6_bestRope 33 = .ok (.iload 6, 2) := by decide +kernel
theorem dX6_bestRope_35 : decode cX6_bestRope 35 = .ok (.bipush 70, 2) := by decide +kernel
theorem dX6_bestRope_37 : decode cX6_bestRope 37 = .ok (.if_icmp .ge 175, 3) := by decide +kernel
theorem dX6_bestRope_40 : decode cX6_bestRope 40 = .ok (.iload 6, 2) := by decide +kernel
theorem dX6_bestRope_42 : decode cX6_bestRope 42 = .ok (.iconst 2, 1) := by decide +kernel
theorem dX6_bestRope_43 : decode cX6_bestRope 43 = .ok (.idiv, 1) := by decide +kernel
theorem dX6_bestRope_44 : decode cX6_bestRope 44 = .ok (.iload 6, 2) := by decide +kernel
theorem dX6_bestRope_46 : decode cX6_bestRope 46 = .ok (.iconst 2, 1) := by decide +kernel
theorem dX6_bestRope_47 : decode cX6_bestRope 47 = .ok (.irem, 1) := by decide +kernel
theorem dX6_bestRope_48 : decode cX6_bestRope 48 = .ok (.invokestatic 106, 3) := by decide +kernel
theorem dX6_bestRope_51 : decode cX6_bestRope 51 = .ok (.ifCond .eq 155, 3) := by decide +kernel
theorem dX6_bestRope_54 : decode cX6_bestRope 54 = .ok (.aload_n 0, 1) := by decide +kernel
theorem dX6_bestRope_55 : decode cX6_bestRope 55 = .ok (.getfield 7, 3) := by decide +kernel
theorem dX6_bestRope_58 : decode cX6_bestRope 58 = .ok (.bipush 91, 2) := by decide +kernel
theorem dX6_bestRope_60 : decode cX6_bestRope 60 = .ok (.iload 6, 2) := by decide +kernel
theorem dX6_bestRope_62 : decode cX6_bestRope 62 = .ok (.iadd, 1) := by decide +kernel
theorem dX6_bestRope_63 : decode cX6_bestRope 63 = .ok (.iaload, 1) := by decide +kernel
theorem dX6_bestRope_64 : decode cX6_bestRope 64 = .ok (.ifCond .ne 142, 3) := by decide +kernel
theorem dX6_bestRope_67 : decode cX6_bestRope 67 = .ok (.aload_n 0, 1) := by decide +kernel
theorem dX6_bestRope_68 : decode cX6_bestRope 68 = .ok (.iload 6, 2) := by decide +kernel
theorem dX6_bestRope_70 : decode cX6_bestRope 70 = .ok (.iconst 2, 1) := by decide +kernel
theorem dX6_bestRope_71 : decode cX6_bestRope 71 = .ok (.idiv, 1) := by decide +kernel
theorem dX6_bestRope_72 : decode cX6_bestRope 72 = .ok (.iload 6, 2) := by decide +kernel
theorem dX6_bestRope_74 : decode cX6_bestRope 74 = .ok (.iconst 2, 1) := by decide +kernel
theorem dX6_bestRope_75 : decode cX6_bestRope 75 = .ok (.irem, 1) := by decide +kernel
theorem dX6_bestRope_76 : decode cX6_bestRope 76 = .ok (.invokevirtual 155, 3) := by decide +kernel
theorem dX6_bestRope_79 : decode cX6_bestRope 79 = .ok (.aload_n 0, 1) := by decide +kernel
theorem dX6_bestRope_80 : decode cX6_bestRope 80 = .ok (.getfield 44, 3) := by decide +kernel
theorem dX6_bestRope_83 : decode cX6_bestRope 83 = .ok (.iconst 2, 1) := by decide +kernel
theorem dX6_bestRope_84 : decode cX6_bestRope 84 = .ok (.iaload, 1) := by decide +kernel
theorem dX6_bestRope_85 : decode cX6_bestRope 85 = .ok (.iload_n 2, 1) := by decide +kernel
theorem dX6_bestRope_86 : decode cX6_bestRope 86 = .ok (.if_icmp .gt 18, 3) := by decide +kernel
theorem dX6_bestRope_89 : decode cX6_bestRope 89 = .ok (.aload_n 0, 1) := by decide +kernel
theorem dX6_bestRope_90 : decode cX6_bestRope 90 = .ok (.getfield 44, 3) := by decide +kernel
theorem dX6_bestRope_93 : decode cX6_bestRope 93 = .ok (.iconst 0, 1) := by decide +kernel
theorem dX6_bestRope_94 : decode cX6_bestRope 94 = .ok (.iaload, 1) := by decide +kernel
theorem dX6_bestRope_95 : decode cX6_bestRope 95 = .ok (.bipush (-6), 2) := by decide +kernel
theorem dX6_bestRope_97 : decode cX6_bestRope 97 = .ok (.if_icmp .eq 7, 3) := by decide +kernel
theorem dX6_bestRope_100 : decode cX6_bestRope 100 = .ok (.iconst 1, 1) := by decide +kernel
theorem dX6_bestRope_101 : decode cX6_bestRope 101 = .ok (.goto 4, 3) := by decide +kernel
theorem dX6_bestRope_104 : decode cX6_bestRope 104 = .ok (.iconst 0, 1) := by decide +kernel
theorem dX6_bestRope_105 : decode cX6_bestRope 105 = .ok (.istore 7, 2) := by decide +kernel
theorem dX6_bestRope_107 : decode cX6_bestRope 107 = .ok (.iload 7, 2) := by decide +kernel
theorem dX6_bestRope_109 : decode cX6_bestRope 109 = .ok (.ifCond .eq 46, 3) := by decide +kernel
theorem dX6_bestRope_112 : decode cX6_bestRope 112 = .ok (.iload_n 3, 1) := by decide +kernel
theorem dX6_bestRope_113 : decode cX6_bestRope 113 = .ok (.bipush (-6), 2) := by decide +kernel
theorem dX6_bestRope_115 : decode cX6_bestRope 115 = .ok (.if_icmp .eq 36, 3) := by decide +kernel
theorem dX6_bestRope_118 : decode cX6_bestRope 118 = .ok (.aload_n 0, 1) := by decide +kernel
theorem dX6_bestRope_119 : decode cX6_bestRope 119 = .ok (.getfield 44, 3) := by decide +kernel
theorem dX6_bestRope_122 : decode cX6_bestRope 122 = .ok (.iconst 1, 1) := by decide +kernel
theorem dX6_bestRope_123 : decode cX6_bestRope 123 = .ok (.iaload, 1) := by decide +kernel
theorem dX6_bestRope_124 : decode cX6_bestRope 124 = .ok (.iload 4, 2) := by decide +kernel
theorem dX6_bestRope_126 : decode cX6_bestRope 126 = .ok (.if_icmp .lt 25, 3) := by decide +kernel
theorem dX6_bestRope_129 : decode cX6_bestRope 129 = .ok (.aload_n 0, 1) := by decide +kernel
theorem dX6_bestRope_130 : decode cX6_bestRope 130 = .ok (.getfield 44, 3) := by decide +kernel
theorem dX6_bestRope_133 : decode cX6_bestRope 133 = .ok (.iconst 1, 1) := by decide +kernel
theorem dX6_bestRope_134 : decode cX6_bestRope 134 = .ok (.iaload, 1) := by decide +kernel
theorem dX6_bestRope_135 : decode cX6_bestRope 135 = .ok (.iload 4, 2) := by decide +kernel
theorem dX6_bestRope_137 : decode cX6_bestRope 137 = .ok (.if_icmp .ne 18, 3) := by decide +kernel
theorem dX6_bestRope_140 : decode cX6_bestRope 140 = .ok (.aload_n 0, 1) := by decide +kernel
theorem dX6_bestRope_141 : decode cX6_bestRope 141 = .ok (.getfield 44, 3) := by decide +kernel
theorem dX6_bestRope_144 : decode cX6_bestRope 144 = .ok (.iconst 0, 1) := by decide +kernel
theorem dX6_bestRope_145 : decode cX6_bestRope 145 = .ok (.iaload, 1) := by decide +kernel
theorem dX6_bestRope_146 : decode cX6_bestRope 146 = .ok (.iload 5, 2) := by decide +kernel
theorem dX6_bestRope_148 : decode cX6_bestRope 148 = .ok (.if_icmp .ge 7, 3) := by decide +kernel
theorem dX6_bestRope_151 : decode cX6_bestRope 151 = .ok (.iconst 1, 1) := by decide +kernel
theorem dX6_bestRope_152 : decode cX6_bestRope 152 = .ok (.goto 4, 3) := by decide +kernel
theorem dX6_bestRope_155 : decode cX6_bestRope 155 = .ok (.iconst 0, 1) := by decide +kernel
theorem dX6_bestRope_156 : decode cX6_bestRope 156 = .ok (.istore 8, 2) := by decide +kernel
theorem dX6_bestRope_158 : decode cX6_bestRope 158 = .ok (.iload 8, 2) := by decide +kernel
theorem dX6_bestRope_160 : decode cX6_bestRope 160 = .ok (.ifCond .eq 8, 3) := by decide +kernel
theorem dX6_bestRope_163 : decode cX6_bestRope 163 = .ok (.iload 6, 2) := by decide +kernel
theorem dX6_bestRope_165 : decode cX6_bestRope 165 = .ok (.goto 4, 3) := by decide +kernel
theorem dX6_bestRope_168 : decode cX6_bestRope 168 = .ok (.iload_n 3, 1) := by decide +kernel
theorem dX6_bestRope_169 : decode cX6_bestRope 169 = .ok (.istore_n 3, 1) := by decide +kernel
theorem dX6_bestRope_170 : decode cX6_bestRope 170 = .ok (.iload 8, 2) := by decide +kernel
theorem dX6_bestRope_172 : decode cX6_bestRope 172 = .ok (.ifCond .eq 12, 3) := by decide +kernel
theorem dX6_bestRope_175 : decode cX6_bestRope 175 = .ok (.aload_n 0, 1) := by decide +kernel
theorem dX6_bestRope_176 : decode cX6_bestRope 176 = .ok (.getfield 44, 3) := by decide +kernel
theorem dX6_bestRope_179 : decode cX6_bestRope 179 = .ok (.iconst 1, 1) := by decide +kernel
theorem dX6_bestRope_180 : decode cX6_bestRope 180 = .ok (.iaload, 1) := by decide +kernel
theorem dX6_bestRope_181 : decode cX6_bestRope 181 = .ok (.goto 5, 3) := by decide +kernel
theorem dX6_bestRope_184 : decode cX6_bestRope 184 = .ok (.iload 4, 2) := by decide +kernel
theorem dX6_bestRope_186 : decode cX6_bestRope 186 = .ok (.istore 4, 2) := by decide +kernel
theorem dX6_bestRope_188 : decode cX6_bestRope 188 = .ok (.iload 8, 2) := by decide +kernel
theorem dX6_bestRope_190 : decode cX6_bestRope 190 = .ok (.ifCond .eq 12, 3) := by decide +kernel
theorem dX6_bestRope_193 : decode cX6_bestRope 193 = .ok (.aload_n 0, 1) := by decide +kernel
theorem dX6_bestRope_194 : decode cX6_bestRope 194 = .ok (.getfield 44, 3) := by decide +kernel
theorem dX6_bestRope_197 : decode cX6_bestRope 197 = .ok (.iconst 0, 1) := by decide +kernel
theorem dX6_bestRope_198 : decode cX6_bestRope 198 = .ok (.iaload, 1) := by decide +kernel
theorem dX6_bestRope_199 : decode cX6_bestRope 199 = .ok (.goto 5, 3) := by decide +kernel
theorem dX6_bestRope_202 : decode cX6_bestRope 202 = .ok (.iload 5, 2) := by decide +kernel
theorem dX6_bestRope_204 : decode cX6_bestRope 204 = .ok (.istore 5, 2) := by decide +kernel
theorem dX6_bestRope_206 : decode cX6_bestRope 206 = .ok (.iinc 6 1, 3) := by decide +kernel
theorem dX6_bestRope_209 : decode cX6_bestRope 209 = .ok (.goto (-176), 3) := by decide +kernel
theorem dX6_bestRope_212 : decode cX6_bestRope 212 = .ok (.iload_n 3, 1) := by decide +kernel
theorem dX6_bestRope_213 : decode cX6_bestRope 213 = .ok (.bipush (-6), 2) := by decide +kernel
