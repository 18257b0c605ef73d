theorem dX4_init_0 : decode cX4_init 0 = .ok (.aload_n 0, 1) := by decide +kernel
theorem dX4_init_1 : decode cX4_init 1 = .ok (.invokespecial 3, 3) := by decide +kernel
theorem dX4_init_4 : decode cX4_init 4 = .ok (.aload_n 0, 1) := by decide +kernel
theorem dX4_init_5 : decode cX4_init 5 = .ok (.sipush 140, 3) := by decide +kernel
theorem dX4_init_8 : decode cX4_init 8 = .ok (.newarray .int, 2) := by decide +kernel
theorem dX4_init_10 : decode cX4_init 10 = .ok (.putfield 9, 3) := by decide +kernel
theorem dX4_init_13 : decode cX4_init 13 = .ok (.aload_n 0, 1) := by decide +kernel
theorem dX4_init_14 : decode cX4_init 14 = .ok (.bipush 35, 2) := by decide +kernel
theorem dX4_init_16 : decode cX4_init 16 = .ok (.newarray .int, 2) := by decide +kernel
theorem dX4_init_18 : decode cX4_init 18 = .ok (.putfield 15, 3) := by decide +kernel
theorem dX4_init_21 : decode cX4_init 21 = .ok (.aload_n 0, 1) := by decide +kernel
theorem dX4_init_22 : decode cX4_init 22 = .ok (.bipush 35, 2) := by decide +kernel
theorem dX4_init_24 : decode cX4_init 24 = .ok (.newarray .int, 2) := by decide +kernel
theorem dX4_init_26 : decode cX4_init 26 = .ok (.putfield 18, 3) := by decide +kernel
theorem dX4_init_29 : decode cX4_init 29 = .ok (.aload_n 0, 1) := by decide +kernel
theorem dX4_init_30 : decode cX4_init 30 = .ok (.bipush 35, 2) := by decide +kernel
theorem dX4_init_32 : decode cX4_init 32 = .ok (.newarray .int, 2) := by decide +kernel
theorem dX4_init_34 : decode cX4_init 34 = .ok (.putfield 21, 3) := by decide +kernel
theorem dX4_init_37 : decode cX4_init 37 = .ok (.aload_n 0, 1) := by decide +kernel
theorem dX4_init_38 : decode cX4_init 38 = .ok (.bipush 35, 2) := by decide +kernel
theorem dX4_init_40 : decode cX4_init 40 = .ok (.newarray .int, 2) := by decide +kernel
theorem dX4_init_42 : decode cX4_init 42 = .ok (.putfield 24, 3) := by decide +kernel
theorem dX4_init_45 : decode cX4_init 45 = .ok (.return_, 1) := by decide +kernel
set_option maxRecDepth 20000 in
theorem ggX4_find_X4_measureFrom : GoodIn wsX4_find wsX4_measureFrom := goodIn_r _ [7, 8, 9, 10, 11, 12, 13, 14, 15, 16, 17, 18, 19, 20, 21, 22, 23, 24, 25, 26, 27, 28, 29, 30, 31, 32, 33, 6, 34, 35, 36, 61, 62, 63, 64, 65, 66, 67, 68, 69, 70, 71, 72, 73, 74, 75, 76, 77, 78] (by decide +kernel) (by decide +kernel)
set_option maxRecDepth 20000 in
theorem gX4_find_X4_measureFrom : GoodIn wsX4_find (wsV RX4 27 RX4 yX4_measureFrom wsX4_measureFrom) := goodIn_app (goodIn_of _ (by decide +kernel)) ggX4_find_X4_measureFrom
set_option maxRecDepth 20000 in
theorem ggX4_find_X4_chooseGoal : GoodIn wsX4_find wsX4_chooseGoal := goodIn_r _ [40, 41, 42, 35, 12, 36, 31, 32, 33, 6, 34, 8, 11, 13, 67, 68, 69, 70, 71, 72, 73, 74, 75, 76, 77, 78, 61, 62, 63, 64, 65, 66] (by decide +kernel) (by decide +kernel)
set_option maxRecDepth 20000 in
theorem gX4_find_X4_chooseGoal : GoodIn wsX4_find (wsV RX4 31 RX4 yX4_chooseGoal wsX4_chooseGoal) := goodIn_app (goodIn_of _ (by decide +kernel)) ggX4_find_X4_chooseGoal
set_option maxRecDepth 20000 in
theorem ggX4_find_X4_chooseNext : GoodIn wsX4_find wsX4_chooseNext := goodIn_r _ [46, 47, 48, 49, 6, 50, 51, 52, 53, 54, 1, 11, 12, 13, 31, 32, 33, 34, 8, 35, 36, 14, 15, 16, 17, 18, 19, 20, 21, 22, 23, 24, 25, 26, 27, 28, 29, 30, 61, 62, 63, 64, 65, 66, 67, 68, 69, 70, 71, 72, 73, 74, 75, 76, 77, 78] (by decide +kernel) (by decide +kernel)
set_option maxRecDepth 20000 in
theorem gX4_find_X4_chooseNext : GoodIn wsX4_find (wsV RX4 35 RX4 yX4_chooseNext wsX4_chooseNext) := goodIn_app (goodIn_of _ (by decide +kernel)) ggX4_find_X4_chooseNext
set_option maxRecDepth 20000 in
theorem ggX4_find_X4_orderTurns : GoodIn wsX4_find wsX4_orderTurns := goodIn_r _ [58, 59, 60, 47, 48, 49, 6, 50, 51, 52, 53, 54, 1, 11, 12, 13, 31, 32, 33, 34, 8, 35, 36, 61, 62, 63, 64, 65, 66] (by decide +kernel) (by decide +kernel)
set_option maxRecDepth 20000 in
theorem gX4_find_X4_orderTurns : GoodIn wsX4_find (wsV RX4 38 RX4 yX4_orderTurns wsX4_orderTurns) := goodIn_app (goodIn_of _ (by decide +kernel)) ggX4_find_X4_orderTurns
theorem dX4_find_0 : decode cX4_find 0 = .ok (.iconst 0, 1) := by decide +kernel
theorem dX4_find_1 : decode cX4_find 1 = .ok (.istore_n 2, 1) := by decide +kernel
theorem dX4_find_2 : decode cX4_find 2 = .ok (.iload_n 2, 1) := by decide +kernel
theorem dX4_find_3 : decode cX4_find 3 = .ok (.iconst 4, 1) := by decide +kernel
theorem dX4_find_4 : decode cX4_find 4 = .ok (.if_icmp .ge 15, 3) := by decide +kernel
theorem dX4_find_7 : decode cX4_find 7 = .ok (.aload_n 0, 1) := by decide +kernel
theorem dX4_find_8 : decode cX4_find 8 = .ok (.aload_n 1, 1) := by decide +kernel
theorem dX4_find_9 : decode cX4_find 9 = .ok (.iload_n 2, 1) := by decide +kernel
theorem dX4_find_10 : decode cX4_find 10 = .ok (.invokevirtual 27, 3) := by decide +kernel
theorem dX4_find_13 : decode cX4_find 13 = .ok (.iinc 2 1, 3) := by decide +kernel
theorem dX4_find_16 : decode cX4_find 16 = .ok (.goto (-14), 3) := by decide +kernel
theorem dX4_find_19 : decode cX4_find 19 = .ok (.iconst 0, 1) := by decide +kernel
theorem dX4_find_20 : decode cX4_find 20 = .ok (.istore_n 2, 1) := by decide +kernel
theorem dX4_find_21 : decode cX4_find 21 = .ok (.iload_n 2, 1) := by decide +kernel
theorem dX4_find_22 : decode cX4_find 22 = .ok (.bipush 35, 2) := by decide +kernel
theorem dX4_find_24 : decode cX4_find 24 = .ok (.if_icmp .ge 33, 3) := by decide +kernel
theorem dX4_find_27 : decode cX4_find 27 = .ok (.aload_n 0, 1) := by decide +kernel
theorem dX4_find_28 : decode cX4_find 28 = .ok (.getfield 18, 3) := by decide +kernel
theorem dX4_find_31 : decode cX4_find 31 = .ok (.iload_n 2, 1) := by decide +kernel
theorem dX4_find_32 : decode cX4_find 32 = .ok (.aload_n 0, 1) := by decide +kernel
theorem dX4_find_33 : decode cX4_find 33 = .ok (.aload_n 1, 1) := by decide +kernel
theorem dX4_find_34 : decode cX4_find 34 = .ok (.iload_n 2, 1) := by decide +kernel
theorem dX4_find_35 : decode cX4_find 35 = .ok (.invokevirtual 31, 3) := by decide +kernel
theorem dX4_find_38 : decode cX4_find 38 = .ok (.iastore, 1) := by decide +kernel
theorem dX4_find_39 : decode cX4_find 39 = .ok (.aload_n 0, 1) := by decide +kernel
theorem dX4_find_40 : decode cX4_find 40 = .ok (.getfield 21, 3) := by decide +kernel
theorem dX4_find_43 : decode cX4_find 43 = .ok (.iload_n 2, 1) := by decide +kernel
theorem dX4_find_44 : decode cX4_find 44 = .ok (.aload_n 0, 1) := by decide +kernel
theorem dX4_find_45 : decode cX4_find 45 = .ok (.aload_n 1, 1) := by decide +kernel
theorem dX4_find_46 : decode cX4_find 46 = .ok (.iload_n 2, 1) := by decide +kernel
theorem dX4_find_47 : decode cX4_find 47 = .ok (.invokevirtual 35, 3) := by decide +kernel
theorem dX4_find_50 : decode cX4_find 50 = .ok (.iastore, 1) := by decide +kernel
theorem dX4_find_51 : decode cX4_find 51 = .ok (.iinc 2 1, 3) := by decide +kernel
theorem dX4_find_54 : decode cX4_find 54 = .ok (.goto (-33), 3) := by decide +kernel
theorem dX4_find_57 : decode cX4_find 57 = .ok (.aload_n 0, 1) := by decide +kernel
theorem dX4_find_58 : decode cX4_find 58 = .ok (.invokevirtual 38, 3) := by decide +kernel
theorem dX4_find_61 : decode cX4_find 61 = .ok (.return_, 1) := by decide +kernel
set_option maxRecDepth 20000 in
theorem ggX4_stepsTo_X5_isDoor : GoodIn wsX4_stepsTo wsX5_isDoor := goodIn_r _ [4] (by decide +kernel) (by decide +kernel)
set_option maxRecDepth 20000 in
theorem gX4_stepsTo_X5_isDoor_n41 : GoodIn wsX4_stepsTo (wsX5_isDoor) := ggX4_stepsTo_X5_isDoor
set_option maxRecDepth 20000 in
theorem ggX4_stepsTo_X5_isCell : GoodIn wsX4_stepsTo wsX5_isCell := goodIn_r _ [6] (by decide +kernel) (by decide +kernel)
set_option maxRecDepth 20000 in
theorem gX4_stepsTo_X5_isCell_n45 : GoodIn wsX4_stepsTo (wsX5_isCell) := ggX4_stepsTo_X5_isCell
theorem dX4_stepsTo_0 : decode cX4_stepsTo 0 = .ok (.iload_n 1, 1) := by decide +kernel
theorem dX4_stepsTo_1 : decode cX4_stepsTo 1 = .ok (.invokestatic 41, 3) := by decide +kernel
theorem dX4_stepsTo_4 : decode cX4_stepsTo 4 = .ok (.ifCond .eq 24, 3) := by decide +kernel
theorem dX4_stepsTo_7 : decode cX4_stepsTo 7 = .ok (.iload_n 2, 1) := by decide +kernel
theorem dX4_stepsTo_8 : decode cX4_stepsTo 8 = .ok (.invokestatic 45, 3) := by decide +kernel
theorem dX4_stepsTo_11 : decode cX4_stepsTo 11 = .ok (.ifCond .eq 17, 3) := by decide +kernel
theorem dX4_stepsTo_14 : decode cX4_stepsTo 14 = .ok (.aload_n 0, 1) := by decide +kernel
theorem dX4_stepsTo_15 : decode cX4_stepsTo 15 = .ok (.getfield 9, 3) := by decide +kernel
theorem dX4_stepsTo_18 : decode cX4_stepsTo 18 = .ok (.iload_n 1, 1) := by decide +kernel
theorem dX4_stepsTo_19 : decode cX4_stepsTo 19 = .ok (.bipush 35, 2) := by decide +kernel
theorem dX4_stepsTo_21 : decode cX4_stepsTo 21 = .ok (.imul, 1) := by decide +kernel
theorem dX4_stepsTo_22 : decode cX4_stepsTo 22 = .ok (.iload_n 2, 1) := by decide +kernel
theorem dX4_stepsTo_23 : decode cX4_stepsTo 23 = .ok (.iadd, 1) := by decide +kernel
theorem dX4_stepsTo_24 : decode cX4_stepsTo 24 = .ok (.iaload, 1) := by decide +kernel
theorem dX4_stepsTo_25 : decode cX4_stepsTo 25 = .ok (.goto 5, 3) := by decide +kernel
theorem dX4_stepsTo_28 : decode cX4_stepsTo 28 = .ok (.bipush (-6), 2) := by decide +kernel
theorem dX4_stepsTo_30 : decode cX4_stepsTo 30 = .ok (.ireturn, 1) := by decide +kernel
set_option maxRecDepth 20000 in
theorem ggX4_goalOf_X5_isCell : GoodIn wsX4_goalOf wsX5_isCell := goodIn_r _ [4] (by decide +kernel) (by decide +kernel)
set_option maxRecDepth 20000 in
theorem gX4_goalOf_X5_isCell_n45 : GoodIn wsX4_goalOf (wsX5_isCell) := ggX4_goalOf_X5_isCell
theorem dX4_goalOf_0 : decode cX4_goalOf 0 = .ok (.iload_n 1, 1) := by decide +kernel
theorem dX4_goalOf_1 : decode cX4_goalOf 1 = .ok (.invokestatic 45, 3) := by decide +kernel
theorem dX4_goalOf_4 : decode cX4_goalOf 4 = .ok (.ifCond .eq 12, 3) := by decide +kernel
theorem dX4_goalOf_7 : decode cX4_goalOf 7 = .ok (.aload_n 0, 1) := by decide +kernel
theorem dX4_goalOf_8 : decode cX4_goalOf 8 = .ok (.getfield 18, 3) := by decide +kernel
theorem dX4_goalOf_11 : decode cX4_goalOf 11 = .ok (.iload_n 1, 1) := by decide +kernel
theorem dX4_goalOf_12 : decode cX4_goalOf 12 = .ok (.iaload, 1) := by decide +kernel
theorem dX4_goalOf_13 : decode cX4_goalOf 13 = .ok (.goto 5, 3) := by decide +kernel
theorem dX4_goalOf_16 : decode cX4_goalOf 16 = .ok (.bipush (-6), 2) := by decide +kernel
theorem dX4_goalOf_18 : decode cX4_goalOf 18 = .ok (.ireturn, 1) := by decide +kernel
set_option maxRecDepth 20000 in
theorem ggX4_nextOf_X5_isCell : GoodIn wsX4_nextOf wsX5_isCell := goodIn_r _ [4] (by decide +kernel) (by decide +kernel)
set_option maxRecDepth 20000 in
theorem gX4_nextOf_X5_isCell_n45 : GoodIn wsX4_nextOf (wsX5_isCell) := ggX4_nextOf_X5_isCell
theorem dX4_nextOf_0 : decode cX4_nextOf 0 = .ok (.iload_n 1, 1) := by decide +kernel
theorem dX4_nextOf_1 : decode cX4_nextOf 1 = .ok (.invokestatic 45, 3) := by decide +kernel
theorem dX4_nextOf_4 : decode cX4_nextOf 4 = .ok (.ifCond .eq 12, 3) := by decide +kernel
theorem dX4_nextOf_7 : decode cX4_nextOf 7 = .ok (.aload_n 0, 1) := by decide +kernel
theorem dX4_nextOf_8 : decode cX4_nextOf 8 = .ok (.getfield 21, 3) := by decide +kernel
theorem dX4_nextOf_11 : decode cX4_nextOf 11 = .ok (.iload_n 1, 1) := by decide +kernel
theorem dX4_nextOf_12 : decode cX4_nextOf 12 = .ok (.iaload, 1) := by decide +kernel
theorem dX4_nextOf_13 : decode cX4_nextOf 13 = .ok (.goto 5, 3) := by decide +kernel
theorem dX4_nextOf_16 : decode cX4_nextOf 16 = .ok (.bipush (-6), 2) := by decide +kernel
theorem dX4_nextOf_18 : decode cX4_nextOf 18 = .ok (.ireturn, 1) := by decide +kernel
set_option maxRecDepth 20000 in
theorem ggX4_stepsToGoal_X4_goalOf : GoodIn wsX4_stepsToGoal wsX4_goalOf := goodIn_r _ [5, 6, 7, 8, 9, 17, 18, 19, 20, 21, 22] (by decide +kernel) (by decide +kernel)
set_option maxRecDepth 20000 in
theorem gX4_stepsToGoal_X4_goalOf : GoodIn wsX4_stepsToGoal (wsV RX4 48 RX4 yX4_goalOf wsX4_goalOf) := goodIn_app (goodIn_of _ (by decide +kernel)) ggX4_stepsToGoal_X4_goalOf
set_option maxRecDepth 20000 in
theorem ggX4_stepsToGoal_X4_stepsTo : GoodIn wsX4_stepsToGoal wsX4_stepsTo := goodIn_r _ [13, 14, 15, 8, 16, 7, 9, 17, 18, 19, 20, 21, 22] (by decide +kernel) (by decide +kernel)
set_option maxRecDepth 20000 in
theorem gX4_stepsToGoal_X4_stepsTo : GoodIn wsX4_stepsToGoal (wsV RX4 52 RX4 yX4_stepsTo wsX4_stepsTo) := goodIn_app (goodIn_of _ (by decide +kernel)) ggX4_stepsToGoal_X4_stepsTo
theorem dX4_stepsToGoal_0 : decode cX4_stepsToGoal 0 = .ok (.aload_n 0, 1) := by decide +kernel
theorem dX4_stepsToGoal_1 : decode cX4_stepsToGoal 1 = .ok (.aload_n 0, 1) := by decide +kernel
theorem dX4_stepsToGoal_2 : decode cX4_stepsToGoal 2 = .ok (.iload_n 1, 1) := by decide +kernel
theorem dX4_stepsToGoal_3 : decode cX4_stepsToGoal 3 = .ok (.invokevirtual 48, 3) := by decide +kernel
theorem dX4_stepsToGoal_6 : decode cX4_stepsToGoal 6 = .ok (.iload_n 1, 1) := by decide +kernel
theorem dX4_stepsToGoal_7 : decode cX4_stepsToGoal 7 = .ok (.invokevirtual 52, 3) := by decide +kernel
theorem dX4_stepsToGoal_10 : decode cX4_stepsToGoal 10 = .ok (.ireturn, 1) := by decide +kernel
theorem dX4_turnsAMinute_0 : decode cX4_turnsAMinute 0 = .ok (.aload_n 0, 1) := by decide +kernel
theorem dX4_turnsAMinute_1 : decode cX4_turnsAMinute 1 = .ok (.getfield 56, 3) := by decide +kernel
theorem dX4_turnsAMinute_4 : decode cX4_turnsAMinute 4 = .ok (.ireturn, 1) := by decide +kernel
set_option maxRecDepth 20000 in
theorem ggX4_cellAtTurn_X5_isCell : GoodIn wsX4_cellAtTurn wsX5_isCell := goodIn_r _ [4] (by decide +kernel) (by decide +kernel)
set_option maxRecDepth 20000 in
theorem gX4_cellAtTurn_X5_isCell_n45 : GoodIn wsX4_cellAtTurn (wsX5_isCell) := ggX4_cellAtTurn_X5_isCell
theorem dX4_cellAtTurn_0 : decode cX4_cellAtTurn 0 = .ok (.iload_n 1, 1) := by decide +kernel
theorem dX4_cellAtTurn_1 : decode cX4_cellAtTurn 1 = .ok (.invokestatic 45, 3) := by decide +kernel
theorem dX4_cellAtTurn_4 : decode cX4_cellAtTurn 4 = .ok (.ifCond .eq 12, 3) := by decide +kernel
theorem dX4_cellAtTurn_7 : decode cX4_cellAtTurn 7 = .ok (.aload_n 0, 1) := by decide +kernel
theorem dX4_cellAtTurn_8 : decode cX4_cellAtTurn 8 = .ok (.getfield 24, 3) := by decide +kernel
theorem dX4_cellAtTurn_11 : decode cX4_cellAtTurn 11 = .ok (.iload_n 1, 1) := by decide +kernel
theorem dX4_cellAtTurn_12 : decode cX4_cellAtTurn 12 = .ok (.iaload, 1) := by decide +kernel
theorem dX4_cellAtTurn_13 : decode cX4_cellAtTurn 13 = .ok (.goto 5, 3) := by decide +kernel
theorem dX4_cellAtTurn_16 : decode cX4_cellAtTurn 16 = .ok (.bipush (-6), 2) := by decide +kernel
theorem dX4_cellAtTurn_18 : decode cX4_cellAtTurn 18 = .ok (.ireturn, 1) := by decide +kernel
theorem dX4_cellsWithGoal_0 : decode cX4_cellsWithGoal 0 = .ok (.iconst 0, 1) := by decide +kernel
theorem dX4_cellsWithGoal_1 : decode cX4_cellsWithGoal 1 = .ok (.istore_n 2, 1) := by decide +kernel
theorem dX4_cellsWithGoal_2 : decode cX4_cellsWithGoal 2 = .ok (.iconst 0, 1) := by decide +kernel
theorem dX4_cellsWithGoal_3 : decode cX4_cellsWithGoal 3 = .ok (.istore_n 3, 1) := by decide +kernel
theorem dX4_cellsWithGoal_4 : decode cX4_cellsWithGoal 4 = .ok (.iload_n 3, 1) := by decide +kernel
theorem dX4_cellsWithGoal_5 : decode cX4_cellsWithGoal 5 = .ok (.bipush 35, 2) := by decide +kernel
theorem dX4_cellsWithGoal_7 : decode cX4_cellsWithGoal 7 = .ok (.if_icmp .ge 27, 3) := by decide +kernel
theorem dX4_cellsWithGoal_10 : decode cX4_cellsWithGoal 10 = .ok (.iload_n 2, 1) := by decide +kernel
theorem dX4_cellsWithGoal_11 : decode cX4_cellsWithGoal 11 = .ok (.aload_n 0, 1) := by decide +kernel
theorem dX4_cellsWithGoal_12 : decode cX4_cellsWithGoal 12 = .ok (.getfield 18, 3) := by decide +kernel
theorem dX4_cellsWithGoal_15 : decode cX4_cellsWithGoal 15 = .ok (.iload_n 3, 1) := by decide +kernel
theorem dX4_cellsWithGoal_16 : decode cX4_cellsWithGoal 16 = .ok (.iaload, 1) := by decide +kernel
theorem dX4_cellsWithGoal_17 : decode cX4_cellsWithGoal 17 = .ok (.iload_n 1, 1) := by decide +kernel
theorem dX4_cellsWithGoal_18 : decode cX4_cellsWithGoal 18 = .ok (.if_icmp .ne 7, 3) := by decide +kernel
theorem dX4_cellsWithGoal_21 : decode cX4_cellsWithGoal 21 = .ok (.iconst 1, 1) := by decide +kernel
theorem dX4_cellsWithGoal_22 : decode cX4_cellsWithGoal 22 = .ok (.goto 4, 3) := by decide +kernel
theorem dX4_cellsWithGoal_25 : decode cX4_cellsWithGoal 25 = .ok (.iconst 0, 1) := by decide +kernel
theorem dX4_cellsWithGoal_26 : decode cX4_cellsWithGoal 26 = .ok (.iadd, 1) := by decide +kernel
theorem dX4_cellsWithGoal_27 : decode cX4_cellsWithGoal 27 = .ok (.istore_n 2, 1) := by decide +kernel
theorem dX4_cellsWithGoal_28 : decode cX4_cellsWithGoal 28 = .ok (.iinc 3 1, 3) := by decide +kernel
theorem dX4_cellsWithGoal_31 : decode cX4_cellsWithGoal 31 = .ok (.goto (-27), 3) := by decide +kernel
theorem dX4_cellsWithGoal_34 : decode cX4_cellsWithGoal 34 = .ok (.iload_n 2, 1) := by decide +kernel
theorem dX4_cellsWithGoal_35 : decode cX4_cellsWithGoal 35 = .ok (.ireturn, 1) := by decide +kernel
theorem dX4_peopleWithGoal_0 : decode cX4_peopleWithGoal 0 = .ok (.iconst 0, 1) := by decide +kernel
theorem dX4_peopleWithGoal_1 : decode cX4_peopleWithGoal 1 = .ok (.istore_n 3, 1) := by decide +kernel
theorem dX4_peopleWithGoal_2 : decode cX4_peopleWithGoal 2 = .ok (.iconst 0, 1) := by decide +kernel
theorem dX4_peopleWithGoal_3 : decode cX4_peopleWithGoal 3 = .ok (.istore 4, 2) := by decide +kernel
theorem dX4_peopleWithGoal_5 : decode cX4_peopleWithGoal 5 = .ok (.iload 4, 2) := by decide +kernel
theorem dX4_peopleWithGoal_7 : decode cX4_peopleWithGoal 7 = .ok (.bipush 35, 2) := by decide +kernel
theorem dX4_peopleWithGoal_9 : decode cX4_peopleWithGoal 9 = .ok (.if_icmp .ge 34, 3) := by decide +kernel
theorem dX4_peopleWithGoal_12 : decode cX4_peopleWithGoal 12 = .ok (.iload_n 3, 1) := by decide +kernel
theorem dX4_peopleWithGoal_13 : decode cX4_peopleWithGoal 13 = .ok (.aload_n 0, 1) := by decide +kernel
theorem dX4_peopleWithGoal_14 : decode cX4_peopleWithGoal 14 = .ok (.getfield 18, 3) := by decide +kernel
theorem dX4_peopleWithGoal_17 : decode cX4_peopleWithGoal 17 = .ok (.iload 4, 2) := by decide +kernel
theorem dX4_peopleWithGoal_19 : decode cX4_peopleWithGoal 19 = .ok (.iaload, 1) := by decide +kernel
theorem dX4_peopleWithGoal_20 : decode cX4_peopleWithGoal 20 = .ok (.iload_n 2, 1) := by decide +kernel
theorem dX4_peopleWithGoal_21 : decode cX4_peopleWithGoal 21 = .ok (.if_icmp .ne 13, 3) := by decide +kernel
theorem dX4_peopleWithGoal_24 : decode cX4_peopleWithGoal 24 = .ok (.aload_n 1, 1) := by decide +kernel
theorem dX4_peopleWithGoal_25 : decode cX4_peopleWithGoal 25 = .ok (.getfield 60, 3) := by decide +kernel
theorem dX4_peopleWithGoal_28 : decode cX4_peopleWithGoal 28 = .ok (.iload 4, 2) := by decide +kernel
theorem dX4_peopleWithGoal_30 : decode cX4_peopleWithGoal 30 = .ok (.iaload, 1) := by decide +kernel
theorem dX4_peopleWithGoal_31 : decode cX4_peopleWithGoal 31 = .ok (.goto 4, 3) := by decide +kernel
theorem dX4_peopleWithGoal_34 : decode cX4_peopleWithGoal 34 = .ok (.iconst 0, 1) := by decide +kernel
theorem dX4_peopleWithGoal_35 : decode cX4_peopleWithGoal 35 = .ok (.iadd, 1) := by decide +kernel
theorem dX4_peopleWithGoal_36 : decode cX4_peopleWithGoal 36 = .ok (.istore_n 3, 1) := by decide +kernel
theorem dX4_peopleWithGoal_37 : decode cX4_peopleWithGoal 37 = .ok (.iinc 4 1, 3) := by decide +kernel
theorem dX4_peopleWithGoal_40 : decode cX4_peopleWithGoal 40 = .ok (.goto (-35), 3) := by decide +kernel
theorem dX4_peopleWithGoal_43 : decode cX4_peopleWithGoal 43 = .ok (.iload_n 3, 1) := by decide +kernel
theorem dX4_peopleWithGoal_44 : decode cX4_peopleWithGoal 44 = .ok (.ireturn, 1) := by decide +kernel
set_option maxRecDepth 20000 in
theorem ggX4_stranded_X4_peopleWithGoal : GoodIn wsX4_stranded wsX4_peopleWithGoal := goodIn_r _ [5, 6, 7, 8, 9, 10, 11, 12, 13, 14, 15, 16, 17, 18, 19, 20, 21, 22, 23, 24, 25] (by decide +kernel) (by decide +kernel)
set_option maxRecDepth 20000 in
theorem gX4_stranded_X4_peopleWithGoal : GoodIn wsX4_stranded (wsV RX4 65 RX4 yX4_peopleWithGoal wsX4_peopleWithGoal) := goodIn_app (goodIn_of _ (by decide +kernel)) ggX4_stranded_X4_peopleWithGoal
theorem dX4_stranded_0 : decode cX4_stranded 0 = .ok (.aload_n 0, 1) := by decide +kernel
theorem dX4_stranded_1 : decode cX4_stranded 1 = .ok (.aload_n 1, 1) := by decide +kernel
theorem dX4_stranded_2 : decode cX4_stranded 2 = .ok (.bipush (-6), 2) := by decide +kernel
theorem dX4_stranded_4 : decode cX4_stranded 4 = .ok (.invokevirtual 65, 3) := by decide +kernel
theorem dX4_stranded_7 : decode cX4_stranded 7 = .ok (.ireturn, 1) := by decide +kernel
set_option maxRecDepth 20000 in
theorem ggX4_measureFrom_X5_isCell : GoodIn wsX4_measureFrom wsX5_isCell := goodIn_r _ [6] (by decide +kernel) (by decide +kernel)
set_option maxRecDepth 20000 in
theorem gX4_measureFrom_X5_isCell_n45 : GoodIn wsX4_measureFrom (wsX5_isCell) := ggX4_measureFrom_X5_isCell
set_option maxRecDepth 20000 in
theorem ggX4_measureFrom_X1_stepFrom : GoodIn wsX4_measureFrom wsX1_stepFrom := goodIn_r _ [11, 12, 13, 5, 14, 15, 16, 17, 18, 19, 20, 21, 22, 23, 37, 38, 39, 40, 41, 42, 43, 44, 45, 46, 47, 48] (by decide +kernel) (by decide +kernel)
set_option maxRecDepth 20000 in
theorem gX4_measureFrom_X1_stepFrom : GoodIn wsX4_measureFrom (wsV RX4 71 RX1 yX1_stepFrom wsX1_stepFrom) := goodIn_app (goodIn_of _ (by decide +kernel)) ggX4_measureFrom_X1_stepFrom
set_option maxRecDepth 20000 in
theorem ggX4_measureFrom_X4_stepsTo : GoodIn wsX4_measureFrom wsX4_stepsTo := goodIn_r _ [28, 1, 29, 5, 30, 4, 6, 31, 32, 33, 34, 35, 36] (by decide +kernel) (by decide +kernel)
set_option maxRecDepth 20000 in
theorem gX4_measureFrom_X4_stepsTo : GoodIn wsX4_measureFrom (wsV RX4 52 RX4 yX4_stepsTo wsX4_stepsTo) := goodIn_app (goodIn_of _ (by decide +kernel)) ggX4_measureFrom_X4_stepsTo
theorem dX4_measureFrom_0 : decode cX4_measureFrom 0 = .ok (.iload_n 2, 1) := by decide +kernel
theorem dX4_measureFrom_1 : decode cX4_measureFrom 1 = .ok (.bipush 35, 2) := by decide +kernel
theorem dX4_measureFrom_3 : decode cX4_measureFrom 3 = .ok (.imul, 1) := by decide +kernel
theorem dX4_measureFrom_4 : decode cX4_measureFrom 4 = .ok (.istore_n 3, 1) := by decide +kernel
theorem dX4_measureFrom_5 : decode cX4_measureFrom 5 = .ok (.iconst 0, 1) := by decide +kernel
theorem dX4_measureFrom_6 : decode cX4_measureFrom 6 = .ok (.istore 4, 2) := by decide +kernel
theorem dX4_measureFrom_8 : decode cX4_measureFrom 8 = .ok (.iload 4, 2) := by decide +kernel
theorem dX4_measureFrom_10 : decode cX4_measureFrom 10 = .ok (.bipush 35, 2) := by decide +kernel
theorem dX4_measureFrom_12 : decode cX4_measureFrom 12 = .ok (.if_icmp .ge 20, 3) := by decide +kernel
theorem dX4_measureFrom_15 : decode cX4_measureFrom 15 = .ok (.aload_n 0, 1) := by decide +kernel
theorem dX4_measureFrom_16 : decode cX4_measureFrom 16 = .ok (.getfield 9, 3) := by decide +kernel
theorem dX4_measureFrom_19 : decode cX4_measureFrom 19 = .ok (.iload_n 3, 1) := by decide +kernel
theorem dX4_measureFrom_20 : decode cX4_measureFrom 20 = .ok (.iload 4, 2) := by decide +kernel
theorem dX4_measureFrom_22 : decode cX4_measureFrom 22 = .ok (.iadd, 1) := by decide +kernel
theorem dX4_measureFrom_23 : decode cX4_measureFrom 23 = .ok (.bipush (-6), 2) := by decide +kernel
theorem dX4_measureFrom_25 : decode cX4_measureFrom 25 = .ok (.iastore, 1) := by decide +kernel
theorem dX4_measureFrom_26 : decode cX4_measureFrom 26 = .ok (.iinc 4 1, 3) := by decide +kernel
theorem dX4_measureFrom_29 : decode cX4_measureFrom 29 = .ok (.goto (-21), 3) := by decide +kernel
theorem dX4_measureFrom_32 : decode cX4_measureFrom 32 = .ok (.aload_n 1, 1) := by decide +kernel
theorem dX4_measureFrom_33 : decode cX4_measureFrom 33 = .ok (.getfield 68, 3) := by decide +kernel
theorem dX4_measureFrom_36 : decode cX4_measureFrom 36 = .ok (.iload_n 2, 1) := by decide +kernel
theorem dX4_measureFrom_37 : decode cX4_measureFrom 37 = .ok (.iaload, 1) := by decide +kernel
theorem dX4_measureFrom_38 : decode cX4_measureFrom 38 = .ok (.istore 4, 2) := by decide +kernel
theorem dX4_measureFrom_40 : decode cX4_measureFrom 40 = .ok (.iload 4, 2) := by decide +kernel
theorem dX4_measureFrom_42 : decode cX4_measureFrom 42 = .ok (.invokestatic 45, 3) := by decide +kernel
theorem dX4_measureFrom_45 : decode cX4_measureFrom 45 = .ok (.ifCond .ne 4, 3) := by decide +kernel
theorem dX4_measureFrom_48 : decode cX4_measureFrom 48 = .ok (.return_, 1) := by decide +kernel
theorem dX4_measureFrom_49 : decode cX4_measureFrom 49 = .ok (.aload_n 0, 1) := by decide +kernel
theorem dX4_measureFrom_50 : decode cX4_measureFrom 50 = .ok (.getfield 9, 3) := by decide +kernel
theorem dX4_measureFrom_53 : decode cX4_measureFrom 53 = .ok (.iload_n 3, 1) := by decide +kernel
theorem dX4_measureFrom_54 : decode cX4_measureFrom 54 = .ok (.iload 4, 2) := by decide +kernel
theorem dX4_measureFrom_56 : decode cX4_measureFrom 56 = .ok (.iadd, 1) := by decide +kernel
theorem dX4_measureFrom_57 : decode cX4_measureFrom 57 = .ok (.iconst 0, 1) := by decide +kernel
theorem dX4_measureFrom_58 : decode cX4_measureFrom 58 = .ok (.iastore, 1) := by decide +kernel
theorem dX4_measureFrom_59 : decode cX4_measureFrom 59 = .ok (.aload_n 0, 1) := by decide +kernel
theorem dX4_measureFrom_60 : decode cX4_measureFrom 60 = .ok (.getfield 15, 3) := by decide +kernel
theorem dX4_measureFrom_63 : decode cX4_measureFrom 63 = .ok (.iconst 0, 1) := by decide +kernel
theorem dX4_measureFrom_64 : decode cX4_measureFrom 64 = .ok (.iload 4, 2) := by decide +kernel
theorem dX4_measureFrom_66 : decode cX4_measureFrom 66 = .ok (.iastore, 1) := by decide +kernel
theorem dX4_measureFrom_67 : decode cX4_measureFrom 67 = .ok (.iconst 1, 1) := by decide +kernel
theorem dX4_measureFrom_68 : decode cX4_measureFrom 68 = .ok (.istore 5, 2) := by decide +kernel
theorem dX4_measureFrom_70 : decode cX4_measureFrom 70 = .ok (.iconst 0, 1) := by decide +kernel
theorem dX4_measureFrom_71 : decode cX4_measureFrom 71 = .ok (.istore 6, 2) := by decide +kernel
theorem dX4_measureFrom_73 : decode cX4_measureFrom 73 = .ok (.iload 6, 2) := by decide +kernel
theorem dX4_measureFrom_75 : decode cX4_measureFrom 75 = .ok (.iload 5, 2) := by decide +kernel
theorem dX4_measureFrom_77 : decode cX4_measureFrom 77 = .ok (.if_icmp .ge 109, 3) := by decide +kernel
theorem dX4_measureFrom_80 : decode cX4_measureFrom 80 = .ok (.iload 6, 2) := by decide +kernel
theorem dX4_measureFrom_82 : decode cX4_measureFrom 82 = .ok (.bipush 35, 2) := by decide +kernel
theorem dX4_measureFrom_84 : decode cX4_measureFrom 84 = .ok (.if_icmp .ge 102, 3) := by decide +kernel
theorem dX4_measureFrom_87 : decode cX4_measureFrom 87 = .ok (.aload_n 0, 1) := by decide +kernel
theorem dX4_measureFrom_88 : decode cX4_measureFrom 88 = .ok (.getfield 15, 3) := by decide +kernel
theorem dX4_measureFrom_91 : decode cX4_measureFrom 91 = .ok (.iload 6, 2) := by decide +kernel
theorem dX4_measureFrom_93 : decode cX4_measureFrom 93 = .ok (.iaload, 1) := by decide +kernel
theorem dX4_measureFrom_94 : decode cX4_measureFrom 94 = .ok (.istore 7, 2) := by decide +kernel
theorem dX4_measureFrom_96 : decode cX4_measureFrom 96 = .ok (.iconst 0, 1) := by decide +kernel
theorem dX4_measureFrom_97 : decode cX4_measureFrom 97 = .ok (.istore 8, 2) := by decide +kernel
theorem dX4_measureFrom_99 : decode cX4_measureFrom 99 = .ok (.iload 8, 2) := by decide +kernel
theorem dX4_measureFrom_101 : decode cX4_measureFrom 101 = .ok (.iconst 4, 1) := by decide +kernel
theorem dX4_measureFrom_102 : decode cX4_measureFrom 102 = .ok (.if_icmp .ge 78, 3) := by decide +kernel
theorem dX4_measureFrom_105 : decode cX4_measureFrom 105 = .ok (.aload_n 1, 1) := by decide +kernel
theorem dX4_measureFrom_106 : decode cX4_measureFrom 106 = .ok (.iload 7, 2) := by decide +kernel
theorem dX4_measureFrom_108 : decode cX4_measureFrom 108 = .ok (.iload 8, 2) := by decide +kernel
theorem dX4_measureFrom_110 : decode cX4_measureFrom 110 = .ok (.invokevirtual 71, 3) := by decide +kernel
theorem dX4_measureFrom_113 : decode cX4_measureFrom 113 = .ok (.istore 9, 2) := by decide +kernel
theorem dX4_measureFrom_115 : decode cX4_measureFrom 115 = .ok (.iload 9, 2) := by decide +kernel
theorem dX4_measureFrom_117 : decode cX4_measureFrom 117 = .ok (.invokestatic 45, 3) := by decide +kernel
theorem dX4_measureFrom_120 : decode cX4_measureFrom 120 = .ok (.ifCond .eq 54, 3) := by decide +kernel
theorem dX4_measureFrom_123 : decode cX4_measureFrom 123 = .ok (.iload 5, 2) := by decide +kernel
theorem dX4_measureFrom_125 : decode cX4_measureFrom 125 = .ok (.bipush 35, 2) := by decide +kernel
theorem dX4_measureFrom_127 : decode cX4_measureFrom 127 = .ok (.if_icmp .ge 47, 3) := by decide +kernel
theorem dX4_measureFrom_130 : decode cX4_measureFrom 130 = .ok (.aload_n 0, 1) := by decide +kernel
theorem dX4_measureFrom_131 : decode cX4_measureFrom 131 = .ok (.getfield 9, 3) := by decide +kernel
theorem dX4_measureFrom_134 : decode cX4_measureFrom 134 = .ok (.iload_n 3, 1) := by decide +kernel
theorem dX4_measureFrom_135 : decode cX4_measureFrom 135 = .ok (.iload 9, 2) := by decide +kernel
theorem dX4_measureFrom_137 : decode cX4_measureFrom 137 = .ok (.iadd, 1) := by decide +kernel
theorem dX4_measureFrom_138 : decode cX4_measureFrom 138 = .ok (.iaload, 1) := by decide +kernel
theorem dX4_measureFrom_139 : decode cX4_measureFrom 139 = .ok (.bipush (-6), 2) := by decide +kernel
theorem dX4_measureFrom_141 : decode cX4_measureFrom 141 = .ok (.if_icmp .ne 33, 3) := by decide +kernel
theorem dX4_measureFrom_144 : decode cX4_measureFrom 144 = .ok (.aload_n 0, 1) := by decide +kernel
theorem dX4_measureFrom_145 : decode cX4_measureFrom 145 = .ok (.getfield 9, 3) := by decide +kernel
theorem dX4_measureFrom_148 : decode cX4_measureFrom 148 = .ok (.iload_n 3, 1) := by decide +kernel
theorem dX4_measureFrom_149 : decode cX4_measureFrom 149 = .ok (.iload 9, 2) := by decide +kernel
theorem dX4_measureFrom_151 : decode cX4_measureFrom 151 = .ok (.iadd, 1) := by decide +kernel
theorem dX4_measureFrom_152 : decode cX4_measureFrom 152 = .ok (.aload_n 0, 1) := by decide +kernel
theorem dX4_measureFrom_153 : decode cX4_measureFrom 153 = .ok (.iload_n 2, 1) := by decide +kernel
theorem dX4_measureFrom_154 : decode cX4_measureFrom 154 = .ok (.iload 7, 2) := by decide +kernel
theorem dX4_measureFrom_156 : decode cX4_measureFrom 156 = .ok (.invokevirtual 52, 3) := by decide +kernel
theorem dX4_measureFrom_159 : decode cX4_measureFrom 159 = .ok (.iconst 1, 1) := by decide +kernel
theorem dX4_measureFrom_160 : decode cX4_measureFrom 160 = .ok (.iadd, 1) := by decide +kernel
theorem dX4_measureFrom_161 : decode cX4_measureFrom 161 = .ok (.iastore, 1) := by decide +kernel
theorem dX4_measureFrom_162 : decode cX4_measureFrom 162 = .ok (.aload_n 0, 1) := by decide +kernel
theorem dX4_measureFrom_163 : decode cX4_measureFrom 163 = .ok (.getfield 15, 3) := by decide +kernel
theorem dX4_measureFrom_166 : decode cX4_measureFrom 166 = .ok (.iload 5, 2) := by decide +kernel
theorem dX4_measureFrom_168 : decode cX4_measureFrom 168 = .ok (.iload 9, 2) := by decide +kernel
theorem dX4_measureFrom_170 : decode cX4_measureFrom 170 = .ok (.iastore, 1) := by decide +kernel
theorem dX4_measureFrom_171 : decode cX4_measureFrom 171 = .ok (.iinc 5 1, 3) := by decide +kernel
theorem dX4_measureFrom_174 : decode cX4_measureFrom 174 = .ok (.iinc 8 1, 3) := by decide +kernel
theorem dX4_measureFrom_177 : decode cX4_measureFrom 177 = .ok (.goto (-78), 3) := by decide +kernel
theorem dX4_measureFrom_180 : decode cX4_measureFrom 180 = .ok (.iinc 6 1, 3) := by decide +kernel
theorem dX4_measureFrom_183 : decode cX4_measureFrom 183 = .ok (.goto (-110), 3) := by decide +kernel
theorem dX4_measureFrom_186 : decode cX4_measureFrom 186 = .ok (.return_, 1) := by decide +kernel
set_option maxRecDepth 20000 in
theorem ggX4_chooseGoal_X5_isDoor : GoodIn wsX4_chooseGoal wsX5_isDoor := goodIn_r _ [5] (by decide +kernel) (by decide +kernel)
set_option maxRecDepth 20000 in
theorem gX4_chooseGoal_X5_isDoor_n41 : GoodIn wsX4_chooseGoal (wsX5_isDoor) := ggX4_chooseGoal_X5_isDoor
set_option maxRecDepth 20000 in
theorem ggX4_chooseGoal_X4_stepsTo : GoodIn wsX4_chooseGoal wsX4_stepsTo := goodIn_r _ [10, 11, 3, 4, 5, 12, 13, 26, 27, 28, 29, 30, 31] (by decide +kernel) (by decide +kernel)
set_option maxRecDepth 20000 in
theorem gX4_chooseGoal_X4_stepsTo : GoodIn wsX4_chooseGoal (wsV RX4 52 RX4 yX4_stepsTo wsX4_stepsTo) := goodIn_app (goodIn_of _ (by decide +kernel)) ggX4_chooseGoal_X4_stepsTo
theorem dX4_chooseGoal_0 : decode cX4_chooseGoal 0 = .ok (.aload_n 1, 1) := by decide +kernel
theorem dX4_chooseGoal_1 : decode cX4_chooseGoal 1 = .ok (.getfield 74, 3) := by decide +kernel
theorem dX4_chooseGoal_4 : decode cX4_chooseGoal 4 = .ok (.iload_n 2, 1) := by decide +kernel
theorem dX4_chooseGoal_5 : decode cX4_chooseGoal 5 = .ok (.iaload, 1) := by decide +kernel
theorem dX4_chooseGoal_6 : decode cX4_chooseGoal 6 = .ok (.istore_n 3, 1) := by decide +kernel
theorem dX4_chooseGoal_7 : decode cX4_chooseGoal 7 = .ok (.iload_n 3, 1) := by decide +kernel
theorem dX4_chooseGoal_8 : decode cX4_chooseGoal 8 = .ok (.invokestatic 41, 3) := by decide +kernel
theorem dX4_chooseGoal_11 : decode cX4_chooseGoal 11 = .ok (.ifCond .eq 25, 3) := by decide +kernel
theorem dX4_chooseGoal_14 : decode cX4_chooseGoal 14 = .ok (.aload_n 1, 1) := by decide +kernel
theorem dX4_chooseGoal_15 : decode cX4_chooseGoal 15 = .ok (.getfield 77, 3) := by decide +kernel
theorem dX4_chooseGoal_18 : decode cX4_chooseGoal 18 = .ok (.iload_n 3, 1) := by decide +kernel
theorem dX4_chooseGoal_19 : decode cX4_chooseGoal 19 = .ok (.baload, 1) := by decide +kernel
theorem dX4_chooseGoal_20 : decode cX4_chooseGoal 20 = .ok (.ifCond .eq 16, 3) := by decide +kernel
theorem dX4_chooseGoal_23 : decode cX4_chooseGoal 23 = .ok (.aload_n 0, 1) := by decide +kernel
theorem dX4_chooseGoal_24 : decode cX4_chooseGoal 24 = .ok (.iload_n 3, 1) := by decide +kernel
theorem dX4_chooseGoal_25 : decode cX4_chooseGoal 25 = .ok (.iload_n 2, 1) := by decide +kernel
theorem dX4_chooseGoal_26 : decode cX4_chooseGoal 26 = .ok (.invokevirtual 52, 3) := by decide +kernel
theorem dX4_chooseGoal_29 : decode cX4_chooseGoal 29 = .ok (.bipush (-6), 2) := by decide +kernel
theorem dX4_chooseGoal_31 : decode cX4_chooseGoal 31 = .ok (.if_icmp .eq 5, 3) := by decide +kernel
theorem dX4_chooseGoal_34 : decode cX4_chooseGoal 34 = .ok (.iload_n 3, 1) := by decide +kernel
theorem dX4_chooseGoal_35 : decode cX4_chooseGoal 35 = .ok (.ireturn, 1) := by decide +kernel
theorem dX4_chooseGoal_36 : decode cX4_chooseGoal 36 = .ok (.bipush (-6), 2) := by decide +kernel
theorem dX4_chooseGoal_38 : decode cX4_chooseGoal 38 = .ok (.istore 4, 2) := by decide +kernel
theorem dX4_chooseGoal_40 : decode cX4_chooseGoal 40 = .ok (.iconst 0, 1) := by decide +kernel
theorem dX4_chooseGoal_41 : decode cX4_chooseGoal 41 = .ok (.istore 5, 2) := by decide +kernel
theorem dX4_chooseGoal_43 : decode cX4_chooseGoal 43 = .ok (.iload 5, 2) := by decide +kernel
theorem dX4_chooseGoal_45 : decode cX4_chooseGoal 45 = .ok (.iconst 4, 1) := by decide +kernel
theorem dX4_chooseGoal_46 : decode cX4_chooseGoal 46 = .ok (.if_icmp .ge 58, 3) := by decide +kernel
theorem dX4_chooseGoal_49 : decode cX4_chooseGoal 49 = .ok (.aload_n 0, 1) := by decide +kernel
theorem dX4_chooseGoal_50 : decode cX4_chooseGoal 50 = .ok (.iload 5, 2) := by decide +kernel
theorem dX4_chooseGoal_52 : decode cX4_chooseGoal 52 = .ok (.iload_n 2, 1) := by decide +kernel
theorem dX4_chooseGoal_53 : decode cX4_chooseGoal 53 = .ok (.invokevirtual 52, 3) := by decide +kernel
theorem dX4_chooseGoal_56 : decode cX4_chooseGoal 56 = .ok (.istore 6, 2) := by decide +kernel
theorem dX4_chooseGoal_58 : decode cX4_chooseGoal 58 = .ok (.aload_n 1, 1) := by decide +kernel
theorem dX4_chooseGoal_59 : decode cX4_chooseGoal 59 = .ok (.getfield 77, 3) := by decide +kernel
theorem dX4_chooseGoal_62 : decode cX4_chooseGoal 62 = .ok (.iload 5, 2) := by decide +kernel
theorem dX4_chooseGoal_64 : decode cX4_chooseGoal 64 = .ok (.baload, 1) := by decide +kernel
theorem dX4_chooseGoal_65 : decode cX4_chooseGoal 65 = .ok (.ifCond .eq 33, 3) := by decide +kernel
theorem dX4_chooseGoal_68 : decode cX4_chooseGoal 68 = .ok (.iload 6, 2) := by decide +kernel
theorem dX4_chooseGoal_70 : decode cX4_chooseGoal 70 = .ok (.bipush (-6), 2) := by decide +kernel
theorem dX4_chooseGoal_72 : decode cX4_chooseGoal 72 = .ok (.if_icmp .eq 26, 3) := by decide +kernel
theorem dX4_chooseGoal_75 : decode cX4_chooseGoal 75 = .ok (.iload 4, 2) := by decide +kernel
theorem dX4_chooseGoal_77 : decode cX4_chooseGoal 77 = .ok (.bipush (-6), 2) := by decide +kernel
theorem dX4_chooseGoal_79 : decode cX4_chooseGoal 79 = .ok (.if_icmp .eq 15, 3) := by decide +kernel
theorem dX4_chooseGoal_82 : decode cX4_chooseGoal 82 = .ok (.iload 6, 2) := by decide +kernel
theorem dX4_chooseGoal_84 : decode cX4_chooseGoal 84 = .ok (.aload_n 0, 1) := by decide +kernel
theorem dX4_chooseGoal_85 : decode cX4_chooseGoal 85 = .ok (.iload 4, 2) := by decide +kernel
theorem dX4_chooseGoal_87 : decode cX4_chooseGoal 87 = .ok (.iload_n 2, 1) := by decide +kernel
theorem dX4_chooseGoal_88 : decode cX4_chooseGoal 88 = .ok (.invokevirtual 52, 3) := by decide +kernel
theorem dX4_chooseGoal_91 : decode cX4_chooseGoal 91 = .ok (.if_icmp .ge 7, 3) := by decide +kernel
theorem dX4_chooseGoal_94 : decode cX4_chooseGoal 94 = .ok (.iload 5, 2) := by decide +kernel
theorem dX4_chooseGoal_96 : decode cX4_chooseGoal 96 = .ok (.istore 4, 2) := by decide +kernel
theorem dX4_chooseGoal_98 : decode cX4_chooseGoal 98 = .ok (.iinc 5 1, 3) := by decide +kernel
theorem dX4_chooseGoal_101 : decode cX4_chooseGoal 101 = .ok (.goto (-58), 3) := by decide +kernel
theorem dX4_chooseGoal_104 : decode cX4_chooseGoal 104 = .ok (.iload 4, 2) := by decide +kernel
theorem dX4_chooseGoal_106 : decode cX4_chooseGoal 106 = .ok (.ireturn, 1) := by decide +kernel
set_option maxRecDepth 20000 in
theorem ggX4_chooseNext_X4_stepsToGoal : GoodIn wsX4_chooseNext wsX4_stepsToGoal := goodIn_r _ [5, 6, 7, 8, 4, 9, 10, 11, 12, 13, 14, 15, 16, 17, 18, 19, 20, 38, 39, 40, 41, 42, 43] (by decide +kernel) (by decide +kernel)
set_option maxRecDepth 20000 in
theorem gX4_chooseNext_X4_stepsToGoal : GoodIn wsX4_chooseNext (wsV RX4 81 RX4 yX4_stepsToGoal wsX4_stepsToGoal) := goodIn_app (goodIn_of _ (by decide +kernel)) ggX4_chooseNext_X4_stepsToGoal
set_option maxRecDepth 20000 in
theorem ggX4_chooseNext_X1_stepFrom : GoodIn wsX4_chooseNext wsX1_stepFrom := goodIn_r _ [25, 26, 27, 12, 28, 29, 30, 31, 32, 33, 34, 35, 36, 37, 44, 45, 46, 47, 48, 49, 50, 51, 52, 53, 54, 55] (by decide +kernel) (by decide +kernel)
set_option maxRecDepth 20000 in
theorem gX4_chooseNext_X1_stepFrom : GoodIn wsX4_chooseNext (wsV RX4 71 RX1 yX1_stepFrom wsX1_stepFrom) := goodIn_app (goodIn_of _ (by decide +kernel)) ggX4_chooseNext_X1_stepFrom
set_option maxRecDepth 20000 in
theorem ggX4_chooseNext_X4_goalOf : GoodIn wsX4_chooseNext wsX4_goalOf := goodIn_r _ [9, 10, 11, 12, 13, 38, 39, 40, 41, 42, 43] (by decide +kernel) (by decide +kernel)
set_option maxRecDepth 20000 in
theorem gX4_chooseNext_X4_goalOf : GoodIn wsX4_chooseNext (wsV RX4 48 RX4 yX4_goalOf wsX4_goalOf) := goodIn_app (goodIn_of _ (by decide +kernel)) ggX4_chooseNext_X4_goalOf
set_option maxRecDepth 20000 in
theorem ggX4_chooseNext_X4_stepsTo : GoodIn wsX4_chooseNext wsX4_stepsTo := goodIn_r _ [17, 18, 19, 12, 20, 11, 13, 38, 39, 40, 41, 42, 43] (by decide +kernel) (by decide +kernel)
set_option maxRecDepth 20000 in
theorem gX4_chooseNext_X4_stepsTo : GoodIn wsX4_chooseNext (wsV RX4 52 RX4 yX4_stepsTo wsX4_stepsTo) := goodIn_app (goodIn_of _ (by decide +kernel)) ggX4_chooseNext_X4_stepsTo
theorem dX4_chooseNext_0 : decode cX4_chooseNext 0 = .ok (.aload_n 0, 1) := by decide +kernel
theorem dX4_chooseNext_1 : decode cX4_chooseNext 1 = .ok (.iload_n 2, 1) := by decide +kernel
theorem dX4_chooseNext_2 : decode cX4_chooseNext 2 = .ok (.invokevirtual 81, 3) := by decide +kernel
theorem dX4_chooseNext_5 : decode cX4_chooseNext 5 = .ok (.istore_n 3, 1) := by decide +kernel
theorem dX4_chooseNext_6 : decode cX4_chooseNext 6 = .ok (.iload_n 3, 1) := by decide +kernel
theorem dX4_chooseNext_7 : decode cX4_chooseNext 7 = .ok (.iconst 1, 1) := by decide +kernel
theorem dX4_chooseNext_8 : decode cX4_chooseNext 8 = .ok (.if_icmp .ge 6, 3) := by decide +kernel
theorem dX4_chooseNext_11 : decode cX4_chooseNext 11 = .ok (.bipush (-6), 2) := by decide +kernel
theorem dX4_chooseNext_13 : decode cX4_chooseNext 13 = .ok (.ireturn, 1) := by decide +kernel
theorem dX4_chooseNext_14 : decode cX4_chooseNext 14 = .ok (.iconst 0, 1) := by decide +kernel
theorem dX4_chooseNext_15 : decode cX4_chooseNext 15 = .ok (.istore 4, 2) := by decide +kernel
theorem dX4_chooseNext_17 : decode cX4_chooseNext 17 = .ok (.iload 4, 2) := by decide +kernel
theorem dX4_chooseNext_19 : decode cX4_chooseNext 19 = .ok (.iconst 4, 1) := by decide +kernel
theorem dX4_chooseNext_20 : decode cX4_chooseNext 20 = .ok (.if_icmp .ge 45, 3) := by decide +kernel
theorem dX4_chooseNext_23 : decode cX4_chooseNext 23 = .ok (.aload_n 1, 1) := by decide +kernel
theorem dX4_chooseNext_24 : decode cX4_chooseNext 24 = .ok (.iload_n 2, 1) := by decide +kernel
theorem dX4_chooseNext_25 : decode cX4_chooseNext 25 = .ok (.iload 4, 2) := by decide +kernel
theorem dX4_chooseNext_27 : decode cX4_chooseNext 27 = .ok (.invokevirtual 71, 3) := by decide +kernel
theorem dX4_chooseNext_30 : decode cX4_chooseNext 30 = .ok (.istore 5, 2) := by decide +kernel
theorem dX4_chooseNext_32 : decode cX4_chooseNext 32 = .ok (.iload 5, 2) := by decide +kernel
theorem dX4_chooseNext_34 : decode cX4_chooseNext 34 = .ok (.bipush (-6), 2) := by decide +kernel
theorem dX4_chooseNext_36 : decode cX4_chooseNext 36 = .ok (.if_icmp .eq 23, 3) := by decide +kernel
theorem dX4_chooseNext_39 : decode cX4_chooseNext 39 = .ok (.aload_n 0, 1) := by decide +kernel
theorem dX4_chooseNext_40 : decode cX4_chooseNext 40 = .ok (.aload_n 0, 1) := by decide +kernel
theorem dX4_chooseNext_41 : decode cX4_chooseNext 41 = .ok (.iload_n 2, 1) := by decide +kernel
theorem dX4_chooseNext_42 : decode cX4_chooseNext 42 = .ok (.invokevirtual 48, 3) := by decide +kernel
theorem dX4_chooseNext_45 : decode cX4_chooseNext 45 = .ok (.iload 5, 2) := by decide +kernel
theorem dX4_chooseNext_47 : decode cX4_chooseNext 47 = .ok (.invokevirtual 52, 3) := by decide +kernel
theorem dX4_chooseNext_50 : decode cX4_chooseNext 50 = .ok (.iload_n 3, 1) := by decide +kernel
theorem dX4_chooseNext_51 : decode cX4_chooseNext 51 = .ok (.iconst 1, 1) := by decide +kernel
theorem dX4_chooseNext_52 : decode cX4_chooseNext 52 = .ok (.isub, 1) := by decide +kernel
theorem dX4_chooseNext_53 : decode cX4_chooseNext 53 = .ok (.if_icmp .ne 6, 3) := by decide +kernel
theorem dX4_chooseNext_56 : decode cX4_chooseNext 56 = .ok (.iload 5, 2) := by decide +kernel
theorem dX4_chooseNext_58 : decode cX4_chooseNext 58 = .ok (.ireturn, 1) := by decide +kernel
theorem dX4_chooseNext_59 : decode cX4_chooseNext 59 = .ok (.iinc 4 1, 3) := by decide +kernel
theorem dX4_chooseNext_62 : decode cX4_chooseNext 62 = .ok (.goto (-45), 3) := by decide +kernel
theorem dX4_chooseNext_65 : decode cX4_chooseNext 65 = .ok (.bipush (-6), 2) := by decide +kernel
theorem dX4_chooseNext_67 : decode cX4_chooseNext 67 = .ok (.ireturn, 1) := by decide +kernel
set_option maxRecDepth 20000 in
theorem ggX4_orderTurns_X4_stepsToGoal : GoodIn wsX4_orderTurns wsX4_stepsToGoal := goodIn_r _ [7, 8, 9, 10, 6, 11, 12, 13, 14, 15, 16, 17, 18, 19, 20, 21, 22, 23, 24, 25, 26, 27, 28] (by decide +kernel) (by decide +kernel)
set_option maxRecDepth 20000 in
theorem gX4_orderTurns_X4_stepsToGoal : GoodIn wsX4_orderTurns (wsV RX4 81 RX4 yX4_stepsToGoal wsX4_stepsToGoal) := goodIn_app (goodIn_of _ (by decide +kernel)) ggX4_orderTurns_X4_stepsToGoal
theorem dX4_orderTurns_0 : decode cX4_orderTurns 0 = .ok (.aload_n 0, 1) := by decide +kernel
theorem dX4_orderTurns_1 : decode cX4_orderTurns 1 = .ok (.iconst 0, 1) := by decide +kernel
theorem dX4_orderTurns_2 : decode cX4_orderTurns 2 = .ok (.putfield 56, 3) := by decide +kernel
theorem dX4_orderTurns_5 : decode cX4_orderTurns 5 = .ok (.iconst 1, 1) := by decide +kernel
theorem dX4_orderTurns_6 : decode cX4_orderTurns 6 = .ok (.istore_n 1, 1) := by decide +kernel
theorem dX4_orderTurns_7 : decode cX4_orderTurns 7 = .ok (.iload_n 1, 1) := by decide +kernel
theorem dX4_orderTurns_8 : decode cX4_orderTurns 8 = .ok (.bipush 35, 2) := by decide +kernel
theorem dX4_orderTurns_10 : decode cX4_orderTurns 10 = .ok (.if_icmp .ge 61, 3) := by decide +kernel
theorem dX4_orderTurns_13 : decode cX4_orderTurns 13 = .ok (.iconst 0, 1) := by decide +kernel
theorem dX4_orderTurns_14 : decode cX4_orderTurns 14 = .ok (.istore_n 2, 1) := by decide +kernel
theorem dX4_orderTurns_15 : decode cX4_orderTurns 15 = .ok (.iload_n 2, 1) := by decide +kernel
theorem dX4_orderTurns_16 : decode cX4_orderTurns 16 = .ok (.bipush 35, 2) := by decide +kernel
theorem dX4_orderTurns_18 : decode cX4_orderTurns 18 = .ok (.if_icmp .ge 47, 3) := by decide +kernel
theorem dX4_orderTurns_21 : decode cX4_orderTurns 21 = .ok (.aload_n 0, 1) := by decide +kernel
theorem dX4_orderTurns_22 : decode cX4_orderTurns 22 = .ok (.iload_n 2, 1) := by decide +kernel
theorem dX4_orderTurns_23 : decode cX4_orderTurns 23 = .ok (.invokevirtual 81, 3) := by decide +kernel
theorem dX4_orderTurns_26 : decode cX4_orderTurns 26 = .ok (.iload_n 1, 1) := by decide +kernel
theorem dX4_orderTurns_27 : decode cX4_orderTurns 27 = .ok (.if_icmp .ne 32, 3) := by decide +kernel
theorem dX4_orderTurns_30 : decode cX4_orderTurns 30 = .ok (.aload_n 0, 1) := by decide +kernel
theorem dX4_orderTurns_31 : decode cX4_orderTurns 31 = .ok (.getfield 56, 3) := by decide +kernel
theorem dX4_orderTurns_34 : decode cX4_orderTurns 34 = .ok (.bipush 35, 2) := by decide +kernel
theorem dX4_orderTurns_36 : decode cX4_orderTurns 36 = .ok (.if_icmp .ge 23, 3) := by decide +kernel
theorem dX4_orderTurns_39 : decode cX4_orderTurns 39 = .ok (.aload_n 0, 1) := by decide +kernel
theorem dX4_orderTurns_40 : decode cX4_orderTurns 40 = .ok (.getfield 24, 3) := by decide +kernel
theorem dX4_orderTurns_43 : decode cX4_orderTurns 43 = .ok (.aload_n 0, 1) := by decide +kernel
theorem dX4_orderTurns_44 : decode cX4_orderTurns 44 = .ok (.getfield 56, 3) := by decide +kernel
theorem dX4_orderTurns_47 : decode cX4_orderTurns 47 = .ok (.iload_n 2, 1) := by decide +kernel
theorem dX4_orderTurns_48 : decode cX4_orderTurns 48 = .ok (.iastore, 1) := by decide +kernel
theorem dX4_orderTurns_49 : decode cX4_orderTurns 49 = .ok (.aload_n 0, 1) := by decide +kernel
theorem dX4_orderTurns_50 : decode cX4_orderTurns 50 = .ok (.dup, 1) := by decide +kernel
theorem dX4_orderTurns_51 : decode cX4_orderTurns 51 = .ok (.getfield 56, 3) := by decide +kernel
theorem dX4_orderTurns_54 : decode cX4_orderTurns 54 = .ok (.iconst 1, 1) := by decide +kernel
theorem dX4_orderTurns_55 : decode cX4_orderTurns 55 = .ok (.iadd, 1) := by decide +kernel
theorem dX4_orderTurns_56 : decode cX4_orderTurns 56 = .ok (.putfield 56, 3) := by decide +kernel
theorem dX4_orderTurns_59 : decode cX4_orderTurns 59 = .ok (.iinc 2 1, 3) := by decide +kernel
theorem dX4_orderTurns_62 : decode cX4_orderTurns 62 = .ok (.goto (-47), 3) := by decide +kernel
theorem dX4_orderTurns_65 : decode cX4_orderTurns 65 = .ok (.iinc 1 1, 3) := by decide +kernel
theorem dX4_orderTurns_68 : decode cX4_orderTurns 68 = .ok (.goto (-61), 3) := by decide +kernel
theorem dX4_orderTurns_71 : decode cX4_orderTurns 71 = .ok (.return_, 1) := by decide +kernel
theorem dJ6_bitCount_0f7a4_0 : decode cJ6_bitCount_0f7a4 0 = .ok (.iload_n 0, 1) := by decide +kernel
theorem dJ6_bitCount_0f7a4_1 : decode cJ6_bitCount_0f7a4 1 = .ok (.iload_n 0, 1) := by decide +kernel
theorem dJ6_bitCount_0f7a4_2 : decode cJ6_bitCount_0f7a4 2 = .ok (.iconst 1, 1) := by decide +kernel
theorem dJ6_bitCount_0f7a4_3 : decode cJ6_bitCount_0f7a4 3 = .ok (.iushr, 1) := by decide +kernel
theorem dJ6_bitCount_0f7a4_4 : decode cJ6_bitCount_0f7a4 4 = .ok (.ldc_w 265, 3) := by decide +kernel
theorem dJ6_bitCount_0f7a4_7 : decode cJ6_bitCount_0f7a4 7 = .ok (.iand, 1) := by decide +kernel
theorem dJ6_bitCount_0f7a4_8 : decode cJ6_bitCount_0f7a4 8 = .ok (.isub, 1) := by decide +kernel
theorem dJ6_bitCount_0f7a4_9 : decode cJ6_bitCount_0f7a4 9 = .ok (.istore_n 0, 1) := by decide +kernel
theorem dJ6_bitCount_0f7a4_10 : decode cJ6_bitCount_0f7a4 10 = .ok (.iload_n 0, 1) := by decide +kernel
theorem dJ6_bitCount_0f7a4_11 : decode cJ6_bitCount_0f7a4 11 = .ok (.ldc_w 266, 3) := by decide +kernel
theorem dJ6_bitCount_0f7a4_14 : decode cJ6_bitCount_0f7a4 14 = .ok (.iand, 1) := by decide +kernel
theorem dJ6_bitCount_0f7a4_15 : decode cJ6_bitCount_0f7a4 15 = .ok (.iload_n 0, 1) := by decide +kernel
theorem dJ6_bitCount_0f7a4_16 : decode cJ6_bitCount_0f7a4 16 = .ok (.iconst 2, 1) := by decide +kernel
theorem dJ6_bitCount_0f7a4_17 : decode cJ6_bitCount_0f7a4 17 = .ok (.iushr, 1) := by decide +kernel
theorem dJ6_bitCount_0f7a4_18 : decode cJ6_bitCount_0f7a4 18 = .ok (.ldc_w 266, 3) := by decide +kernel
theorem dJ6_bitCount_0f7a4_21 : decode cJ6_bitCount_0f7a4 21 = .ok (.iand, 1) := by decide +kernel
theorem dJ6_bitCount_0f7a4_22 : decode cJ6_bitCount_0f7a4 22 = .ok (.iadd, 1) := by decide +kernel
theorem dJ6_bitCount_0f7a4_23 : decode cJ6_bitCount_0f7a4 23 = .ok (.istore_n 0, 1) := by decide +kernel
theorem dJ6_bitCount_0f7a4_24 : decode cJ6_bitCount_0f7a4 24 = .ok (.iload_n 0, 1) := by decide +kernel
theorem dJ6_bitCount_0f7a4_25 : decode cJ6_bitCount_0f7a4 25 = .ok (.iload_n 0, 1) := by decide +kernel
theorem dJ6_bitCount_0f7a4_26 : decode cJ6_bitCount_0f7a4 26 = .ok (.iconst 4, 1) := by decide +kernel
theorem dJ6_bitCount_0f7a4_27 : decode cJ6_bitCount_0f7a4 27 = .ok (.iushr, 1) := by decide +kernel
theorem dJ6_bitCount_0f7a4_28 : decode cJ6_bitCount_0f7a4 28 = .ok (.iadd, 1) := by decide +kernel
theorem dJ6_bitCount_0f7a4_29 : decode cJ6_bitCount_0f7a4 29 = .ok (.ldc_w 267, 3) := by decide +kernel
theorem dJ6_bitCount_0f7a4_32 : decode cJ6_bitCount_0f7a4 32 = .ok (.iand, 1) := by decide +kernel
theorem dJ6_bitCount_0f7a4_33 : decode cJ6_bitCount_0f7a4 33 = .ok (.istore_n 0, 1) := by decide +kernel
theorem dJ6_bitCount_0f7a4_34 : decode cJ6_bitCount_0f7a4 34 = .ok (.iload_n 0, 1) := by decide +kernel
theorem dJ6_bitCount_0f7a4_35 : decode cJ6_bitCount_0f7a4 35 = .ok (.iload_n 0, 1) := by decide +kernel
theorem dJ6_bitCount_0f7a4_36 : decode cJ6_bitCount_0f7a4 36 = .ok (.bipush 8, 2) := by decide +kernel
theorem dJ6_bitCount_0f7a4_38 : decode cJ6_bitCount_0f7a4 38 = .ok (.iushr, 1) := by decide +kernel
theorem dJ6_bitCount_0f7a4_39 : decode cJ6_bitCount_0f7a4 39 = .ok (.iadd, 1) := by decide +kernel
theorem dJ6_bitCount_0f7a4_40 : decode cJ6_bitCount_0f7a4 40 = .ok (.istore_n 0, 1) := by decide +kernel
theorem dJ6_bitCount_0f7a4_41 : decode cJ6_bitCount_0f7a4 41 = .ok (.iload_n 0, 1) := by decide +kernel
theorem dJ6_bitCount_0f7a4_42 : decode cJ6_bitCount_0f7a4 42 = .ok (.iload_n 0, 1) := by decide +kernel
theorem dJ6_bitCount_0f7a4_43 : decode cJ6_bitCount_0f7a4 43 = .ok (.bipush 16, 2) := by decide +kernel
theorem dJ6_bitCount_0f7a4_45 : decode cJ6_bitCount_0f7a4 45 = .ok (.iushr, 1) := by decide +kernel
theorem dJ6_bitCount_0f7a4_46 : decode cJ6_bitCount_0f7a4 46 = .ok (.iadd, 1) := by decide +kernel
theorem dJ6_bitCount_0f7a4_47 : decode cJ6_bitCount_0f7a4 47 = .ok (.istore_n 0, 1) := by decide +kernel
theorem dJ6_bitCount_0f7a4_48 : decode cJ6_bitCount_0f7a4 48 = .ok (.iload_n 0, 1) := by decide +kernel
theorem dJ6_bitCount_0f7a4_49 : decode cJ6_bitCount_0f7a4 49 = .ok (.bipush 63, 2) := by decide +kernel
theorem dJ6_bitCount_0f7a4_51 : decode cJ6_bitCount_0f7a4 51 = .ok (.iand, 1) := by decide +kernel
theorem dJ6_bitCount_0f7a4_52 : decode cJ6_bitCount_0f7a4 52 = .ok (.ireturn, 1) := by decide +kernel
theorem dJ9_max_7cf53_0 : decode cJ9_max_7cf53 0 = .ok (.iload_n 0, 1) := by decide +kernel
theorem dJ9_max_7cf53_1 : decode cJ9_max_7cf53 1 = .ok (.iload_n 1, 1) := by decide +kernel
theorem dJ9_max_7cf53_2 : decode cJ9_max_7cf53 2 = .ok (.if_icmp .lt 7, 3) := by decide +kernel
theorem dJ9_max_7cf53_5 : decode cJ9_max_7cf53 5 = .ok (.iload_n 0, 1) := by decide +kernel
theorem dJ9_max_7cf53_6 : decode cJ9_max_7cf53 6 = .ok (.goto 4, 3) := by decide +kernel
theorem dJ9_max_7cf53_9 : decode cJ9_max_7cf53 9 = .ok (.iload_n 1, 1) := by decide +kernel
theorem dJ9_max_7cf53_10 : decode cJ9_max_7cf53 10 = .ok (.ireturn, 1) := by decide +kernel
theorem dJ9_min_7cf53_0 : decode cJ9_min_7cf53 0 = .ok (.iload_n 0, 1) := by decide +kernel
theorem dJ9_min_7cf53_1 : decode cJ9_min_7cf53 1 = .ok (.iload_n 1, 1) := by decide +kernel
theorem dJ9_min_7cf53_2 : decode cJ9_min_7cf53 2 = .ok (.if_icmp .gt 7, 3) := by decide +kernel
theorem dJ9_min_7cf53_5 : decode cJ9_min_7cf53 5 = .ok (.iload_n 0, 1) := by decide +kernel
theorem dJ9_min_7cf53_6 : decode cJ9_min_7cf53 6 = .ok (.goto 4, 3) := by decide +kernel
theorem dJ9_min_7cf53_9 : decode cJ9_min_7cf53 9 = .ok (.iload_n 1, 1) := by decide +kernel
theorem dJ9_min_7cf53_10 : decode cJ9_min_7cf53 10 = .ok (.ireturn, 1) := by decide +kernel
