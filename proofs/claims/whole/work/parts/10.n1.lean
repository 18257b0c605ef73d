set_option maxRecDepth 20000 in
theorem ggX0_init_X1_init : GoodIn wsX0_init wsX1_init := goodIn_r _ [18, 19, 2, 3, 20, 21, 22, 23, 24, 25, 26, 27, 28, 29, 42, 43, 44, 45, 46, 47, 48, 49, 50, 51, 52, 53] (by decide +kernel) (by decide +kernel)
set_option maxRecDepth 20000 in
theorem gX0_init_X1_init : GoodIn wsX0_init (wsX1_init) := ggX0_init_X1_init
set_option maxRecDepth 20000 in
theorem ggX0_init_X4_init : GoodIn wsX0_init wsX4_init := goodIn_r _ [31, 32, 2, 3, 21, 33, 34, 35, 36, 37, 57, 58, 59, 60, 61, 62] (by decide +kernel) (by decide +kernel)
set_option maxRecDepth 20000 in
theorem gX0_init_X4_init_n20 : GoodIn wsX0_init (wsX4_init) := ggX0_init_X4_init
set_option maxRecDepth 20000 in
theorem ggX0_init_X2_init : GoodIn wsX0_init wsX2_init := goodIn_r _ [39, 40, 2, 3, 21, 41, 63] (by decide +kernel) (by decide +kernel)
set_option maxRecDepth 20000 in
theorem gX0_init_X2_init_n27 : GoodIn wsX0_init (wsX2_init) := ggX0_init_X2_init
theorem dX0_init_0 : decode cX0_init 0 = .ok (.aload_n 0, 1) := by decide +kernel
theorem dX0_init_1 : decode cX0_init 1 = .ok (.invokespecial 3, 3) := by decide +kernel
theorem dX0_init_4 : decode cX0_init 4 = .ok (.aload_n 0, 1) := by decide +kernel
theorem dX0_init_5 : decode cX0_init 5 = .ok (.new 9, 3) := by decide +kernel
theorem dX0_init_8 : decode cX0_init 8 = .ok (.dup, 1) := by decide +kernel
theorem dX0_init_9 : decode cX0_init 9 = .ok (.invokespecial 11, 3) := by decide +kernel
theorem dX0_init_12 : decode cX0_init 12 = .ok (.putfield 12, 3) := by decide +kernel
theorem dX0_init_15 : decode cX0_init 15 = .ok (.aload_n 0, 1) := by decide +kernel
theorem dX0_init_16 : decode cX0_init 16 = .ok (.new 18, 3) := by decide +kernel
theorem dX0_init_19 : decode cX0_init 19 = .ok (.dup, 1) := by decide +kernel
theorem dX0_init_20 : decode cX0_init 20 = .ok (.invokespecial 20, 3) := by decide +kernel
theorem dX0_init_23 : decode cX0_init 23 = .ok (.putfield 21, 3) := by decide +kernel
theorem dX0_init_26 : decode cX0_init 26 = .ok (.aload_n 0, 1) := by decide +kernel
theorem dX0_init_27 : decode cX0_init 27 = .ok (.new 25, 3) := by decide +kernel
theorem dX0_init_30 : decode cX0_init 30 = .ok (.dup, 1) := by decide +kernel
theorem dX0_init_31 : decode cX0_init 31 = .ok (.invokespecial 27, 3) := by decide +kernel
theorem dX0_init_34 : decode cX0_init 34 = .ok (.putfield 28, 3) := by decide +kernel
theorem dX0_init_37 : decode cX0_init 37 = .ok (.return_, 1) := by decide +kernel
set_option maxRecDepth 20000 in
theorem ggX0_startFrom_X1_copyFrom : GoodIn wsX0_startFrom wsX1_copyFrom := goodIn_r _ [7, 8, 9, 10, 11, 12, 13, 14, 15, 16, 17, 18, 19, 85, 86, 87, 88, 89, 90, 91, 92, 93, 94, 95, 96] (by decide +kernel) (by decide +kernel)
set_option maxRecDepth 20000 in
theorem gX0_startFrom_X1_copyFrom : GoodIn wsX0_startFrom (wsV RX0 32 RX1 yX1_copyFrom wsX1_copyFrom) := goodIn_app (goodIn_of _ (by decide +kernel)) ggX0_startFrom_X1_copyFrom
set_option maxRecDepth 20000 in
theorem ggX0_startFrom_X4_find : GoodIn wsX0_startFrom wsX4_find := goodIn_r _ [24, 25, 26, 27, 28, 29, 23, 30, 31, 32, 33, 34, 35, 36, 37, 38, 39, 6, 40, 15, 41, 42, 43, 44, 45, 46, 47, 48, 49, 50, 51, 52, 53, 54, 55, 56, 57, 58, 59, 60, 61, 62, 63, 64, 65, 66, 67, 68, 69, 70, 71, 72, 73, 74, 75, 76, 77, 78, 79, 80, 81, 97, 98, 99, 100, 101, 102, 85, 86, 87, 88, 89, 90, 91, 92, 93, 94, 95, 96] (by decide +kernel) (by decide +kernel)
set_option maxRecDepth 20000 in
theorem gX0_startFrom_X4_find : GoodIn wsX0_startFrom (wsV RX0 36 RX4 yX4_find wsX4_find) := goodIn_app (goodIn_of _ (by decide +kernel)) ggX0_startFrom_X4_find
theorem dX0_startFrom_0 : decode cX0_startFrom 0 = .ok (.aload_n 0, 1) := by decide +kernel
theorem dX0_startFrom_1 : decode cX0_startFrom 1 = .ok (.getfield 12, 3) := by decide +kernel
theorem dX0_startFrom_4 : decode cX0_startFrom 4 = .ok (.aload_n 1, 1) := by decide +kernel
theorem dX0_startFrom_5 : decode cX0_startFrom 5 = .ok (.invokevirtual 32, 3) := by decide +kernel
theorem dX0_startFrom_8 : decode cX0_startFrom 8 = .ok (.aload_n 0, 1) := by decide +kernel
theorem dX0_startFrom_9 : decode cX0_startFrom 9 = .ok (.getfield 21, 3) := by decide +kernel
theorem dX0_startFrom_12 : decode cX0_startFrom 12 = .ok (.aload_n 0, 1) := by decide +kernel
theorem dX0_startFrom_13 : decode cX0_startFrom 13 = .ok (.getfield 12, 3) := by decide +kernel
theorem dX0_startFrom_16 : decode cX0_startFrom 16 = .ok (.invokevirtual 36, 3) := by decide +kernel
theorem dX0_startFrom_19 : decode cX0_startFrom 19 = .ok (.return_, 1) := by decide +kernel
set_option maxRecDepth 20000 in
theorem ggX0_startWithRopeTurned_X1_copyFrom : GoodIn wsX0_startWithRopeTurned wsX1_copyFrom := goodIn_r _ [8, 9, 10, 11, 12, 13, 14, 15, 16, 17, 18, 19, 20, 86, 87, 88, 89, 90, 91, 92, 93, 94, 95, 96, 97] (by decide +kernel) (by decide +kernel)
set_option maxRecDepth 20000 in
theorem gX0_startWithRopeTurned_X1_copyFrom : GoodIn wsX0_startWithRopeTurned (wsV RX0 32 RX1 yX1_copyFrom wsX1_copyFrom) := goodIn_app (goodIn_of _ (by decide +kernel)) ggX0_startWithRopeTurned_X1_copyFrom
set_option maxRecDepth 20000 in
theorem ggX0_startWithRopeTurned_X5_isEdge : GoodIn wsX0_startWithRopeTurned wsX5_isEdge := goodIn_r _ [23] (by decide +kernel) (by decide +kernel)
set_option maxRecDepth 20000 in
theorem gX0_startWithRopeTurned_X5_isEdge_n39 : GoodIn wsX0_startWithRopeTurned (wsX5_isEdge) := ggX0_startWithRopeTurned_X5_isEdge
set_option maxRecDepth 20000 in
theorem ggX0_startWithRopeTurned_X4_find : GoodIn wsX0_startWithRopeTurned wsX4_find := goodIn_r _ [28, 29, 30, 31, 32, 33, 27, 34, 35, 36, 37, 38, 22, 39, 40, 41, 42, 7, 43, 16, 44, 45, 46, 47, 48, 49, 50, 51, 52, 21, 23, 53, 54, 55, 56, 57, 58, 59, 60, 61, 62, 63, 64, 65, 66, 67, 68, 69, 70, 71, 72, 73, 74, 75, 76, 77, 78, 79, 80, 81, 82, 98, 99, 100, 101, 102, 103, 86, 87, 88, 89, 90, 91, 92, 93, 94, 95, 96, 97] (by decide +kernel) (by decide +kernel)
set_option maxRecDepth 20000 in
theorem gX0_startWithRopeTurned_X4_find : GoodIn wsX0_startWithRopeTurned (wsV RX0 36 RX4 yX4_find wsX4_find) := goodIn_app (goodIn_of _ (by decide +kernel)) ggX0_startWithRopeTurned_X4_find
theorem dX0_startWithRopeTurned_0 : decode cX0_startWithRopeTurned 0 = .ok (.aload_n 0, 1) := by decide +kernel
theorem dX0_startWithRopeTurned_1 : decode cX0_startWithRopeTurned 1 = .ok (.getfield 12, 3) := by decide +kernel
theorem dX0_startWithRopeTurned_4 : decode cX0_startWithRopeTurned 4 = .ok (.aload_n 1, 1) := by decide +kernel
theorem dX0_startWithRopeTurned_5 : decode cX0_startWithRopeTurned 5 = .ok (.invokevirtual 32, 3) := by decide +kernel
theorem dX0_startWithRopeTurned_8 : decode cX0_startWithRopeTurned 8 = .ok (.iload_n 2, 1) := by decide +kernel
theorem dX0_startWithRopeTurned_9 : decode cX0_startWithRopeTurned 9 = .ok (.invokestatic 39, 3) := by decide +kernel
theorem dX0_startWithRopeTurned_12 : decode cX0_startWithRopeTurned 12 = .ok (.ifCond .eq 29, 3) := by decide +kernel
theorem dX0_startWithRopeTurned_15 : decode cX0_startWithRopeTurned 15 = .ok (.aload_n 0, 1) := by decide +kernel
theorem dX0_startWithRopeTurned_16 : decode cX0_startWithRopeTurned 16 = .ok (.getfield 12, 3) := by decide +kernel
theorem dX0_startWithRopeTurned_19 : decode cX0_startWithRopeTurned 19 = .ok (.getfield 43, 3) := by decide +kernel
theorem dX0_startWithRopeTurned_22 : decode cX0_startWithRopeTurned 22 = .ok (.iload_n 2, 1) := by decide +kernel
theorem dX0_startWithRopeTurned_23 : decode cX0_startWithRopeTurned 23 = .ok (.aload_n 0, 1) := by decide +kernel
theorem dX0_startWithRopeTurned_24 : decode cX0_startWithRopeTurned 24 = .ok (.getfield 12, 3) := by decide +kernel
theorem dX0_startWithRopeTurned_27 : decode cX0_startWithRopeTurned 27 = .ok (.getfield 43, 3) := by decide +kernel
theorem dX0_startWithRopeTurned_30 : decode cX0_startWithRopeTurned 30 = .ok (.iload_n 2, 1) := by decide +kernel
theorem dX0_startWithRopeTurned_31 : decode cX0_startWithRopeTurned 31 = .ok (.baload, 1) := by decide +kernel
theorem dX0_startWithRopeTurned_32 : decode cX0_startWithRopeTurned 32 = .ok (.ifCond .ne 7, 3) := by decide +kernel
theorem dX0_startWithRopeTurned_35 : decode cX0_startWithRopeTurned 35 = .ok (.iconst 1, 1) := by decide +kernel
theorem dX0_startWithRopeTurned_36 : decode cX0_startWithRopeTurned 36 = .ok (.goto 4, 3) := by decide +kernel
theorem dX0_startWithRopeTurned_39 : decode cX0_startWithRopeTurned 39 = .ok (.iconst 0, 1) := by decide +kernel
theorem dX0_startWithRopeTurned_40 : decode cX0_startWithRopeTurned 40 = .ok (.bastore, 1) := by decide +kernel
theorem dX0_startWithRopeTurned_41 : decode cX0_startWithRopeTurned 41 = .ok (.aload_n 0, 1) := by decide +kernel
theorem dX0_startWithRopeTurned_42 : decode cX0_startWithRopeTurned 42 = .ok (.getfield 21, 3) := by decide +kernel
theorem dX0_startWithRopeTurned_45 : decode cX0_startWithRopeTurned 45 = .ok (.aload_n 0, 1) := by decide +kernel
theorem dX0_startWithRopeTurned_46 : decode cX0_startWithRopeTurned 46 = .ok (.getfield 12, 3) := by decide +kernel
theorem dX0_startWithRopeTurned_49 : decode cX0_startWithRopeTurned 49 = .ok (.invokevirtual 36, 3) := by decide +kernel
theorem dX0_startWithRopeTurned_52 : decode cX0_startWithRopeTurned 52 = .ok (.return_, 1) := by decide +kernel
set_option maxRecDepth 20000 in
theorem ggX0_runUntilOut_X1_peopleInside : GoodIn wsX0_runUntilOut wsX1_peopleInside := goodIn_r _ [8, 9, 72, 73, 74, 75, 76, 77, 78, 79, 80, 81, 82, 83] (by decide +kernel) (by decide +kernel)
set_option maxRecDepth 20000 in
theorem gX0_runUntilOut_X1_peopleInside : GoodIn wsX0_runUntilOut (wsV RX0 47 RX1 yX1_peopleInside wsX1_peopleInside) := goodIn_app (goodIn_of _ (by decide +kernel)) ggX0_runUntilOut_X1_peopleInside
set_option maxRecDepth 20000 in
theorem ggX0_runUntilOut_X4_stranded : GoodIn wsX0_runUntilOut wsX4_stranded := goodIn_r _ [14, 15, 16, 17, 13, 18, 19, 20, 84, 85, 86, 87, 88, 89, 72, 73, 74, 75, 76, 77, 78, 79, 80, 81, 82, 83] (by decide +kernel) (by decide +kernel)
set_option maxRecDepth 20000 in
theorem gX0_runUntilOut_X4_stranded : GoodIn wsX0_runUntilOut (wsV RX0 51 RX4 yX4_stranded wsX4_stranded) := goodIn_app (goodIn_of _ (by decide +kernel)) ggX0_runUntilOut_X4_stranded
set_option maxRecDepth 20000 in
theorem ggX0_runUntilOut_X2_run : GoodIn wsX0_runUntilOut wsX2_run := goodIn_r _ [25, 26, 27, 28, 29, 24, 30, 31, 32, 33, 34, 35, 36, 37, 38, 39, 40, 41, 42, 43, 44, 45, 13, 46, 47, 48, 49, 50, 51, 52, 53, 54, 55, 56, 57, 58, 59, 60, 61, 62, 63, 64, 65, 66, 7, 67, 68, 9, 72, 73, 74, 75, 76, 77, 78, 79, 80, 81, 82, 83, 90, 84, 85, 86, 87, 88, 89] (by decide +kernel) (by decide +kernel)
set_option maxRecDepth 20000 in
theorem gX0_runUntilOut_X2_run : GoodIn wsX0_runUntilOut (wsV RX0 55 RX2 yX2_run wsX2_run) := goodIn_app (goodIn_of _ (by decide +kernel)) ggX0_runUntilOut_X2_run
theorem dX0_runUntilOut_0 : decode cX0_runUntilOut 0 = .ok (.aload_n 0, 1) := by decide +kernel
theorem dX0_runUntilOut_1 : decode cX0_runUntilOut 1 = .ok (.getfield 12, 3) := by decide +kernel
theorem dX0_runUntilOut_4 : decode cX0_runUntilOut 4 = .ok (.invokevirtual 47, 3) := by decide +kernel
theorem dX0_runUntilOut_7 : decode cX0_runUntilOut 7 = .ok (.aload_n 0, 1) := by decide +kernel
theorem dX0_runUntilOut_8 : decode cX0_runUntilOut 8 = .ok (.getfield 21, 3) := by decide +kernel
theorem dX0_runUntilOut_11 : decode cX0_runUntilOut 11 = .ok (.aload_n 0, 1) := by decide +kernel
theorem dX0_runUntilOut_12 : decode cX0_runUntilOut 12 = .ok (.getfield 12, 3) := by decide +kernel
theorem dX0_runUntilOut_15 : decode cX0_runUntilOut 15 = .ok (.invokevirtual 51, 3) := by decide +kernel
theorem dX0_runUntilOut_18 : decode cX0_runUntilOut 18 = .ok (.isub, 1) := by decide +kernel
theorem dX0_runUntilOut_19 : decode cX0_runUntilOut 19 = .ok (.istore_n 1, 1) := by decide +kernel
theorem dX0_runUntilOut_20 : decode cX0_runUntilOut 20 = .ok (.iconst 0, 1) := by decide +kernel
theorem dX0_runUntilOut_21 : decode cX0_runUntilOut 21 = .ok (.istore_n 2, 1) := by decide +kernel
theorem dX0_runUntilOut_22 : decode cX0_runUntilOut 22 = .ok (.iload_n 2, 1) := by decide +kernel
theorem dX0_runUntilOut_23 : decode cX0_runUntilOut 23 = .ok (.sipush 400, 3) := by decide +kernel
theorem dX0_runUntilOut_26 : decode cX0_runUntilOut 26 = .ok (.if_icmp .ge 33, 3) := by decide +kernel
theorem dX0_runUntilOut_29 : decode cX0_runUntilOut 29 = .ok (.iload_n 1, 1) := by decide +kernel
theorem dX0_runUntilOut_30 : decode cX0_runUntilOut 30 = .ok (.ifCond .ne 5, 3) := by decide +kernel
theorem dX0_runUntilOut_33 : decode cX0_runUntilOut 33 = .ok (.iload_n 2, 1) := by decide +kernel
theorem dX0_runUntilOut_34 : decode cX0_runUntilOut 34 = .ok (.ireturn, 1) := by decide +kernel
theorem dX0_runUntilOut_35 : decode cX0_runUntilOut 35 = .ok (.iload_n 1, 1) := by decide +kernel
theorem dX0_runUntilOut_36 : decode cX0_runUntilOut 36 = .ok (.aload_n 0, 1) := by decide +kernel
theorem dX0_runUntilOut_37 : decode cX0_runUntilOut 37 = .ok (.getfield 28, 3) := by decide +kernel
theorem dX0_runUntilOut_40 : decode cX0_runUntilOut 40 = .ok (.aload_n 0, 1) := by decide +kernel
theorem dX0_runUntilOut_41 : decode cX0_runUntilOut 41 = .ok (.getfield 12, 3) := by decide +kernel
theorem dX0_runUntilOut_44 : decode cX0_runUntilOut 44 = .ok (.aload_n 0, 1) := by decide +kernel
theorem dX0_runUntilOut_45 : decode cX0_runUntilOut 45 = .ok (.getfield 21, 3) := by decide +kernel
theorem dX0_runUntilOut_48 : decode cX0_runUntilOut 48 = .ok (.invokevirtual 55, 3) := by decide +kernel
theorem dX0_runUntilOut_51 : decode cX0_runUntilOut 51 = .ok (.isub, 1) := by decide +kernel
theorem dX0_runUntilOut_52 : decode cX0_runUntilOut 52 = .ok (.istore_n 1, 1) := by decide +kernel
theorem dX0_runUntilOut_53 : decode cX0_runUntilOut 53 = .ok (.iinc 2 1, 3) := by decide +kernel
theorem dX0_runUntilOut_56 : decode cX0_runUntilOut 56 = .ok (.goto (-34), 3) := by decide +kernel
theorem dX0_runUntilOut_59 : decode cX0_runUntilOut 59 = .ok (.iload_n 1, 1) := by decide +kernel
theorem dX0_runUntilOut_60 : decode cX0_runUntilOut 60 = .ok (.ifCond .ne 9, 3) := by decide +kernel
theorem dX0_runUntilOut_63 : decode cX0_runUntilOut 63 = .ok (.sipush 400, 3) := by decide +kernel
theorem dX0_runUntilOut_66 : decode cX0_runUntilOut 66 = .ok (.goto 5, 3) := by decide +kernel
theorem dX0_runUntilOut_69 : decode cX0_runUntilOut 69 = .ok (.bipush (-6), 2) := by decide +kernel
theorem dX0_runUntilOut_71 : decode cX0_runUntilOut 71 = .ok (.ireturn, 1) := by decide +kernel
set_option maxRecDepth 20000 in
theorem ggX0_stranded_X4_stranded : GoodIn wsX0_stranded wsX4_stranded := goodIn_r _ [7, 8, 9, 10, 6, 11, 12, 13, 17, 18, 19, 20, 21, 22, 23, 24, 25, 26, 27, 28, 29, 30, 31, 32, 33, 34] (by decide +kernel) (by decide +kernel)
set_option maxRecDepth 20000 in
theorem gX0_stranded_X4_stranded : GoodIn wsX0_stranded (wsV RX0 51 RX4 yX4_stranded wsX4_stranded) := goodIn_app (goodIn_of _ (by decide +kernel)) ggX0_stranded_X4_stranded
theorem dX0_stranded_0 : decode cX0_stranded 0 = .ok (.aload_n 0, 1) := by decide +kernel
theorem dX0_stranded_1 : decode cX0_stranded 1 = .ok (.getfield 21, 3) := by decide +kernel
theorem dX0_stranded_4 : decode cX0_stranded 4 = .ok (.aload_n 0, 1) := by decide +kernel
theorem dX0_stranded_5 : decode cX0_stranded 5 = .ok (.getfield 12, 3) := by decide +kernel
theorem dX0_stranded_8 : decode cX0_stranded 8 = .ok (.invokevirtual 51, 3) := by decide +kernel
theorem dX0_stranded_11 : decode cX0_stranded 11 = .ok (.ireturn, 1) := by decide +kernel
set_option maxRecDepth 20000 in
theorem ggX0_unevenness_X1_unevenness : GoodIn wsX0_unevenness wsX1_unevenness := goodIn_r _ [6, 7, 8, 9, 10, 11, 12, 13, 14, 15, 19, 20, 21, 22, 23, 24, 25, 26, 27, 28, 29, 30] (by decide +kernel) (by decide +kernel)
set_option maxRecDepth 20000 in
theorem gX0_unevenness_X1_unevenness : GoodIn wsX0_unevenness (wsV RX0 59 RX1 yX1_unevenness wsX1_unevenness) := goodIn_app (goodIn_of _ (by decide +kernel)) ggX0_unevenness_X1_unevenness
theorem dX0_unevenness_0 : decode cX0_unevenness 0 = .ok (.aload_n 0, 1) := by decide +kernel
theorem dX0_unevenness_1 : decode cX0_unevenness 1 = .ok (.getfield 12, 3) := by decide +kernel
theorem dX0_unevenness_4 : decode cX0_unevenness 4 = .ok (.invokevirtual 59, 3) := by decide +kernel
theorem dX0_unevenness_7 : decode cX0_unevenness 7 = .ok (.ireturn, 1) := by decide +kernel
theorem dX0_waited_0 : decode cX0_waited 0 = .ok (.aload_n 0, 1) := by decide +kernel
theorem dX0_waited_1 : decode cX0_waited 1 = .ok (.getfield 12, 3) := by decide +kernel
theorem dX0_waited_4 : decode cX0_waited 4 = .ok (.getfield 62, 3) := by decide +kernel
theorem dX0_waited_7 : decode cX0_waited 7 = .ok (.ireturn, 1) := by decide +kernel
theorem dX1_init_0 : decode cX1_init 0 = .ok (.aload_n 0, 1) := by decide +kernel
theorem dX1_init_1 : decode cX1_init 1 = .ok (.invokespecial 3, 3) := by decide +kernel
theorem dX1_init_4 : decode cX1_init 4 = .ok (.aload_n 0, 1) := by decide +kernel
theorem dX1_init_5 : decode cX1_init 5 = .ok (.bipush 6, 2) := by decide +kernel
theorem dX1_init_7 : decode cX1_init 7 = .ok (.putfield 9, 3) := by decide +kernel
theorem dX1_init_10 : decode cX1_init 10 = .ok (.aload_n 0, 1) := by decide +kernel
theorem dX1_init_11 : decode cX1_init 11 = .ok (.bipush 35, 2) := by decide +kernel
theorem dX1_init_13 : decode cX1_init 13 = .ok (.newarray .int, 2) := by decide +kernel
theorem dX1_init_15 : decode cX1_init 15 = .ok (.putfield 15, 3) := by decide +kernel
theorem dX1_init_18 : decode cX1_init 18 = .ok (.aload_n 0, 1) := by decide +kernel
theorem dX1_init_19 : decode cX1_init 19 = .ok (.bipush 35, 2) := by decide +kernel
theorem dX1_init_21 : decode cX1_init 21 = .ok (.newarray .int, 2) := by decide +kernel
theorem dX1_init_23 : decode cX1_init 23 = .ok (.putfield 19, 3) := by decide +kernel
theorem dX1_init_26 : decode cX1_init 26 = .ok (.aload_n 0, 1) := by decide +kernel
theorem dX1_init_27 : decode cX1_init 27 = .ok (.bipush 70, 2) := by decide +kernel
theorem dX1_init_29 : decode cX1_init 29 = .ok (.newarray .boolean, 2) := by decide +kernel
theorem dX1_init_31 : decode cX1_init 31 = .ok (.putfield 22, 3) := by decide +kernel
theorem dX1_init_34 : decode cX1_init 34 = .ok (.aload_n 0, 1) := by decide +kernel
theorem dX1_init_35 : decode cX1_init 35 = .ok (.iconst 4, 1) := by decide +kernel
theorem dX1_init_36 : decode cX1_init 36 = .ok (.newarray .int, 2) := by decide +kernel
theorem dX1_init_38 : decode cX1_init 38 = .ok (.dup, 1) := by decide +kernel
theorem dX1_init_39 : decode cX1_init 39 = .ok (.iconst 0, 1) := by decide +kernel
theorem dX1_init_40 : decode cX1_init 40 = .ok (.iconst 0, 1) := by decide +kernel
theorem dX1_init_41 : decode cX1_init 41 = .ok (.iastore, 1) := by decide +kernel
theorem dX1_init_42 : decode cX1_init 42 = .ok (.dup, 1) := by decide +kernel
theorem dX1_init_43 : decode cX1_init 43 = .ok (.iconst 1, 1) := by decide +kernel
theorem dX1_init_44 : decode cX1_init 44 = .ok (.bipush 6, 2) := by decide +kernel
theorem dX1_init_46 : decode cX1_init 46 = .ok (.iastore, 1) := by decide +kernel
theorem dX1_init_47 : decode cX1_init 47 = .ok (.dup, 1) := by decide +kernel
theorem dX1_init_48 : decode cX1_init 48 = .ok (.iconst 2, 1) := by decide +kernel
theorem dX1_init_49 : decode cX1_init 49 = .ok (.bipush 28, 2) := by decide +kernel
theorem dX1_init_51 : decode cX1_init 51 = .ok (.iastore, 1) := by decide +kernel
theorem dX1_init_52 : decode cX1_init 52 = .ok (.dup, 1) := by decide +kernel
theorem dX1_init_53 : decode cX1_init 53 = .ok (.iconst 3, 1) := by decide +kernel
theorem dX1_init_54 : decode cX1_init 54 = .ok (.bipush 34, 2) := by decide +kernel
theorem dX1_init_56 : decode cX1_init 56 = .ok (.iastore, 1) := by decide +kernel
theorem dX1_init_57 : decode cX1_init 57 = .ok (.putfield 26, 3) := by decide +kernel
theorem dX1_init_60 : decode cX1_init 60 = .ok (.aload_n 0, 1) := by decide +kernel
theorem dX1_init_61 : decode cX1_init 61 = .ok (.iconst 4, 1) := by decide +kernel
theorem dX1_init_62 : decode cX1_init 62 = .ok (.newarray .int, 2) := by decide +kernel
theorem dX1_init_64 : decode cX1_init 64 = .ok (.dup, 1) := by decide +kernel
theorem dX1_init_65 : decode cX1_init 65 = .ok (.iconst 0, 1) := by decide +kernel
theorem dX1_init_66 : decode cX1_init 66 = .ok (.iconst 1, 1) := by decide +kernel
theorem dX1_init_67 : decode cX1_init 67 = .ok (.iastore, 1) := by decide +kernel
theorem dX1_init_68 : decode cX1_init 68 = .ok (.dup, 1) := by decide +kernel
theorem dX1_init_69 : decode cX1_init 69 = .ok (.iconst 1, 1) := by decide +kernel
theorem dX1_init_70 : decode cX1_init 70 = .ok (.iconst 1, 1) := by decide +kernel
theorem dX1_init_71 : decode cX1_init 71 = .ok (.iastore, 1) := by decide +kernel
theorem dX1_init_72 : decode cX1_init 72 = .ok (.dup, 1) := by decide +kernel
theorem dX1_init_73 : decode cX1_init 73 = .ok (.iconst 2, 1) := by decide +kernel
theorem dX1_init_74 : decode cX1_init 74 = .ok (.iconst 1, 1) := by decide +kernel
theorem dX1_init_75 : decode cX1_init 75 = .ok (.iastore, 1) := by decide +kernel
theorem dX1_init_76 : decode cX1_init 76 = .ok (.dup, 1) := by decide +kernel
theorem dX1_init_77 : decode cX1_init 77 = .ok (.iconst 3, 1) := by decide +kernel
theorem dX1_init_78 : decode cX1_init 78 = .ok (.iconst 1, 1) := by decide +kernel
theorem dX1_init_79 : decode cX1_init 79 = .ok (.iastore, 1) := by decide +kernel
theorem dX1_init_80 : decode cX1_init 80 = .ok (.putfield 29, 3) := by decide +kernel
theorem dX1_init_83 : decode cX1_init 83 = .ok (.aload_n 0, 1) := by decide +kernel
theorem dX1_init_84 : decode cX1_init 84 = .ok (.iconst 4, 1) := by decide +kernel
theorem dX1_init_85 : decode cX1_init 85 = .ok (.newarray .boolean, 2) := by decide +kernel
theorem dX1_init_87 : decode cX1_init 87 = .ok (.dup, 1) := by decide +kernel
theorem dX1_init_88 : decode cX1_init 88 = .ok (.iconst 0, 1) := by decide +kernel
theorem dX1_init_89 : decode cX1_init 89 = .ok (.iconst 1, 1) := by decide +kernel
theorem dX1_init_90 : decode cX1_init 90 = .ok (.bastore, 1) := by decide +kernel
theorem dX1_init_91 : decode cX1_init 91 = .ok (.dup, 1) := by decide +kernel
theorem dX1_init_92 : decode cX1_init 92 = .ok (.iconst 1, 1) := by decide +kernel
theorem dX1_init_93 : decode cX1_init 93 = .ok (.iconst 0, 1) := by decide +kernel
theorem dX1_init_94 : decode cX1_init 94 = .ok (.bastore, 1) := by decide +kernel
theorem dX1_init_95 : decode cX1_init 95 = .ok (.dup, 1) := by decide +kernel
theorem dX1_init_96 : decode cX1_init 96 = .ok (.iconst 2, 1) := by decide +kernel
theorem dX1_init_97 : decode cX1_init 97 = .ok (.iconst 0, 1) := by decide +kernel
theorem dX1_init_98 : decode cX1_init 98 = .ok (.bastore, 1) := by decide +kernel
theorem dX1_init_99 : decode cX1_init 99 = .ok (.dup, 1) := by decide +kernel
theorem dX1_init_100 : decode cX1_init 100 = .ok (.iconst 3, 1) := by decide +kernel
theorem dX1_init_101 : decode cX1_init 101 = .ok (.iconst 1, 1) := by decide +kernel
theorem dX1_init_102 : decode cX1_init 102 = .ok (.bastore, 1) := by decide +kernel
theorem dX1_init_103 : decode cX1_init 103 = .ok (.putfield 32, 3) := by decide +kernel
theorem dX1_init_106 : decode cX1_init 106 = .ok (.aload_n 0, 1) := by decide +kernel
theorem dX1_init_107 : decode cX1_init 107 = .ok (.iconst 4, 1) := by decide +kernel
theorem dX1_init_108 : decode cX1_init 108 = .ok (.newarray .int, 2) := by decide +kernel
theorem dX1_init_110 : decode cX1_init 110 = .ok (.putfield 35, 3) := by decide +kernel
theorem dX1_init_113 : decode cX1_init 113 = .ok (.iconst 0, 1) := by decide +kernel
theorem dX1_init_114 : decode cX1_init 114 = .ok (.istore_n 1, 1) := by decide +kernel
theorem dX1_init_115 : decode cX1_init 115 = .ok (.iload_n 1, 1) := by decide +kernel
theorem dX1_init_116 : decode cX1_init 116 = .ok (.bipush 35, 2) := by decide +kernel
theorem dX1_init_118 : decode cX1_init 118 = .ok (.if_icmp .ge 16, 3) := by decide +kernel
theorem dX1_init_121 : decode cX1_init 121 = .ok (.aload_n 0, 1) := by decide +kernel
theorem dX1_init_122 : decode cX1_init 122 = .ok (.getfield 19, 3) := by decide +kernel
theorem dX1_init_125 : decode cX1_init 125 = .ok (.iload_n 1, 1) := by decide +kernel
theorem dX1_init_126 : decode cX1_init 126 = .ok (.iconst (-1), 1) := by decide +kernel
theorem dX1_init_127 : decode cX1_init 127 = .ok (.iastore, 1) := by decide +kernel
theorem dX1_init_128 : decode cX1_init 128 = .ok (.iinc 1 1, 3) := by decide +kernel
theorem dX1_init_131 : decode cX1_init 131 = .ok (.goto (-16), 3) := by decide +kernel
theorem dX1_init_134 : decode cX1_init 134 = .ok (.return_, 1) := by decide +kernel
theorem dX1_copyFrom_0 : decode cX1_copyFrom 0 = .ok (.aload_n 0, 1) := by decide +kernel
theorem dX1_copyFrom_1 : decode cX1_copyFrom 1 = .ok (.aload_n 1, 1) := by decide +kernel
theorem dX1_copyFrom_2 : decode cX1_copyFrom 2 = .ok (.getfield 9, 3) := by decide +kernel
theorem dX1_copyFrom_5 : decode cX1_copyFrom 5 = .ok (.putfield 9, 3) := by decide +kernel
theorem dX1_copyFrom_8 : decode cX1_copyFrom 8 = .ok (.aload_n 0, 1) := by decide +kernel
theorem dX1_copyFrom_9 : decode cX1_copyFrom 9 = .ok (.aload_n 1, 1) := by decide +kernel
theorem dX1_copyFrom_10 : decode cX1_copyFrom 10 = .ok (.getfield 38, 3) := by decide +kernel
theorem dX1_copyFrom_13 : decode cX1_copyFrom 13 = .ok (.putfield 38, 3) := by decide +kernel
theorem dX1_copyFrom_16 : decode cX1_copyFrom 16 = .ok (.aload_n 0, 1) := by decide +kernel
theorem dX1_copyFrom_17 : decode cX1_copyFrom 17 = .ok (.aload_n 1, 1) := by decide +kernel
theorem dX1_copyFrom_18 : decode cX1_copyFrom 18 = .ok (.getfield 41, 3) := by decide +kernel
theorem dX1_copyFrom_21 : decode cX1_copyFrom 21 = .ok (.putfield 41, 3) := by decide +kernel
theorem dX1_copyFrom_24 : decode cX1_copyFrom 24 = .ok (.aload_n 0, 1) := by decide +kernel
theorem dX1_copyFrom_25 : decode cX1_copyFrom 25 = .ok (.aload_n 1, 1) := by decide +kernel
theorem dX1_copyFrom_26 : decode cX1_copyFrom 26 = .ok (.getfield 44, 3) := by decide +kernel
theorem dX1_copyFrom_29 : decode cX1_copyFrom 29 = .ok (.putfield 44, 3) := by decide +kernel
theorem dX1_copyFrom_32 : decode cX1_copyFrom 32 = .ok (.aload_n 0, 1) := by decide +kernel
theorem dX1_copyFrom_33 : decode cX1_copyFrom 33 = .ok (.aload_n 1, 1) := by decide +kernel
theorem dX1_copyFrom_34 : decode cX1_copyFrom 34 = .ok (.getfield 47, 3) := by decide +kernel
theorem dX1_copyFrom_37 : decode cX1_copyFrom 37 = .ok (.putfield 47, 3) := by decide +kernel
theorem dX1_copyFrom_40 : decode cX1_copyFrom 40 = .ok (.iconst 0, 1) := by decide +kernel
theorem dX1_copyFrom_41 : decode cX1_copyFrom 41 = .ok (.istore_n 2, 1) := by decide +kernel
theorem dX1_copyFrom_42 : decode cX1_copyFrom 42 = .ok (.iload_n 2, 1) := by decide +kernel
theorem dX1_copyFrom_43 : decode cX1_copyFrom 43 = .ok (.bipush 35, 2) := by decide +kernel
theorem dX1_copyFrom_45 : decode cX1_copyFrom 45 = .ok (.if_icmp .ge 33, 3) := by decide +kernel
theorem dX1_copyFrom_48 : decode cX1_copyFrom 48 = .ok (.aload_n 0, 1) := by decide +kernel
theorem dX1_copyFrom_49 : decode cX1_copyFrom 49 = .ok (.getfield 15, 3) := by decide +kernel
theorem dX1_copyFrom_52 : decode cX1_copyFrom 52 = .ok (.iload_n 2, 1) := by decide +kernel
theorem dX1_copyFrom_53 : decode cX1_copyFrom 53 = .ok (.aload_n 1, 1) := by decide +kernel
theorem dX1_copyFrom_54 : decode cX1_copyFrom 54 = .ok (.getfield 15, 3) := by decide +kernel
theorem dX1_copyFrom_57 : decode cX1_copyFrom 57 = .ok (.iload_n 2, 1) := by decide +kernel
theorem dX1_copyFrom_58 : decode cX1_copyFrom 58 = .ok (.iaload, 1) := by decide +kernel
theorem dX1_copyFrom_59 : decode cX1_copyFrom 59 = .ok (.iastore, 1) := by decide +kernel
theorem dX1_copyFrom_60 : decode cX1_copyFrom 60 = .ok (.aload_n 0, 1) := by decide +kernel
theorem dX1_copyFrom_61 : decode cX1_copyFrom 61 = .ok (.getfield 19, 3) := by decide +kernel
theorem dX1_copyFrom_64 : decode cX1_copyFrom 64 = .ok (.iload_n 2, 1) := by decide +kernel
theorem dX1_copyFrom_65 : decode cX1_copyFrom 65 = .ok (.aload_n 1, 1) := by decide +kernel
theorem dX1_copyFrom_66 : decode cX1_copyFrom 66 = .ok (.getfield 19, 3) := by decide +kernel
theorem dX1_copyFrom_69 : decode cX1_copyFrom 69 = .ok (.iload_n 2, 1) := by decide +kernel
theorem dX1_copyFrom_70 : decode cX1_copyFrom 70 = .ok (.iaload, 1) := by decide +kernel
theorem dX1_copyFrom_71 : decode cX1_copyFrom 71 = .ok (.iastore, 1) := by decide +kernel
theorem dX1_copyFrom_72 : decode cX1_copyFrom 72 = .ok (.iinc 2 1, 3) := by decide +kernel
theorem dX1_copyFrom_75 : decode cX1_copyFrom 75 = .ok (.goto (-33), 3) := by decide +kernel
theorem dX1_copyFrom_78 : decode cX1_copyFrom 78 = .ok (.iconst 0, 1) := by decide +kernel
theorem dX1_copyFrom_79 : decode cX1_copyFrom 79 = .ok (.istore_n 2, 1) := by decide +kernel
theorem dX1_copyFrom_80 : decode cX1_copyFrom 80 = .ok (.iload_n 2, 1) := by decide +kernel
theorem dX1_copyFrom_81 : decode cX1_copyFrom 81 = .ok (.bipush 70, 2) := by decide +kernel
theorem dX1_copyFrom_83 : decode cX1_copyFrom 83 = .ok (.if_icmp .ge 21, 3) := by decide +kernel
theorem dX1_copyFrom_86 : decode cX1_copyFrom 86 = .ok (.aload_n 0, 1) := by decide +kernel
theorem dX1_copyFrom_87 : decode cX1_copyFrom 87 = .ok (.getfield 22, 3) := by decide +kernel
theorem dX1_copyFrom_90 : decode cX1_copyFrom 90 = .ok (.iload_n 2, 1) := by decide +kernel
theorem dX1_copyFrom_91 : decode cX1_copyFrom 91 = .ok (.aload_n 1, 1) := by decide +kernel
theorem dX1_copyFrom_92 : decode cX1_copyFrom 92 = .ok (.getfield 22, 3) := by decide +kernel
theorem dX1_copyFrom_95 : decode cX1_copyFrom 95 = .ok (.iload_n 2, 1) := by decide +kernel
theorem dX1_copyFrom_96 : decode cX1_copyFrom 96 = .ok (.baload, 1) := by decide +kernel
theorem dX1_copyFrom_97 : decode cX1_copyFrom 97 = .ok (.bastore, 1) := by decide +kernel
theorem dX1_copyFrom_98 : decode cX1_copyFrom 98 = .ok (.iinc 2 1, 3) := by decide +kernel
theorem dX1_copyFrom_101 : decode cX1_copyFrom 101 = .ok (.goto (-21), 3) := by decide +kernel
theorem dX1_copyFrom_104 : decode cX1_copyFrom 104 = .ok (.iconst 0, 1) := by decide +kernel
theorem dX1_copyFrom_105 : decode cX1_copyFrom 105 = .ok (.istore_n 2, 1) := by decide +kernel
theorem dX1_copyFrom_106 : decode cX1_copyFrom 106 = .ok (.iload_n 2, 1) := by decide +kernel
theorem dX1_copyFrom_107 : decode cX1_copyFrom 107 = .ok (.iconst 4, 1) := by decide +kernel
theorem dX1_copyFrom_108 : decode cX1_copyFrom 108 = .ok (.if_icmp .ge 57, 3) := by decide +kernel
theorem dX1_copyFrom_111 : decode cX1_copyFrom 111 = .ok (.aload_n 0, 1) := by decide +kernel
theorem dX1_copyFrom_112 : decode cX1_copyFrom 112 = .ok (.getfield 26, 3) := by decide +kernel
theorem dX1_copyFrom_115 : decode cX1_copyFrom 115 = .ok (.iload_n 2, 1) := by decide +kernel
theorem dX1_copyFrom_116 : decode cX1_copyFrom 116 = .ok (.aload_n 1, 1) := by decide +kernel
theorem dX1_copyFrom_117 : decode cX1_copyFrom 117 = .ok (.getfield 26, 3) := by decide +kernel
theorem dX1_copyFrom_120 : decode cX1_copyFrom 120 = .ok (.iload_n 2, 1) := by decide +kernel
theorem dX1_copyFrom_121 : decode cX1_copyFrom 121 = .ok (.iaload, 1) := by decide +kernel
theorem dX1_copyFrom_122 : decode cX1_copyFrom 122 = .ok (.iastore, 1) := by decide +kernel
theorem dX1_copyFrom_123 : decode cX1_copyFrom 123 = .ok (.aload_n 0, 1) := by decide +kernel
theorem dX1_copyFrom_124 : decode cX1_copyFrom 124 = .ok (.getfield 29, 3) := by decide +kernel
theorem dX1_copyFrom_127 : decode cX1_copyFrom 127 = .ok (.iload_n 2, 1) := by decide +kernel
theorem dX1_copyFrom_128 : decode cX1_copyFrom 128 = .ok (.aload_n 1, 1) := by decide +kernel
theorem dX1_copyFrom_129 : decode cX1_copyFrom 129 = .ok (.getfield 29, 3) := by decide +kernel
theorem dX1_copyFrom_132 : decode cX1_copyFrom 132 = .ok (.iload_n 2, 1) := by decide +kernel
theorem dX1_copyFrom_133 : decode cX1_copyFrom 133 = .ok (.iaload, 1) := by decide +kernel
theorem dX1_copyFrom_134 : decode cX1_copyFrom 134 = .ok (.iastore, 1) := by decide +kernel
theorem dX1_copyFrom_135 : decode cX1_copyFrom 135 = .ok (.aload_n 0, 1) := by decide +kernel
theorem dX1_copyFrom_136 : decode cX1_copyFrom 136 = .ok (.getfield 32, 3) := by decide +kernel
theorem dX1_copyFrom_139 : decode cX1_copyFrom 139 = .ok (.iload_n 2, 1) := by decide +kernel
theorem dX1_copyFrom_140 : decode cX1_copyFrom 140 = .ok (.aload_n 1, 1) := by decide +kernel
theorem dX1_copyFrom_141 : decode cX1_copyFrom 141 = .ok (.getfield 32, 3) := by decide +kernel
theorem dX1_copyFrom_144 : decode cX1_copyFrom 144 = .ok (.iload_n 2, 1) := by decide +kernel
theorem dX1_copyFrom_145 : decode cX1_copyFrom 145 = .ok (.baload, 1) := by decide +kernel
theorem dX1_copyFrom_146 : decode cX1_copyFrom 146 = .ok (.bastore, 1) := by decide +kernel
theorem dX1_copyFrom_147 : decode cX1_copyFrom 147 = .ok (.aload_n 0, 1) := by decide +kernel
theorem dX1_copyFrom_148 : decode cX1_copyFrom 148 = .ok (.getfield 35, 3) := by decide +kernel
theorem dX1_copyFrom_151 : decode cX1_copyFrom 151 = .ok (.iload_n 2, 1) := by decide +kernel
theorem dX1_copyFrom_152 : decode cX1_copyFrom 152 = .ok (.aload_n 1, 1) := by decide +kernel
theorem dX1_copyFrom_153 : decode cX1_copyFrom 153 = .ok (.getfield 35, 3) := by decide +kernel
theorem dX1_copyFrom_156 : decode cX1_copyFrom 156 = .ok (.iload_n 2, 1) := by decide +kernel
theorem dX1_copyFrom_157 : decode cX1_copyFrom 157 = .ok (.iaload, 1) := by decide +kernel
theorem dX1_copyFrom_158 : decode cX1_copyFrom 158 = .ok (.iastore, 1) := by decide +kernel
theorem dX1_copyFrom_159 : decode cX1_copyFrom 159 = .ok (.iinc 2 1, 3) := by decide +kernel
theorem dX1_copyFrom_162 : decode cX1_copyFrom 162 = .ok (.goto (-56), 3) := by decide +kernel
theorem dX1_copyFrom_165 : decode cX1_copyFrom 165 = .ok (.return_, 1) := by decide +kernel
set_option maxRecDepth 20000 in
theorem ggX1_letIn_X5_isCell : GoodIn wsX1_letIn wsX5_isCell := goodIn_r _ [5] (by decide +kernel) (by decide +kernel)
set_option maxRecDepth 20000 in
theorem gX1_letIn_X5_isCell_n50 : GoodIn wsX1_letIn (wsX5_isCell) := ggX1_letIn_X5_isCell
theorem dX1_letIn_0 : decode cX1_letIn 0 = .ok (.iload_n 1, 1) := by decide +kernel
theorem dX1_letIn_1 : decode cX1_letIn 1 = .ok (.invokestatic 50, 3) := by decide +kernel
theorem dX1_letIn_4 : decode cX1_letIn 4 = .ok (.ifCond .eq 23, 3) := by decide +kernel
theorem dX1_letIn_7 : decode cX1_letIn 7 = .ok (.aload_n 0, 1) := by decide +kernel
theorem dX1_letIn_8 : decode cX1_letIn 8 = .ok (.getfield 15, 3) := by decide +kernel
theorem dX1_letIn_11 : decode cX1_letIn 11 = .ok (.iload_n 1, 1) := by decide +kernel
theorem dX1_letIn_12 : decode cX1_letIn 12 = .ok (.dup2, 1) := by decide +kernel
theorem dX1_letIn_13 : decode cX1_letIn 13 = .ok (.iaload, 1) := by decide +kernel
theorem dX1_letIn_14 : decode cX1_letIn 14 = .ok (.iload_n 2, 1) := by decide +kernel
theorem dX1_letIn_15 : decode cX1_letIn 15 = .ok (.iadd, 1) := by decide +kernel
theorem dX1_letIn_16 : decode cX1_letIn 16 = .ok (.iastore, 1) := by decide +kernel
theorem dX1_letIn_17 : decode cX1_letIn 17 = .ok (.aload_n 0, 1) := by decide +kernel
theorem dX1_letIn_18 : decode cX1_letIn 18 = .ok (.dup, 1) := by decide +kernel
theorem dX1_letIn_19 : decode cX1_letIn 19 = .ok (.getfield 41, 3) := by decide +kernel
theorem dX1_letIn_22 : decode cX1_letIn 22 = .ok (.iload_n 2, 1) := by decide +kernel
theorem dX1_letIn_23 : decode cX1_letIn 23 = .ok (.iadd, 1) := by decide +kernel
theorem dX1_letIn_24 : decode cX1_letIn 24 = .ok (.putfield 41, 3) := by decide +kernel
theorem dX1_letIn_27 : decode cX1_letIn 27 = .ok (.return_, 1) := by decide +kernel
set_option maxRecDepth 20000 in
theorem ggX1_roomIn_X5_isCell : GoodIn wsX1_roomIn wsX5_isCell := goodIn_r _ [5] (by decide +kernel) (by decide +kernel)
set_option maxRecDepth 20000 in
theorem gX1_roomIn_X5_isCell_n50 : GoodIn wsX1_roomIn (wsX5_isCell) := ggX1_roomIn_X5_isCell
theorem dX1_roomIn_0 : decode cX1_roomIn 0 = .ok (.iload_n 1, 1) := by decide +kernel
theorem dX1_roomIn_1 : decode cX1_roomIn 1 = .ok (.invokestatic 50, 3) := by decide +kernel
theorem dX1_roomIn_4 : decode cX1_roomIn 4 = .ok (.ifCond .eq 17, 3) := by decide +kernel
theorem dX1_roomIn_7 : decode cX1_roomIn 7 = .ok (.aload_n 0, 1) := by decide +kernel
theorem dX1_roomIn_8 : decode cX1_roomIn 8 = .ok (.getfield 9, 3) := by decide +kernel
theorem dX1_roomIn_11 : decode cX1_roomIn 11 = .ok (.aload_n 0, 1) := by decide +kernel
theorem dX1_roomIn_12 : decode cX1_roomIn 12 = .ok (.getfield 15, 3) := by decide +kernel
theorem dX1_roomIn_15 : decode cX1_roomIn 15 = .ok (.iload_n 1, 1) := by decide +kernel
theorem dX1_roomIn_16 : decode cX1_roomIn 16 = .ok (.iaload, 1) := by decide +kernel
theorem dX1_roomIn_17 : decode cX1_roomIn 17 = .ok (.isub, 1) := by decide +kernel
theorem dX1_roomIn_18 : decode cX1_roomIn 18 = .ok (.goto 4, 3) := by decide +kernel
theorem dX1_roomIn_21 : decode cX1_roomIn 21 = .ok (.iconst 0, 1) := by decide +kernel
theorem dX1_roomIn_22 : decode cX1_roomIn 22 = .ok (.ireturn, 1) := by decide +kernel
theorem dX1_fullestCell_0 : decode cX1_fullestCell 0 = .ok (.iconst 0, 1) := by decide +kernel
theorem dX1_fullestCell_1 : decode cX1_fullestCell 1 = .ok (.istore_n 1, 1) := by decide +kernel
theorem dX1_fullestCell_2 : decode cX1_fullestCell 2 = .ok (.iconst 0, 1) := by decide +kernel
theorem dX1_fullestCell_3 : decode cX1_fullestCell 3 = .ok (.istore_n 2, 1) := by decide +kernel
theorem dX1_fullestCell_4 : decode cX1_fullestCell 4 = .ok (.iload_n 2, 1) := by decide +kernel
theorem dX1_fullestCell_5 : decode cX1_fullestCell 5 = .ok (.bipush 35, 2) := by decide +kernel
theorem dX1_fullestCell_7 : decode cX1_fullestCell 7 = .ok (.if_icmp .ge 20, 3) := by decide +kernel
theorem dX1_fullestCell_10 : decode cX1_fullestCell 10 = .ok (.iload_n 1, 1) := by decide +kernel
theorem dX1_fullestCell_11 : decode cX1_fullestCell 11 = .ok (.aload_n 0, 1) := by decide +kernel
theorem dX1_fullestCell_12 : decode cX1_fullestCell 12 = .ok (.getfield 15, 3) := by decide +kernel
theorem dX1_fullestCell_15 : decode cX1_fullestCell 15 = .ok (.iload_n 2, 1) := by decide +kernel
theorem dX1_fullestCell_16 : decode cX1_fullestCell 16 = .ok (.iaload, 1) := by decide +kernel
theorem dX1_fullestCell_17 : decode cX1_fullestCell 17 = .ok (.invokestatic 54, 3) := by decide +kernel
theorem dX1_fullestCell_20 : decode cX1_fullestCell 20 = .ok (.istore_n 1, 1) := by decide +kernel
theorem dX1_fullestCell_21 : decode cX1_fullestCell 21 = .ok (.iinc 2 1, 3) := by decide +kernel
theorem dX1_fullestCell_24 : decode cX1_fullestCell 24 = .ok (.goto (-20), 3) := by decide +kernel
theorem dX1_fullestCell_27 : decode cX1_fullestCell 27 = .ok (.iload_n 1, 1) := by decide +kernel
theorem dX1_fullestCell_28 : decode cX1_fullestCell 28 = .ok (.ireturn, 1) := by decide +kernel
theorem dX1_peopleInside_0 : decode cX1_peopleInside 0 = .ok (.iconst 0, 1) := by decide +kernel
theorem dX1_peopleInside_1 : decode cX1_peopleInside 1 = .ok (.istore_n 1, 1) := by decide +kernel
theorem dX1_peopleInside_2 : decode cX1_peopleInside 2 = .ok (.iconst 0, 1) := by decide +kernel
theorem dX1_peopleInside_3 : decode cX1_peopleInside 3 = .ok (.istore_n 2, 1) := by decide +kernel
theorem dX1_peopleInside_4 : decode cX1_peopleInside 4 = .ok (.iload_n 2, 1) := by decide +kernel
theorem dX1_peopleInside_5 : decode cX1_peopleInside 5 = .ok (.bipush 35, 2) := by decide +kernel
theorem dX1_peopleInside_7 : decode cX1_peopleInside 7 = .ok (.if_icmp .ge 18, 3) := by decide +kernel
theorem dX1_peopleInside_10 : decode cX1_peopleInside 10 = .ok (.iload_n 1, 1) := by decide +kernel
theorem dX1_peopleInside_11 : decode cX1_peopleInside 11 = .ok (.aload_n 0, 1) := by decide +kernel
theorem dX1_peopleInside_12 : decode cX1_peopleInside 12 = .ok (.getfield 15, 3) := by decide +kernel
theorem dX1_peopleInside_15 : decode cX1_peopleInside 15 = .ok (.iload_n 2, 1) := by decide +kernel
theorem dX1_peopleInside_16 : decode cX1_peopleInside 16 = .ok (.iaload, 1) := by decide +kernel
theorem dX1_peopleInside_17 : decode cX1_peopleInside 17 = .ok (.iadd, 1) := by decide +kernel
theorem dX1_peopleInside_18 : decode cX1_peopleInside 18 = .ok (.istore_n 1, 1) := by decide +kernel
theorem dX1_peopleInside_19 : decode cX1_peopleInside 19 = .ok (.iinc 2 1, 3) := by decide +kernel
theorem dX1_peopleInside_22 : decode cX1_peopleInside 22 = .ok (.goto (-18), 3) := by decide +kernel
theorem dX1_peopleInside_25 : decode cX1_peopleInside 25 = .ok (.iload_n 1, 1) := by decide +kernel
theorem dX1_peopleInside_26 : decode cX1_peopleInside 26 = .ok (.ireturn, 1) := by decide +kernel
theorem dX1_peopleOut_0 : decode cX1_peopleOut 0 = .ok (.iconst 0, 1) := by decide +kernel
theorem dX1_peopleOut_1 : decode cX1_peopleOut 1 = .ok (.istore_n 1, 1) := by decide +kernel
theorem dX1_peopleOut_2 : decode cX1_peopleOut 2 = .ok (.iconst 0, 1) := by decide +kernel
theorem dX1_peopleOut_3 : decode cX1_peopleOut 3 = .ok (.istore_n 2, 1) := by decide +kernel
theorem dX1_peopleOut_4 : decode cX1_peopleOut 4 = .ok (.iload_n 2, 1) := by decide +kernel
theorem dX1_peopleOut_5 : decode cX1_peopleOut 5 = .ok (.iconst 4, 1) := by decide +kernel
theorem dX1_peopleOut_6 : decode cX1_peopleOut 6 = .ok (.if_icmp .ge 18, 3) := by decide +kernel
theorem dX1_peopleOut_9 : decode cX1_peopleOut 9 = .ok (.iload_n 1, 1) := by decide +kernel
theorem dX1_peopleOut_10 : decode cX1_peopleOut 10 = .ok (.aload_n 0, 1) := by decide +kernel
theorem dX1_peopleOut_11 : decode cX1_peopleOut 11 = .ok (.getfield 35, 3) := by decide +kernel
theorem dX1_peopleOut_14 : decode cX1_peopleOut 14 = .ok (.iload_n 2, 1) := by decide +kernel
theorem dX1_peopleOut_15 : decode cX1_peopleOut 15 = .ok (.iaload, 1) := by decide +kernel
theorem dX1_peopleOut_16 : decode cX1_peopleOut 16 = .ok (.iadd, 1) := by decide +kernel
theorem dX1_peopleOut_17 : decode cX1_peopleOut 17 = .ok (.istore_n 1, 1) := by decide +kernel
theorem dX1_peopleOut_18 : decode cX1_peopleOut 18 = .ok (.iinc 2 1, 3) := by decide +kernel
theorem dX1_peopleOut_21 : decode cX1_peopleOut 21 = .ok (.goto (-17), 3) := by decide +kernel
theorem dX1_peopleOut_24 : decode cX1_peopleOut 24 = .ok (.iload_n 1, 1) := by decide +kernel
theorem dX1_peopleOut_25 : decode cX1_peopleOut 25 = .ok (.ireturn, 1) := by decide +kernel
theorem dX1_ropeCount_0 : decode cX1_ropeCount 0 = .ok (.iconst 0, 1) := by decide +kernel
theorem dX1_ropeCount_1 : decode cX1_ropeCount 1 = .ok (.istore_n 1, 1) := by decide +kernel
theorem dX1_ropeCount_2 : decode cX1_ropeCount 2 = .ok (.iconst 0, 1) := by decide +kernel
theorem dX1_ropeCount_3 : decode cX1_ropeCount 3 = .ok (.istore_n 2, 1) := by decide +kernel
theorem dX1_ropeCount_4 : decode cX1_ropeCount 4 = .ok (.iload_n 2, 1) := by decide +kernel
theorem dX1_ropeCount_5 : decode cX1_ropeCount 5 = .ok (.bipush 70, 2) := by decide +kernel
theorem dX1_ropeCount_7 : decode cX1_ropeCount 7 = .ok (.if_icmp .ge 26, 3) := by decide +kernel
theorem dX1_ropeCount_10 : decode cX1_ropeCount 10 = .ok (.iload_n 1, 1) := by decide +kernel
theorem dX1_ropeCount_11 : decode cX1_ropeCount 11 = .ok (.aload_n 0, 1) := by decide +kernel
theorem dX1_ropeCount_12 : decode cX1_ropeCount 12 = .ok (.getfield 22, 3) := by decide +kernel
theorem dX1_ropeCount_15 : decode cX1_ropeCount 15 = .ok (.iload_n 2, 1) := by decide +kernel
theorem dX1_ropeCount_16 : decode cX1_ropeCount 16 = .ok (.baload, 1) := by decide +kernel
theorem dX1_ropeCount_17 : decode cX1_ropeCount 17 = .ok (.ifCond .eq 7, 3) := by decide +kernel
theorem dX1_ropeCount_20 : decode cX1_ropeCount 20 = .ok (.iconst 1, 1) := by decide +kernel
theorem dX1_ropeCount_21 : decode cX1_ropeCount 21 = .ok (.goto 4, 3) := by decide +kernel
theorem dX1_ropeCount_24 : decode cX1_ropeCount 24 = .ok (.iconst 0, 1) := by decide +kernel
theorem dX1_ropeCount_25 : decode cX1_ropeCount 25 = .ok (.iadd, 1) := by decide +kernel
theorem dX1_ropeCount_26 : decode cX1_ropeCount 26 = .ok (.istore_n 1, 1) := by decide +kernel
theorem dX1_ropeCount_27 : decode cX1_ropeCount 27 = .ok (.iinc 2 1, 3) := by decide +kernel
theorem dX1_ropeCount_30 : decode cX1_ropeCount 30 = .ok (.goto (-26), 3) := by decide +kernel
theorem dX1_ropeCount_33 : decode cX1_ropeCount 33 = .ok (.iload_n 1, 1) := by decide +kernel
theorem dX1_ropeCount_34 : decode cX1_ropeCount 34 = .ok (.ireturn, 1) := by decide +kernel
theorem dX1_guardCount_0 : decode cX1_guardCount 0 = .ok (.iconst 0, 1) := by decide +kernel
theorem dX1_guardCount_1 : decode cX1_guardCount 1 = .ok (.istore_n 1, 1) := by decide +kernel
theorem dX1_guardCount_2 : decode cX1_guardCount 2 = .ok (.iconst 0, 1) := by decide +kernel
theorem dX1_guardCount_3 : decode cX1_guardCount 3 = .ok (.istore_n 2, 1) := by decide +kernel
theorem dX1_guardCount_4 : decode cX1_guardCount 4 = .ok (.iload_n 2, 1) := by decide +kernel
theorem dX1_guardCount_5 : decode cX1_guardCount 5 = .ok (.bipush 35, 2) := by decide +kernel
theorem dX1_guardCount_7 : decode cX1_guardCount 7 = .ok (.if_icmp .ge 27, 3) := by decide +kernel
theorem dX1_guardCount_10 : decode cX1_guardCount 10 = .ok (.iload_n 1, 1) := by decide +kernel
theorem dX1_guardCount_11 : decode cX1_guardCount 11 = .ok (.aload_n 0, 1) := by decide +kernel
theorem dX1_guardCount_12 : decode cX1_guardCount 12 = .ok (.getfield 19, 3) := by decide +kernel
theorem dX1_guardCount_15 : decode cX1_guardCount 15 = .ok (.iload_n 2, 1) := by decide +kernel
theorem dX1_guardCount_16 : decode cX1_guardCount 16 = .ok (.iaload, 1) := by decide +kernel
theorem dX1_guardCount_17 : decode cX1_guardCount 17 = .ok (.iconst (-1), 1) := by decide +kernel
theorem dX1_guardCount_18 : decode cX1_guardCount 18 = .ok (.if_icmp .ne 7, 3) := by decide +kernel
theorem dX1_guardCount_21 : decode cX1_guardCount 21 = .ok (.iconst 0, 1) := by decide +kernel
theorem dX1_guardCount_22 : decode cX1_guardCount 22 = .ok (.goto 4, 3) := by decide +kernel
theorem dX1_guardCount_25 : decode cX1_guardCount 25 = .ok (.iconst 1, 1) := by decide +kernel
theorem dX1_guardCount_26 : decode cX1_guardCount 26 = .ok (.iadd, 1) := by decide +kernel
theorem dX1_guardCount_27 : decode cX1_guardCount 27 = .ok (.istore_n 1, 1) := by decide +kernel
theorem dX1_guardCount_28 : decode cX1_guardCount 28 = .ok (.iinc 2 1, 3) := by decide +kernel
theorem dX1_guardCount_31 : decode cX1_guardCount 31 = .ok (.goto (-27), 3) := by decide +kernel
theorem dX1_guardCount_34 : decode cX1_guardCount 34 = .ok (.iload_n 1, 1) := by decide +kernel
theorem dX1_guardCount_35 : decode cX1_guardCount 35 = .ok (.ireturn, 1) := by decide +kernel
theorem dX1_openDoors_0 : decode cX1_openDoors 0 = .ok (.iconst 0, 1) := by decide +kernel
theorem dX1_openDoors_1 : decode cX1_openDoors 1 = .ok (.istore_n 1, 1) := by decide +kernel
theorem dX1_openDoors_2 : decode cX1_openDoors 2 = .ok (.iconst 0, 1) := by decide +kernel
theorem dX1_openDoors_3 : decode cX1_openDoors 3 = .ok (.istore_n 2, 1) := by decide +kernel
theorem dX1_openDoors_4 : decode cX1_openDoors 4 = .ok (.iload_n 2, 1) := by decide +kernel
theorem dX1_openDoors_5 : decode cX1_openDoors 5 = .ok (.iconst 4, 1) := by decide +kernel
theorem dX1_openDoors_6 : decode cX1_openDoors 6 = .ok (.if_icmp .ge 28, 3) := by decide +kernel
theorem dX1_openDoors_9 : decode cX1_openDoors 9 = .ok (.iload_n 1, 1) := by decide +kernel
theorem dX1_openDoors_10 : decode cX1_openDoors 10 = .ok (.aload_n 0, 1) := by decide +kernel
theorem dX1_openDoors_11 : decode cX1_openDoors 11 = .ok (.getfield 32, 3) := by decide +kernel
theorem dX1_openDoors_14 : decode cX1_openDoors 14 = .ok (.iload_n 2, 1) := by decide +kernel
theorem dX1_openDoors_15 : decode cX1_openDoors 15 = .ok (.baload, 1) := by decide +kernel
theorem dX1_openDoors_16 : decode cX1_openDoors 16 = .ok (.ifCond .eq 9, 3) := by decide +kernel
theorem dX1_openDoors_19 : decode cX1_openDoors 19 = .ok (.iconst 1, 1) := by decide +kernel
theorem dX1_openDoors_20 : decode cX1_openDoors 20 = .ok (.iload_n 2, 1) := by decide +kernel
theorem dX1_openDoors_21 : decode cX1_openDoors 21 = .ok (.ishl, 1) := by decide +kernel
theorem dX1_openDoors_22 : decode cX1_openDoors 22 = .ok (.goto 4, 3) := by decide +kernel
theorem dX1_openDoors_25 : decode cX1_openDoors 25 = .ok (.iconst 0, 1) := by decide +kernel
theorem dX1_openDoors_26 : decode cX1_openDoors 26 = .ok (.ior, 1) := by decide +kernel
theorem dX1_openDoors_27 : decode cX1_openDoors 27 = .ok (.istore_n 1, 1) := by decide +kernel
theorem dX1_openDoors_28 : decode cX1_openDoors 28 = .ok (.iinc 2 1, 3) := by decide +kernel
theorem dX1_openDoors_31 : decode cX1_openDoors 31 = .ok (.goto (-27), 3) := by decide +kernel
theorem dX1_openDoors_34 : decode cX1_openDoors 34 = .ok (.iload_n 1, 1) := by decide +kernel
theorem dX1_openDoors_35 : decode cX1_openDoors 35 = .ok (.ireturn, 1) := by decide +kernel
theorem dX1_unevenness_0 : decode cX1_unevenness 0 = .ok (.bipush (-6), 2) := by decide +kernel
theorem dX1_unevenness_2 : decode cX1_unevenness 2 = .ok (.istore_n 1, 1) := by decide +kernel
theorem dX1_unevenness_3 : decode cX1_unevenness 3 = .ok (.bipush (-6), 2) := by decide +kernel
theorem dX1_unevenness_5 : decode cX1_unevenness 5 = .ok (.istore_n 2, 1) := by decide +kernel
theorem dX1_unevenness_6 : decode cX1_unevenness 6 = .ok (.iconst 0, 1) := by decide +kernel
theorem dX1_unevenness_7 : decode cX1_unevenness 7 = .ok (.istore_n 3, 1) := by decide +kernel
theorem dX1_unevenness_8 : decode cX1_unevenness 8 = .ok (.iload_n 3, 1) := by decide +kernel
theorem dX1_unevenness_9 : decode cX1_unevenness 9 = .ok (.iconst 4, 1) := by decide +kernel
theorem dX1_unevenness_10 : decode cX1_unevenness 10 = .ok (.if_icmp .ge 70, 3) := by decide +kernel
theorem dX1_unevenness_13 : decode cX1_unevenness 13 = .ok (.aload_n 0, 1) := by decide +kernel
theorem dX1_unevenness_14 : decode cX1_unevenness 14 = .ok (.getfield 32, 3) := by decide +kernel
theorem dX1_unevenness_17 : decode cX1_unevenness 17 = .ok (.iload_n 3, 1) := by decide +kernel
theorem dX1_unevenness_18 : decode cX1_unevenness 18 = .ok (.baload, 1) := by decide +kernel
theorem dX1_unevenness_19 : decode cX1_unevenness 19 = .ok (.ifCond .eq 55, 3) := by decide +kernel
theorem dX1_unevenness_22 : decode cX1_unevenness 22 = .ok (.iload_n 1, 1) := by decide +kernel
theorem dX1_unevenness_23 : decode cX1_unevenness 23 = .ok (.bipush (-6), 2) := by decide +kernel
theorem dX1_unevenness_25 : decode cX1_unevenness 25 = .ok (.if_icmp .ne 12, 3) := by decide +kernel
theorem dX1_unevenness_28 : decode cX1_unevenness 28 = .ok (.aload_n 0, 1) := by decide +kernel
theorem dX1_unevenness_29 : decode cX1_unevenness 29 = .ok (.getfield 35, 3) := by decide +kernel
theorem dX1_unevenness_32 : decode cX1_unevenness 32 = .ok (.iload_n 3, 1) := by decide +kernel
theorem dX1_unevenness_33 : decode cX1_unevenness 33 = .ok (.iaload, 1) := by decide +kernel
theorem dX1_unevenness_34 : decode cX1_unevenness 34 = .ok (.goto 13, 3) := by decide +kernel
theorem dX1_unevenness_37 : decode cX1_unevenness 37 = .ok (.iload_n 1, 1) := by decide +kernel
theorem dX1_unevenness_38 : decode cX1_unevenness 38 = .ok (.aload_n 0, 1) := by decide +kernel
theorem dX1_unevenness_39 : decode cX1_unevenness 39 = .ok (.getfield 35, 3) := by decide +kernel
theorem dX1_unevenness_42 : decode cX1_unevenness 42 = .ok (.iload_n 3, 1) := by decide +kernel
theorem dX1_unevenness_43 : decode cX1_unevenness 43 = .ok (.iaload, 1) := by decide +kernel
theorem dX1_unevenness_44 : decode cX1_unevenness 44 = .ok (.invokestatic 54, 3) := by decide +kernel
theorem dX1_unevenness_47 : decode cX1_unevenness 47 = .ok (.istore_n 1, 1) := by decide +kernel
theorem dX1_unevenness_48 : decode cX1_unevenness 48 = .ok (.iload_n 2, 1) := by decide +kernel
theorem dX1_unevenness_49 : decode cX1_unevenness 49 = .ok (.bipush (-6), 2) := by decide +kernel
theorem dX1_unevenness_51 : decode cX1_unevenness 51 = .ok (.if_icmp .ne 12, 3) := by decide +kernel
theorem dX1_unevenness_54 : decode cX1_unevenness 54 = .ok (.aload_n 0, 1) := by decide +kernel
theorem dX1_unevenness_55 : decode cX1_unevenness 55 = .ok (.getfield 35, 3) := by decide +kernel
theorem dX1_unevenness_58 : decode cX1_unevenness 58 = .ok (.iload_n 3, 1) := by decide +kernel
theorem dX1_unevenness_59 : decode cX1_unevenness 59 = .ok (.iaload, 1) := by decide +kernel
theorem dX1_unevenness_60 : decode cX1_unevenness 60 = .ok (.goto 13, 3) := by decide +kernel
theorem dX1_unevenness_63 : decode cX1_unevenness 63 = .ok (.iload_n 2, 1) := by decide +kernel
theorem dX1_unevenness_64 : decode cX1_unevenness 64 = .ok (.aload_n 0, 1) := by decide +kernel
theorem dX1_unevenness_65 : decode cX1_unevenness 65 = .ok (.getfield 35, 3) := by decide +kernel
theorem dX1_unevenness_68 : decode cX1_unevenness 68 = .ok (.iload_n 3, 1) := by decide +kernel
theorem dX1_unevenness_69 : decode cX1_unevenness 69 = .ok (.iaload, 1) := by decide +kernel
theorem dX1_unevenness_70 : decode cX1_unevenness 70 = .ok (.invokestatic 60, 3) := by decide +kernel
theorem dX1_unevenness_73 : decode cX1_unevenness 73 = .ok (.istore_n 2, 1) := by decide +kernel
theorem dX1_unevenness_74 : decode cX1_unevenness 74 = .ok (.iinc 3 1, 3) := by decide +kernel
theorem dX1_unevenness_77 : decode cX1_unevenness 77 = .ok (.goto (-69), 3) := by decide +kernel
theorem dX1_unevenness_80 : decode cX1_unevenness 80 = .ok (.iload_n 1, 1) := by decide +kernel
theorem dX1_unevenness_81 : decode cX1_unevenness 81 = .ok (.iload_n 2, 1) := by decide +kernel
theorem dX1_unevenness_82 : decode cX1_unevenness 82 = .ok (.isub, 1) := by decide +kernel
theorem dX1_unevenness_83 : decode cX1_unevenness 83 = .ok (.ireturn, 1) := by decide +kernel
set_option maxRecDepth 20000 in
theorem ggX1_ropesAround_X5_edgeTowards : GoodIn wsX1_ropesAround wsX5_edgeTowards := goodIn_r _ [4, 5, 6, 7, 8, 9, 10, 3, 11] (by decide +kernel) (by decide +kernel)
set_option maxRecDepth 20000 in
theorem gX1_ropesAround_X5_edgeTowards_n63 : GoodIn wsX1_ropesAround (wsX5_edgeTowards) := ggX1_ropesAround_X5_edgeTowards
set_option maxRecDepth 20000 in
theorem ggX1_ropesAround_X5_isEdge : GoodIn wsX1_ropesAround wsX5_isEdge := goodIn_r _ [13] (by decide +kernel) (by decide +kernel)
set_option maxRecDepth 20000 in
theorem gX1_ropesAround_X5_isEdge_n66 : GoodIn wsX1_ropesAround (wsX5_isEdge) := ggX1_ropesAround_X5_isEdge
theorem dX1_ropesAround_0 : decode cX1_ropesAround 0 = .ok (.iconst 0, 1) := by decide +kernel
theorem dX1_ropesAround_1 : decode cX1_ropesAround 1 = .ok (.istore_n 2, 1) := by decide +kernel
theorem dX1_ropesAround_2 : decode cX1_ropesAround 2 = .ok (.iconst 0, 1) := by decide +kernel
theorem dX1_ropesAround_3 : decode cX1_ropesAround 3 = .ok (.istore_n 3, 1) := by decide +kernel
theorem dX1_ropesAround_4 : decode cX1_ropesAround 4 = .ok (.iload_n 3, 1) := by decide +kernel
theorem dX1_ropesAround_5 : decode cX1_ropesAround 5 = .ok (.iconst 4, 1) := by decide +kernel
theorem dX1_ropesAround_6 : decode cX1_ropesAround 6 = .ok (.if_icmp .ge 44, 3) := by decide +kernel
theorem dX1_ropesAround_9 : decode cX1_ropesAround 9 = .ok (.iload_n 1, 1) := by decide +kernel
theorem dX1_ropesAround_10 : decode cX1_ropesAround 10 = .ok (.iload_n 3, 1) := by decide +kernel
theorem dX1_ropesAround_11 : decode cX1_ropesAround 11 = .ok (.invokestatic 63, 3) := by decide +kernel
theorem dX1_ropesAround_14 : decode cX1_ropesAround 14 = .ok (.istore 4, 2) := by decide +kernel
theorem dX1_ropesAround_16 : decode cX1_ropesAround 16 = .ok (.iload_n 2, 1) := by decide +kernel
theorem dX1_ropesAround_17 : decode cX1_ropesAround 17 = .ok (.iload 4, 2) := by decide +kernel
theorem dX1_ropesAround_19 : decode cX1_ropesAround 19 = .ok (.invokestatic 66, 3) := by decide +kernel
theorem dX1_ropesAround_22 : decode cX1_ropesAround 22 = .ok (.ifCond .eq 19, 3) := by decide +kernel
theorem dX1_ropesAround_25 : decode cX1_ropesAround 25 = .ok (.aload_n 0, 1) := by decide +kernel
theorem dX1_ropesAround_26 : decode cX1_ropesAround 26 = .ok (.getfield 22, 3) := by decide +kernel
theorem dX1_ropesAround_29 : decode cX1_ropesAround 29 = .ok (.iload 4, 2) := by decide +kernel
theorem dX1_ropesAround_31 : decode cX1_ropesAround 31 = .ok (.baload, 1) := by decide +kernel
theorem dX1_ropesAround_32 : decode cX1_ropesAround 32 = .ok (.ifCond .eq 9, 3) := by decide +kernel
theorem dX1_ropesAround_35 : decode cX1_ropesAround 35 = .ok (.iconst 1, 1) := by decide +kernel
theorem dX1_ropesAround_36 : decode cX1_ropesAround 36 = .ok (.iload_n 3, 1) := by decide +kernel
theorem dX1_ropesAround_37 : decode cX1_ropesAround 37 = .ok (.ishl, 1) := by decide +kernel
theorem dX1_ropesAround_38 : decode cX1_ropesAround 38 = .ok (.goto 4, 3) := by decide +kernel
theorem dX1_ropesAround_41 : decode cX1_ropesAround 41 = .ok (.iconst 0, 1) := by decide +kernel
theorem dX1_ropesAround_42 : decode cX1_ropesAround 42 = .ok (.ior, 1) := by decide +kernel
theorem dX1_ropesAround_43 : decode cX1_ropesAround 43 = .ok (.istore_n 2, 1) := by decide +kernel
theorem dX1_ropesAround_44 : decode cX1_ropesAround 44 = .ok (.iinc 3 1, 3) := by decide +kernel
theorem dX1_ropesAround_47 : decode cX1_ropesAround 47 = .ok (.goto (-43), 3) := by decide +kernel
theorem dX1_ropesAround_50 : decode cX1_ropesAround 50 = .ok (.iload_n 2, 1) := by decide +kernel
theorem dX1_ropesAround_51 : decode cX1_ropesAround 51 = .ok (.ireturn, 1) := by decide +kernel
set_option maxRecDepth 20000 in
theorem ggX1_stepFrom_X5_edgeTowards : GoodIn wsX1_stepFrom wsX5_edgeTowards := goodIn_r _ [4, 5, 6, 7, 8, 9, 10, 3, 11] (by decide +kernel) (by decide +kernel)
set_option maxRecDepth 20000 in
theorem gX1_stepFrom_X5_edgeTowards_n63 : GoodIn wsX1_stepFrom (wsX5_edgeTowards) := ggX1_stepFrom_X5_edgeTowards
set_option maxRecDepth 20000 in
theorem ggX1_stepFrom_X5_isEdge : GoodIn wsX1_stepFrom wsX5_isEdge := goodIn_r _ [13] (by decide +kernel) (by decide +kernel)
set_option maxRecDepth 20000 in
theorem gX1_stepFrom_X5_isEdge_n66 : GoodIn wsX1_stepFrom (wsX5_isEdge) := ggX1_stepFrom_X5_isEdge
set_option maxRecDepth 20000 in
theorem ggX1_stepFrom_X5_beside : GoodIn wsX1_stepFrom wsX5_beside := goodIn_r _ [11] (by decide +kernel) (by decide +kernel)
set_option maxRecDepth 20000 in
theorem gX1_stepFrom_X5_beside_n69 : GoodIn wsX1_stepFrom (wsX5_beside) := ggX1_stepFrom_X5_beside
theorem dX1_stepFrom_0 : decode cX1_stepFrom 0 = .ok (.iload_n 1, 1) := by decide +kernel
theorem dX1_stepFrom_1 : decode cX1_stepFrom 1 = .ok (.iload_n 2, 1) := by decide +kernel
theorem dX1_stepFrom_2 : decode cX1_stepFrom 2 = .ok (.invokestatic 63, 3) := by decide +kernel
theorem dX1_stepFrom_5 : decode cX1_stepFrom 5 = .ok (.istore_n 3, 1) := by decide +kernel
theorem dX1_stepFrom_6 : decode cX1_stepFrom 6 = .ok (.iload_n 3, 1) := by decide +kernel
theorem dX1_stepFrom_7 : decode cX1_stepFrom 7 = .ok (.invokestatic 66, 3) := by decide +kernel
theorem dX1_stepFrom_10 : decode cX1_stepFrom 10 = .ok (.ifCond .eq 12, 3) := by decide +kernel
theorem dX1_stepFrom_13 : decode cX1_stepFrom 13 = .ok (.aload_n 0, 1) := by decide +kernel
theorem dX1_stepFrom_14 : decode cX1_stepFrom 14 = .ok (.getfield 22, 3) := by decide +kernel
theorem dX1_stepFrom_17 : decode cX1_stepFrom 17 = .ok (.iload_n 3, 1) := by decide +kernel
theorem dX1_stepFrom_18 : decode cX1_stepFrom 18 = .ok (.baload, 1) := by decide +kernel
theorem dX1_stepFrom_19 : decode cX1_stepFrom 19 = .ok (.ifCond .eq 8, 3) := by decide +kernel
theorem dX1_stepFrom_22 : decode cX1_stepFrom 22 = .ok (.bipush (-6), 2) := by decide +kernel
theorem dX1_stepFrom_24 : decode cX1_stepFrom 24 = .ok (.goto 8, 3) := by decide +kernel
theorem dX1_stepFrom_27 : decode cX1_stepFrom 27 = .ok (.iload_n 1, 1) := by decide +kernel
theorem dX1_stepFrom_28 : decode cX1_stepFrom 28 = .ok (.iload_n 2, 1) := by decide +kernel
theorem dX1_stepFrom_29 : decode cX1_stepFrom 29 = .ok (.invokestatic 69, 3) := by decide +kernel
theorem dX1_stepFrom_32 : decode cX1_stepFrom 32 = .ok (.ireturn, 1) := by decide +kernel
theorem dX2_init_0 : decode cX2_init 0 = .ok (.aload_n 0, 1) := by decide +kernel
theorem dX2_init_1 : decode cX2_init 1 = .ok (.invokespecial 3, 3) := by decide +kernel
theorem dX2_init_4 : decode cX2_init 4 = .ok (.aload_n 0, 1) := by decide +kernel
theorem dX2_init_5 : decode cX2_init 5 = .ok (.bipush 35, 2) := by decide +kernel
theorem dX2_init_7 : decode cX2_init 7 = .ok (.newarray .int, 2) := by decide +kernel
theorem dX2_init_9 : decode cX2_init 9 = .ok (.putfield 9, 3) := by decide +kernel
theorem dX2_init_12 : decode cX2_init 12 = .ok (.return_, 1) := by decide +kernel
set_option maxRecDepth 20000 in
theorem ggX2_run_X2_letOut : GoodIn wsX2_run wsX2_letOut := goodIn_r _ [6, 7, 8, 9, 10, 11, 12, 13, 14, 15, 16, 17, 18, 48, 49, 50, 51, 52, 53, 54, 55, 56, 57, 58, 59] (by decide +kernel) (by decide +kernel)
set_option maxRecDepth 20000 in
theorem gX2_run_X2_letOut : GoodIn wsX2_run (va_wsS RX2 21 yX2_letOut wsX2_letOut) := goodIn_app (goodIn_of _ (by decide +kernel)) ggX2_run_X2_letOut
set_option maxRecDepth 20000 in
theorem ggX2_run_X4_turnsAMinute : GoodIn wsX2_run wsX4_turnsAMinute := goodIn_r _ [23, 24, 61, 62, 63, 64, 65, 66] (by decide +kernel) (by decide +kernel)
set_option maxRecDepth 20000 in
theorem gX2_run_X4_turnsAMinute : GoodIn wsX2_run (wsV RX2 25 RX4 yX4_turnsAMinute wsX4_turnsAMinute) := goodIn_app (goodIn_of _ (by decide +kernel)) ggX2_run_X4_turnsAMinute
set_option maxRecDepth 20000 in
theorem ggX2_run_X4_cellAtTurn : GoodIn wsX2_run wsX4_cellAtTurn := goodIn_r _ [28, 29, 16, 17, 18, 61, 62, 63, 64, 65, 66] (by decide +kernel) (by decide +kernel)
set_option maxRecDepth 20000 in
theorem gX2_run_X4_cellAtTurn : GoodIn wsX2_run (wsV RX2 31 RX4 yX4_cellAtTurn wsX4_cellAtTurn) := goodIn_app (goodIn_of _ (by decide +kernel)) ggX2_run_X4_cellAtTurn
set_option maxRecDepth 20000 in
theorem ggX2_run_X4_nextOf : GoodIn wsX2_run wsX4_nextOf := goodIn_r _ [33, 34, 16, 17, 18, 61, 62, 63, 64, 65, 66] (by decide +kernel) (by decide +kernel)
set_option maxRecDepth 20000 in
theorem gX2_run_X4_nextOf : GoodIn wsX2_run (wsV RX2 35 RX4 yX4_nextOf wsX4_nextOf) := goodIn_app (goodIn_of _ (by decide +kernel)) ggX2_run_X4_nextOf
set_option maxRecDepth 20000 in
theorem ggX2_run_X2_move : GoodIn wsX2_run wsX2_move := goodIn_r _ [38, 10, 2, 11, 12, 13, 14, 39, 40, 16, 17, 18, 41, 42, 43, 44, 45, 46, 47, 48, 49, 50, 51, 52, 53, 54, 55, 56, 57, 58, 59, 60] (by decide +kernel) (by decide +kernel)
set_option maxRecDepth 20000 in
theorem gX2_run_X2_move : GoodIn wsX2_run (wsV RX2 38 RX2 yX2_move wsX2_move) := goodIn_app (goodIn_of _ (by decide +kernel)) ggX2_run_X2_move
theorem dX2_run_0 : decode cX2_run 0 = .ok (.aload_n 1, 1) := by decide +kernel
theorem dX2_run_1 : decode cX2_run 1 = .ok (.dup, 1) := by decide +kernel
theorem dX2_run_2 : decode cX2_run 2 = .ok (.getfield 15, 3) := by decide +kernel
theorem dX2_run_5 : decode cX2_run 5 = .ok (.iconst 1, 1) := by decide +kernel
theorem dX2_run_6 : decode cX2_run 6 = .ok (.iadd, 1) := by decide +kernel
theorem dX2_run_7 : decode cX2_run 7 = .ok (.putfield 15, 3) := by decide +kernel
theorem dX2_run_10 : decode cX2_run 10 = .ok (.iconst 0, 1) := by decide +kernel
theorem dX2_run_11 : decode cX2_run 11 = .ok (.istore_n 3, 1) := by decide +kernel
theorem dX2_run_12 : decode cX2_run 12 = .ok (.iconst 0, 1) := by decide +kernel
theorem dX2_run_13 : decode cX2_run 13 = .ok (.istore 4, 2) := by decide +kernel
theorem dX2_run_15 : decode cX2_run 15 = .ok (.iload 4, 2) := by decide +kernel
theorem dX2_run_17 : decode cX2_run 17 = .ok (.iconst 4, 1) := by decide +kernel
theorem dX2_run_18 : decode cX2_run 18 = .ok (.if_icmp .ge 18, 3) := by decide +kernel
theorem dX2_run_21 : decode cX2_run 21 = .ok (.iload_n 3, 1) := by decide +kernel
theorem dX2_run_22 : decode cX2_run 22 = .ok (.aload_n 1, 1) := by decide +kernel
theorem dX2_run_23 : decode cX2_run 23 = .ok (.iload 4, 2) := by decide +kernel
theorem dX2_run_25 : decode cX2_run 25 = .ok (.invokestatic 21, 3) := by decide +kernel
theorem dX2_run_28 : decode cX2_run 28 = .ok (.iadd, 1) := by decide +kernel
theorem dX2_run_29 : decode cX2_run 29 = .ok (.istore_n 3, 1) := by decide +kernel
theorem dX2_run_30 : decode cX2_run 30 = .ok (.iinc 4 1, 3) := by decide +kernel
theorem dX2_run_33 : decode cX2_run 33 = .ok (.goto (-18), 3) := by decide +kernel
theorem dX2_run_36 : decode cX2_run 36 = .ok (.iconst 0, 1) := by decide +kernel
theorem dX2_run_37 : decode cX2_run 37 = .ok (.istore 4, 2) := by decide +kernel
theorem dX2_run_39 : decode cX2_run 39 = .ok (.iload 4, 2) := by decide +kernel
theorem dX2_run_41 : decode cX2_run 41 = .ok (.bipush 35, 2) := by decide +kernel
theorem dX2_run_43 : decode cX2_run 43 = .ok (.if_icmp .ge 17, 3) := by decide +kernel
theorem dX2_run_46 : decode cX2_run 46 = .ok (.aload_n 0, 1) := by decide +kernel
theorem dX2_run_47 : decode cX2_run 47 = .ok (.getfield 9, 3) := by decide +kernel
theorem dX2_run_50 : decode cX2_run 50 = .ok (.iload 4, 2) := by decide +kernel
theorem dX2_run_52 : decode cX2_run 52 = .ok (.iconst 0, 1) := by decide +kernel
theorem dX2_run_53 : decode cX2_run 53 = .ok (.iastore, 1) := by decide +kernel
theorem dX2_run_54 : decode cX2_run 54 = .ok (.iinc 4 1, 3) := by decide +kernel
theorem dX2_run_57 : decode cX2_run 57 = .ok (.goto (-18), 3) := by decide +kernel
theorem dX2_run_60 : decode cX2_run 60 = .ok (.iconst 0, 1) := by decide +kernel
theorem dX2_run_61 : decode cX2_run 61 = .ok (.istore 4, 2) := by decide +kernel
theorem dX2_run_63 : decode cX2_run 63 = .ok (.iload 4, 2) := by decide +kernel
theorem dX2_run_65 : decode cX2_run 65 = .ok (.aload_n 2, 1) := by decide +kernel
theorem dX2_run_66 : decode cX2_run 66 = .ok (.invokevirtual 25, 3) := by decide +kernel
theorem dX2_run_69 : decode cX2_run 69 = .ok (.if_icmp .ge 30, 3) := by decide +kernel
theorem dX2_run_72 : decode cX2_run 72 = .ok (.aload_n 2, 1) := by decide +kernel
theorem dX2_run_73 : decode cX2_run 73 = .ok (.iload 4, 2) := by decide +kernel
theorem dX2_run_75 : decode cX2_run 75 = .ok (.invokevirtual 31, 3) := by decide +kernel
theorem dX2_run_78 : decode cX2_run 78 = .ok (.istore 5, 2) := by decide +kernel
theorem dX2_run_80 : decode cX2_run 80 = .ok (.aload_n 0, 1) := by decide +kernel
theorem dX2_run_81 : decode cX2_run 81 = .ok (.aload_n 1, 1) := by decide +kernel
theorem dX2_run_82 : decode cX2_run 82 = .ok (.iload 5, 2) := by decide +kernel
theorem dX2_run_84 : decode cX2_run 84 = .ok (.aload_n 2, 1) := by decide +kernel
theorem dX2_run_85 : decode cX2_run 85 = .ok (.iload 5, 2) := by decide +kernel
theorem dX2_run_87 : decode cX2_run 87 = .ok (.invokevirtual 35, 3) := by decide +kernel
theorem dX2_run_90 : decode cX2_run 90 = .ok (.invokevirtual 38, 3) := by decide +kernel
theorem dX2_run_93 : decode cX2_run 93 = .ok (.iinc 4 1, 3) := by decide +kernel
theorem dX2_run_96 : decode cX2_run 96 = .ok (.goto (-33), 3) := by decide +kernel
theorem dX2_run_99 : decode cX2_run 99 = .ok (.iload_n 3, 1) := by decide +kernel
theorem dX2_run_100 : decode cX2_run 100 = .ok (.ireturn, 1) := by decide +kernel
set_option maxRecDepth 20000 in
theorem ggX2_letOut_X5_isCell : GoodIn wsX2_letOut wsX5_isCell := goodIn_r _ [12] (by decide +kernel) (by decide +kernel)
set_option maxRecDepth 20000 in
theorem gX2_letOut_X5_isCell_n49 : GoodIn wsX2_letOut (wsX5_isCell) := ggX2_letOut_X5_isCell
theorem dX2_letOut_0 : decode cX2_letOut 0 = .ok (.aload_n 0, 1) := by decide +kernel
theorem dX2_letOut_1 : decode cX2_letOut 1 = .ok (.getfield 42, 3) := by decide +kernel
theorem dX2_letOut_4 : decode cX2_letOut 4 = .ok (.iload_n 1, 1) := by decide +kernel
theorem dX2_letOut_5 : decode cX2_letOut 5 = .ok (.iaload, 1) := by decide +kernel
theorem dX2_letOut_6 : decode cX2_letOut 6 = .ok (.istore_n 2, 1) := by decide +kernel
theorem dX2_letOut_7 : decode cX2_letOut 7 = .ok (.aload_n 0, 1) := by decide +kernel
theorem dX2_letOut_8 : decode cX2_letOut 8 = .ok (.getfield 45, 3) := by decide +kernel
theorem dX2_letOut_11 : decode cX2_letOut 11 = .ok (.iload_n 1, 1) := by decide +kernel
theorem dX2_letOut_12 : decode cX2_letOut 12 = .ok (.baload, 1) := by decide +kernel
theorem dX2_letOut_13 : decode cX2_letOut 13 = .ok (.ifCond .eq 10, 3) := by decide +kernel
theorem dX2_letOut_16 : decode cX2_letOut 16 = .ok (.iload_n 2, 1) := by decide +kernel
theorem dX2_letOut_17 : decode cX2_letOut 17 = .ok (.invokestatic 49, 3) := by decide +kernel
theorem dX2_letOut_20 : decode cX2_letOut 20 = .ok (.ifCond .ne 5, 3) := by decide +kernel
theorem dX2_letOut_23 : decode cX2_letOut 23 = .ok (.iconst 0, 1) := by decide +kernel
theorem dX2_letOut_24 : decode cX2_letOut 24 = .ok (.ireturn, 1) := by decide +kernel
theorem dX2_letOut_25 : decode cX2_letOut 25 = .ok (.aload_n 0, 1) := by decide +kernel
theorem dX2_letOut_26 : decode cX2_letOut 26 = .ok (.getfield 53, 3) := by decide +kernel
theorem dX2_letOut_29 : decode cX2_letOut 29 = .ok (.iload_n 1, 1) := by decide +kernel
theorem dX2_letOut_30 : decode cX2_letOut 30 = .ok (.iaload, 1) := by decide +kernel
theorem dX2_letOut_31 : decode cX2_letOut 31 = .ok (.aload_n 0, 1) := by decide +kernel
theorem dX2_letOut_32 : decode cX2_letOut 32 = .ok (.getfield 56, 3) := by decide +kernel
theorem dX2_letOut_35 : decode cX2_letOut 35 = .ok (.iload_n 2, 1) := by decide +kernel
theorem dX2_letOut_36 : decode cX2_letOut 36 = .ok (.iaload, 1) := by decide +kernel
theorem dX2_letOut_37 : decode cX2_letOut 37 = .ok (.invokestatic 59, 3) := by decide +kernel
theorem dX2_letOut_40 : decode cX2_letOut 40 = .ok (.istore_n 3, 1) := by decide +kernel
theorem dX2_letOut_41 : decode cX2_letOut 41 = .ok (.aload_n 0, 1) := by decide +kernel
theorem dX2_letOut_42 : decode cX2_letOut 42 = .ok (.getfield 56, 3) := by decide +kernel
theorem dX2_letOut_45 : decode cX2_letOut 45 = .ok (.iload_n 2, 1) := by decide +kernel
theorem dX2_letOut_46 : decode cX2_letOut 46 = .ok (.dup2, 1) := by decide +kernel
theorem dX2_letOut_47 : decode cX2_letOut 47 = .ok (.iaload, 1) := by decide +kernel
theorem dX2_letOut_48 : decode cX2_letOut 48 = .ok (.iload_n 3, 1) := by decide +kernel
theorem dX2_letOut_49 : decode cX2_letOut 49 = .ok (.isub, 1) := by decide +kernel
theorem dX2_letOut_50 : decode cX2_letOut 50 = .ok (.iastore, 1) := by decide +kernel
theorem dX2_letOut_51 : decode cX2_letOut 51 = .ok (.aload_n 0, 1) := by decide +kernel
theorem dX2_letOut_52 : decode cX2_letOut 52 = .ok (.getfield 65, 3) := by decide +kernel
theorem dX2_letOut_55 : decode cX2_letOut 55 = .ok (.iload_n 1, 1) := by decide +kernel
theorem dX2_letOut_56 : decode cX2_letOut 56 = .ok (.dup2, 1) := by decide +kernel
theorem dX2_letOut_57 : decode cX2_letOut 57 = .ok (.iaload, 1) := by decide +kernel
theorem dX2_letOut_58 : decode cX2_letOut 58 = .ok (.iload_n 3, 1) := by decide +kernel
theorem dX2_letOut_59 : decode cX2_letOut 59 = .ok (.iadd, 1) := by decide +kernel
theorem dX2_letOut_60 : decode cX2_letOut 60 = .ok (.iastore, 1) := by decide +kernel
theorem dX2_letOut_61 : decode cX2_letOut 61 = .ok (.iload_n 3, 1) := by decide +kernel
theorem dX2_letOut_62 : decode cX2_letOut 62 = .ok (.ireturn, 1) := by decide +kernel
set_option maxRecDepth 20000 in
theorem ggX2_move_X5_isCell : GoodIn wsX2_move wsX5_isCell := goodIn_r _ [11] (by decide +kernel) (by decide +kernel)
set_option maxRecDepth 20000 in
theorem gX2_move_X5_isCell_n49 : GoodIn wsX2_move (wsX5_isCell) := ggX2_move_X5_isCell
set_option maxRecDepth 20000 in
theorem ggX2_move_X1_roomIn : GoodIn wsX2_move wsX1_roomIn := goodIn_r _ [16, 17, 18, 9, 10, 11, 19, 20, 21, 22, 23, 24, 25, 26, 27, 28, 29, 30] (by decide +kernel) (by decide +kernel)
set_option maxRecDepth 20000 in
theorem gX2_move_X1_roomIn : GoodIn wsX2_move (wsV RX2 68 RX1 yX1_roomIn wsX1_roomIn) := goodIn_app (goodIn_of _ (by decide +kernel)) ggX2_move_X1_roomIn
theorem dX2_move_0 : decode cX2_move 0 = .ok (.iload_n 2, 1) := by decide +kernel
theorem dX2_move_1 : decode cX2_move 1 = .ok (.invokestatic 49, 3) := by decide +kernel
theorem dX2_move_4 : decode cX2_move 4 = .ok (.ifCond .eq 10, 3) := by decide +kernel
theorem dX2_move_7 : decode cX2_move 7 = .ok (.iload_n 3, 1) := by decide +kernel
theorem dX2_move_8 : decode cX2_move 8 = .ok (.invokestatic 49, 3) := by decide +kernel
theorem dX2_move_11 : decode cX2_move 11 = .ok (.ifCond .ne 4, 3) := by decide +kernel
theorem dX2_move_14 : decode cX2_move 14 = .ok (.return_, 1) := by decide +kernel
theorem dX2_move_15 : decode cX2_move 15 = .ok (.aload_n 1, 1) := by decide +kernel
theorem dX2_move_16 : decode cX2_move 16 = .ok (.getfield 56, 3) := by decide +kernel
theorem dX2_move_19 : decode cX2_move 19 = .ok (.iload_n 2, 1) := by decide +kernel
theorem dX2_move_20 : decode cX2_move 20 = .ok (.iaload, 1) := by decide +kernel
theorem dX2_move_21 : decode cX2_move 21 = .ok (.aload_n 0, 1) := by decide +kernel
theorem dX2_move_22 : decode cX2_move 22 = .ok (.getfield 9, 3) := by decide +kernel
theorem dX2_move_25 : decode cX2_move 25 = .ok (.iload_n 2, 1) := by decide +kernel
theorem dX2_move_26 : decode cX2_move 26 = .ok (.iaload, 1) := by decide +kernel
theorem dX2_move_27 : decode cX2_move 27 = .ok (.isub, 1) := by decide +kernel
theorem dX2_move_28 : decode cX2_move 28 = .ok (.istore 4, 2) := by decide +kernel
theorem dX2_move_30 : decode cX2_move 30 = .ok (.iload 4, 2) := by decide +kernel
theorem dX2_move_32 : decode cX2_move 32 = .ok (.aload_n 1, 1) := by decide +kernel
theorem dX2_move_33 : decode cX2_move 33 = .ok (.iload_n 3, 1) := by decide +kernel
theorem dX2_move_34 : decode cX2_move 34 = .ok (.invokevirtual 68, 3) := by decide +kernel
theorem dX2_move_37 : decode cX2_move 37 = .ok (.invokestatic 59, 3) := by decide +kernel
theorem dX2_move_40 : decode cX2_move 40 = .ok (.istore 5, 2) := by decide +kernel
theorem dX2_move_42 : decode cX2_move 42 = .ok (.aload_n 1, 1) := by decide +kernel
theorem dX2_move_43 : decode cX2_move 43 = .ok (.getfield 56, 3) := by decide +kernel
theorem dX2_move_46 : decode cX2_move 46 = .ok (.iload_n 2, 1) := by decide +kernel
theorem dX2_move_47 : decode cX2_move 47 = .ok (.dup2, 1) := by decide +kernel
theorem dX2_move_48 : decode cX2_move 48 = .ok (.iaload, 1) := by decide +kernel
theorem dX2_move_49 : decode cX2_move 49 = .ok (.iload 5, 2) := by decide +kernel
theorem dX2_move_51 : decode cX2_move 51 = .ok (.isub, 1) := by decide +kernel
theorem dX2_move_52 : decode cX2_move 52 = .ok (.iastore, 1) := by decide +kernel
theorem dX2_move_53 : decode cX2_move 53 = .ok (.aload_n 1, 1) := by decide +kernel
theorem dX2_move_54 : decode cX2_move 54 = .ok (.getfield 56, 3) := by decide +kernel
theorem dX2_move_57 : decode cX2_move 57 = .ok (.iload_n 3, 1) := by decide +kernel
theorem dX2_move_58 : decode cX2_move 58 = .ok (.dup2, 1) := by decide +kernel
theorem dX2_move_59 : decode cX2_move 59 = .ok (.iaload, 1) := by decide +kernel
theorem dX2_move_60 : decode cX2_move 60 = .ok (.iload 5, 2) := by decide +kernel
theorem dX2_move_62 : decode cX2_move 62 = .ok (.iadd, 1) := by decide +kernel
theorem dX2_move_63 : decode cX2_move 63 = .ok (.iastore, 1) := by decide +kernel
theorem dX2_move_64 : decode cX2_move 64 = .ok (.aload_n 0, 1) := by decide +kernel
theorem dX2_move_65 : decode cX2_move 65 = .ok (.getfield 9, 3) := by decide +kernel
theorem dX2_move_68 : decode cX2_move 68 = .ok (.iload_n 3, 1) := by decide +kernel
theorem dX2_move_69 : decode cX2_move 69 = .ok (.dup2, 1) := by decide +kernel
theorem dX2_move_70 : decode cX2_move 70 = .ok (.iaload, 1) := by decide +kernel
theorem dX2_move_71 : decode cX2_move 71 = .ok (.iload 5, 2) := by decide +kernel
theorem dX2_move_73 : decode cX2_move 73 = .ok (.iadd, 1) := by decide +kernel
theorem dX2_move_74 : decode cX2_move 74 = .ok (.iastore, 1) := by decide +kernel
theorem dX2_move_75 : decode cX2_move 75 = .ok (.iload 5, 2) := by decide +kernel
theorem dX2_move_77 : decode cX2_move 77 = .ok (.iload 4, 2) := by decide +kernel
theorem dX2_move_79 : decode cX2_move 79 = .ok (.if_icmp .ge 27, 3) := by decide +kernel
theorem dX2_move_82 : decode cX2_move 82 = .ok (.aload_n 1, 1) := by decide +kernel
theorem dX2_move_83 : decode cX2_move 83 = .ok (.dup, 1) := by decide +kernel
theorem dX2_move_84 : decode cX2_move 84 = .ok (.getfield 71, 3) := by decide +kernel
theorem dX2_move_87 : decode cX2_move 87 = .ok (.iconst 1, 1) := by decide +kernel
theorem dX2_move_88 : decode cX2_move 88 = .ok (.iadd, 1) := by decide +kernel
theorem dX2_move_89 : decode cX2_move 89 = .ok (.putfield 71, 3) := by decide +kernel
theorem dX2_move_92 : decode cX2_move 92 = .ok (.aload_n 1, 1) := by decide +kernel
theorem dX2_move_93 : decode cX2_move 93 = .ok (.dup, 1) := by decide +kernel
theorem dX2_move_94 : decode cX2_move 94 = .ok (.getfield 74, 3) := by decide +kernel
theorem dX2_move_97 : decode cX2_move 97 = .ok (.iload 4, 2) := by decide +kernel
theorem dX2_move_99 : decode cX2_move 99 = .ok (.iload 5, 2) := by decide +kernel
theorem dX2_move_101 : decode cX2_move 101 = .ok (.isub, 1) := by decide +kernel
theorem dX2_move_102 : decode cX2_move 102 = .ok (.iadd, 1) := by decide +kernel
theorem dX2_move_103 : decode cX2_move 103 = .ok (.putfield 74, 3) := by decide +kernel
theorem dX2_move_106 : decode cX2_move 106 = .ok (.return_, 1) := by decide +kernel
theorem dX3_init_0 : decode cX3_init 0 = .ok (.aload_n 0, 1) := by decide +kernel
theorem dX3_init_1 : decode cX3_init 1 = .ok (.invokespecial 3, 3) := by decide +kernel
theorem dX3_init_4 : decode cX3_init 4 = .ok (.aload_n 0, 1) := by decide +kernel
theorem dX3_init_5 : decode cX3_init 5 = .ok (.bipush 60, 2) := by decide +kernel
theorem dX3_init_7 : decode cX3_init 7 = .ok (.newarray .int, 2) := by decide +kernel
theorem dX3_init_9 : decode cX3_init 9 = .ok (.putfield 9, 3) := by decide +kernel
theorem dX3_init_12 : decode cX3_init 12 = .ok (.return_, 1) := by decide +kernel
theorem dX3_append_0 : decode cX3_append 0 = .ok (.aload_n 0, 1) := by decide +kernel
theorem dX3_append_1 : decode cX3_append 1 = .ok (.getfield 15, 3) := by decide +kernel
theorem dX3_append_4 : decode cX3_append 4 = .ok (.ifCond .lt 32, 3) := by decide +kernel
theorem dX3_append_7 : decode cX3_append 7 = .ok (.aload_n 0, 1) := by decide +kernel
theorem dX3_append_8 : decode cX3_append 8 = .ok (.getfield 15, 3) := by decide +kernel
theorem dX3_append_11 : decode cX3_append 11 = .ok (.bipush 60, 2) := by decide +kernel
theorem dX3_append_13 : decode cX3_append 13 = .ok (.if_icmp .ge 23, 3) := by decide +kernel
theorem dX3_append_16 : decode cX3_append 16 = .ok (.aload_n 0, 1) := by decide +kernel
theorem dX3_append_17 : decode cX3_append 17 = .ok (.getfield 9, 3) := by decide +kernel
theorem dX3_append_20 : decode cX3_append 20 = .ok (.aload_n 0, 1) := by decide +kernel
theorem dX3_append_21 : decode cX3_append 21 = .ok (.getfield 15, 3) := by decide +kernel
theorem dX3_append_24 : decode cX3_append 24 = .ok (.iload_n 1, 1) := by decide +kernel
theorem dX3_append_25 : decode cX3_append 25 = .ok (.iastore, 1) := by decide +kernel
theorem dX3_append_26 : decode cX3_append 26 = .ok (.aload_n 0, 1) := by decide +kernel
theorem dX3_append_27 : decode cX3_append 27 = .ok (.dup, 1) := by decide +kernel
theorem dX3_append_28 : decode cX3_append 28 = .ok (.getfield 15, 3) := by decide +kernel
theorem dX3_append_31 : decode cX3_append 31 = .ok (.iconst 1, 1) := by decide +kernel
theorem dX3_append_32 : decode cX3_append 32 = .ok (.iadd, 1) := by decide +kernel
theorem dX3_append_33 : decode cX3_append 33 = .ok (.putfield 15, 3) := by decide +kernel
theorem dX3_append_36 : decode cX3_append 36 = .ok (.return_, 1) := by decide +kernel
set_option maxRecDepth 20000 in
theorem ggX3_firstFault_X3_codeAt : GoodIn wsX3_firstFault wsX3_codeAt := goodIn_r _ [6, 1, 7, 14, 15] (by decide +kernel) (by decide +kernel)
set_option maxRecDepth 20000 in
theorem gX3_firstFault_X3_codeAt : GoodIn wsX3_firstFault (wsV RX3 19 RX3 yX3_codeAt wsX3_codeAt) := goodIn_app (goodIn_of _ (by decide +kernel)) ggX3_firstFault_X3_codeAt
set_option maxRecDepth 20000 in
theorem ggX3_firstFault_X3_placeBehind : GoodIn wsX3_firstFault wsX3_placeBehind := goodIn_r _ [10, 11, 12, 5, 13] (by decide +kernel) (by decide +kernel)
set_option maxRecDepth 20000 in
theorem gX3_firstFault_X3_placeBehind : GoodIn wsX3_firstFault (va_wsS RX3 23 yX3_placeBehind wsX3_placeBehind) := goodIn_app (goodIn_of _ (by decide +kernel)) ggX3_firstFault_X3_placeBehind
theorem dX3_firstFault_0 : decode cX3_firstFault 0 = .ok (.iconst 0, 1) := by decide +kernel
theorem dX3_firstFault_1 : decode cX3_firstFault 1 = .ok (.istore_n 1, 1) := by decide +kernel
theorem dX3_firstFault_2 : decode cX3_firstFault 2 = .ok (.iconst 0, 1) := by decide +kernel
theorem dX3_firstFault_3 : decode cX3_firstFault 3 = .ok (.istore_n 2, 1) := by decide +kernel
theorem dX3_firstFault_4 : decode cX3_firstFault 4 = .ok (.iload_n 2, 1) := by decide +kernel
theorem dX3_firstFault_5 : decode cX3_firstFault 5 = .ok (.aload_n 0, 1) := by decide +kernel
theorem dX3_firstFault_6 : decode cX3_firstFault 6 = .ok (.getfield 15, 3) := by decide +kernel
theorem dX3_firstFault_9 : decode cX3_firstFault 9 = .ok (.if_icmp .ge 27, 3) := by decide +kernel
theorem dX3_firstFault_12 : decode cX3_firstFault 12 = .ok (.iload_n 1, 1) := by decide +kernel
theorem dX3_firstFault_13 : decode cX3_firstFault 13 = .ok (.aload_n 0, 1) := by decide +kernel
theorem dX3_firstFault_14 : decode cX3_firstFault 14 = .ok (.iload_n 2, 1) := by decide +kernel
theorem dX3_firstFault_15 : decode cX3_firstFault 15 = .ok (.invokevirtual 19, 3) := by decide +kernel
theorem dX3_firstFault_18 : decode cX3_firstFault 18 = .ok (.invokestatic 23, 3) := by decide +kernel
theorem dX3_firstFault_21 : decode cX3_firstFault 21 = .ok (.istore_n 1, 1) := by decide +kernel
theorem dX3_firstFault_22 : decode cX3_firstFault 22 = .ok (.iload_n 1, 1) := by decide +kernel
theorem dX3_firstFault_23 : decode cX3_firstFault 23 = .ok (.bipush (-6), 2) := by decide +kernel
theorem dX3_firstFault_25 : decode cX3_firstFault 25 = .ok (.if_icmp .ne 5, 3) := by decide +kernel
theorem dX3_firstFault_28 : decode cX3_firstFault 28 = .ok (.iload_n 2, 1) := by decide +kernel
theorem dX3_firstFault_29 : decode cX3_firstFault 29 = .ok (.ireturn, 1) := by decide +kernel
theorem dX3_firstFault_30 : decode cX3_firstFault 30 = .ok (.iinc 2 1, 3) := by decide +kernel
theorem dX3_firstFault_33 : decode cX3_firstFault 33 = .ok (.goto (-29), 3) := by decide +kernel
theorem dX3_firstFault_36 : decode cX3_firstFault 36 = .ok (.iload_n 1, 1) := by decide +kernel
theorem dX3_firstFault_37 : decode cX3_firstFault 37 = .ok (.iconst 4, 1) := by decide +kernel
theorem dX3_firstFault_38 : decode cX3_firstFault 38 = .ok (.if_icmp .lt 8, 3) := by decide +kernel
theorem dX3_firstFault_41 : decode cX3_firstFault 41 = .ok (.bipush (-6), 2) := by decide +kernel
theorem dX3_firstFault_43 : decode cX3_firstFault 43 = .ok (.goto 7, 3) := by decide +kernel
theorem dX3_firstFault_46 : decode cX3_firstFault 46 = .ok (.aload_n 0, 1) := by decide +kernel
theorem dX3_firstFault_47 : decode cX3_firstFault 47 = .ok (.getfield 15, 3) := by decide +kernel
theorem dX3_firstFault_50 : decode cX3_firstFault 50 = .ok (.ireturn, 1) := by decide +kernel
set_option maxRecDepth 20000 in
theorem ggX3_letCrowdsIn_X3_codeAt : GoodIn wsX3_letCrowdsIn wsX3_codeAt := goodIn_r _ [6, 1, 7, 31, 32] (by decide +kernel) (by decide +kernel)
set_option maxRecDepth 20000 in
theorem gX3_letCrowdsIn_X3_codeAt : GoodIn wsX3_letCrowdsIn (wsV RX3 19 RX3 yX3_codeAt wsX3_codeAt) := goodIn_app (goodIn_of _ (by decide +kernel)) ggX3_letCrowdsIn_X3_codeAt
set_option maxRecDepth 20000 in
theorem ggX3_letCrowdsIn_X3_letCrowdIn : GoodIn wsX3_letCrowdsIn wsX3_letCrowdIn := goodIn_r _ [11, 12, 13, 14, 15, 2, 3, 4, 5, 6, 1, 7, 16, 17, 18, 19, 20, 21, 22, 23, 24, 25, 26, 27, 28, 29, 30, 31, 32, 33, 34, 35, 36, 37, 38, 39, 40, 41, 42, 43, 44] (by decide +kernel) (by decide +kernel)
set_option maxRecDepth 20000 in
theorem gX3_letCrowdsIn_X3_letCrowdIn : GoodIn wsX3_letCrowdsIn (wsV RX3 27 RX3 yX3_letCrowdIn wsX3_letCrowdIn) := goodIn_app (goodIn_of _ (by decide +kernel)) ggX3_letCrowdsIn_X3_letCrowdIn
theorem dX3_letCrowdsIn_0 : decode cX3_letCrowdsIn 0 = .ok (.iconst 0, 1) := by decide +kernel
theorem dX3_letCrowdsIn_1 : decode cX3_letCrowdsIn 1 = .ok (.istore_n 2, 1) := by decide +kernel
theorem dX3_letCrowdsIn_2 : decode cX3_letCrowdsIn 2 = .ok (.iconst 1, 1) := by decide +kernel
theorem dX3_letCrowdsIn_3 : decode cX3_letCrowdsIn 3 = .ok (.istore_n 3, 1) := by decide +kernel
theorem dX3_letCrowdsIn_4 : decode cX3_letCrowdsIn 4 = .ok (.iload_n 3, 1) := by decide +kernel
theorem dX3_letCrowdsIn_5 : decode cX3_letCrowdsIn 5 = .ok (.aload_n 0, 1) := by decide +kernel
theorem dX3_letCrowdsIn_6 : decode cX3_letCrowdsIn 6 = .ok (.getfield 15, 3) := by decide +kernel
theorem dX3_letCrowdsIn_9 : decode cX3_letCrowdsIn 9 = .ok (.if_icmp .gt 38, 3) := by decide +kernel
theorem dX3_letCrowdsIn_12 : decode cX3_letCrowdsIn 12 = .ok (.iload_n 3, 1) := by decide +kernel
theorem dX3_letCrowdsIn_13 : decode cX3_letCrowdsIn 13 = .ok (.aload_n 0, 1) := by decide +kernel
theorem dX3_letCrowdsIn_14 : decode cX3_letCrowdsIn 14 = .ok (.getfield 15, 3) := by decide +kernel
theorem dX3_letCrowdsIn_17 : decode cX3_letCrowdsIn 17 = .ok (.if_icmp .eq 13, 3) := by decide +kernel
theorem dX3_letCrowdsIn_20 : decode cX3_letCrowdsIn 20 = .ok (.aload_n 0, 1) := by decide +kernel
theorem dX3_letCrowdsIn_21 : decode cX3_letCrowdsIn 21 = .ok (.iload_n 3, 1) := by decide +kernel
theorem dX3_letCrowdsIn_22 : decode cX3_letCrowdsIn 22 = .ok (.invokevirtual 19, 3) := by decide +kernel
theorem dX3_letCrowdsIn_25 : decode cX3_letCrowdsIn 25 = .ok (.bipush 44, 2) := by decide +kernel
theorem dX3_letCrowdsIn_27 : decode cX3_letCrowdsIn 27 = .ok (.if_icmp .ne 14, 3) := by decide +kernel
theorem dX3_letCrowdsIn_30 : decode cX3_letCrowdsIn 30 = .ok (.aload_n 0, 1) := by decide +kernel
theorem dX3_letCrowdsIn_31 : decode cX3_letCrowdsIn 31 = .ok (.aload_n 1, 1) := by decide +kernel
theorem dX3_letCrowdsIn_32 : decode cX3_letCrowdsIn 32 = .ok (.iload_n 2, 1) := by decide +kernel
theorem dX3_letCrowdsIn_33 : decode cX3_letCrowdsIn 33 = .ok (.iload_n 3, 1) := by decide +kernel
theorem dX3_letCrowdsIn_34 : decode cX3_letCrowdsIn 34 = .ok (.invokevirtual 27, 3) := by decide +kernel
theorem dX3_letCrowdsIn_37 : decode cX3_letCrowdsIn 37 = .ok (.iload_n 3, 1) := by decide +kernel
theorem dX3_letCrowdsIn_38 : decode cX3_letCrowdsIn 38 = .ok (.iconst 1, 1) := by decide +kernel
theorem dX3_letCrowdsIn_39 : decode cX3_letCrowdsIn 39 = .ok (.iadd, 1) := by decide +kernel
theorem dX3_letCrowdsIn_40 : decode cX3_letCrowdsIn 40 = .ok (.istore_n 2, 1) := by decide +kernel
theorem dX3_letCrowdsIn_41 : decode cX3_letCrowdsIn 41 = .ok (.iinc 3 1, 3) := by decide +kernel
theorem dX3_letCrowdsIn_44 : decode cX3_letCrowdsIn 44 = .ok (.goto (-40), 3) := by decide +kernel
theorem dX3_letCrowdsIn_47 : decode cX3_letCrowdsIn 47 = .ok (.return_, 1) := by decide +kernel
set_option maxRecDepth 20000 in
theorem ggX3_letCrowdIn_X3_codeAt : GoodIn wsX3_letCrowdIn wsX3_codeAt := goodIn_r _ [9, 10, 11, 27, 28] (by decide +kernel) (by decide +kernel)
set_option maxRecDepth 20000 in
theorem gX3_letCrowdIn_X3_codeAt : GoodIn wsX3_letCrowdIn (wsV RX3 19 RX3 yX3_codeAt wsX3_codeAt) := goodIn_app (goodIn_of _ (by decide +kernel)) ggX3_letCrowdIn_X3_codeAt
set_option maxRecDepth 20000 in
theorem ggX3_letCrowdIn_X1_roomIn : GoodIn wsX3_letCrowdIn wsX1_roomIn := goodIn_r _ [16, 17, 18, 19, 20, 21, 29, 30, 31, 32, 33, 34, 35, 36, 37, 38, 39, 40] (by decide +kernel) (by decide +kernel)
set_option maxRecDepth 20000 in
theorem gX3_letCrowdIn_X1_roomIn : GoodIn wsX3_letCrowdIn (wsV RX3 31 RX1 yX1_roomIn wsX1_roomIn) := goodIn_app (goodIn_of _ (by decide +kernel)) ggX3_letCrowdIn_X1_roomIn
set_option maxRecDepth 20000 in
theorem ggX3_letCrowdIn_X1_letIn : GoodIn wsX3_letCrowdIn wsX1_letIn := goodIn_r _ [25, 18, 26, 19, 20, 21, 29, 30, 31, 32, 33, 34, 35, 36, 37, 38, 39, 40] (by decide +kernel) (by decide +kernel)
set_option maxRecDepth 20000 in
theorem gX3_letCrowdIn_X1_letIn : GoodIn wsX3_letCrowdIn (wsV RX3 41 RX1 yX1_letIn wsX1_letIn) := goodIn_app (goodIn_of _ (by decide +kernel)) ggX3_letCrowdIn_X1_letIn
theorem dX3_letCrowdIn_0 : decode cX3_letCrowdIn 0 = .ok (.aload_n 0, 1) := by decide +kernel
theorem dX3_letCrowdIn_1 : decode cX3_letCrowdIn 1 = .ok (.iload_n 2, 1) := by decide +kernel
theorem dX3_letCrowdIn_2 : decode cX3_letCrowdIn 2 = .ok (.invokevirtual 19, 3) := by decide +kernel
theorem dX3_letCrowdIn_5 : decode cX3_letCrowdIn 5 = .ok (.bipush 97, 2) := by decide +kernel
theorem dX3_letCrowdIn_7 : decode cX3_letCrowdIn 7 = .ok (.isub, 1) := by decide +kernel
theorem dX3_letCrowdIn_8 : decode cX3_letCrowdIn 8 = .ok (.bipush 7, 2) := by decide +kernel
theorem dX3_letCrowdIn_10 : decode cX3_letCrowdIn 10 = .ok (.aload_n 0, 1) := by decide +kernel
theorem dX3_letCrowdIn_11 : decode cX3_letCrowdIn 11 = .ok (.iload_n 2, 1) := by decide +kernel
theorem dX3_letCrowdIn_12 : decode cX3_letCrowdIn 12 = .ok (.iconst 1, 1) := by decide +kernel
theorem dX3_letCrowdIn_13 : decode cX3_letCrowdIn 13 = .ok (.iadd, 1) := by decide +kernel
theorem dX3_letCrowdIn_14 : decode cX3_letCrowdIn 14 = .ok (.invokevirtual 19, 3) := by decide +kernel
theorem dX3_letCrowdIn_17 : decode cX3_letCrowdIn 17 = .ok (.bipush 49, 2) := by decide +kernel
theorem dX3_letCrowdIn_19 : decode cX3_letCrowdIn 19 = .ok (.isub, 1) := by decide +kernel
theorem dX3_letCrowdIn_20 : decode cX3_letCrowdIn 20 = .ok (.imul, 1) := by decide +kernel
theorem dX3_letCrowdIn_21 : decode cX3_letCrowdIn 21 = .ok (.iadd, 1) := by decide +kernel
theorem dX3_letCrowdIn_22 : decode cX3_letCrowdIn 22 = .ok (.istore 4, 2) := by decide +kernel
theorem dX3_letCrowdIn_24 : decode cX3_letCrowdIn 24 = .ok (.aload_n 0, 1) := by decide +kernel
theorem dX3_letCrowdIn_25 : decode cX3_letCrowdIn 25 = .ok (.iload_n 2, 1) := by decide +kernel
theorem dX3_letCrowdIn_26 : decode cX3_letCrowdIn 26 = .ok (.iconst 3, 1) := by decide +kernel
theorem dX3_letCrowdIn_27 : decode cX3_letCrowdIn 27 = .ok (.iadd, 1) := by decide +kernel
theorem dX3_letCrowdIn_28 : decode cX3_letCrowdIn 28 = .ok (.invokevirtual 19, 3) := by decide +kernel
theorem dX3_letCrowdIn_31 : decode cX3_letCrowdIn 31 = .ok (.bipush 48, 2) := by decide +kernel
theorem dX3_letCrowdIn_33 : decode cX3_letCrowdIn 33 = .ok (.isub, 1) := by decide +kernel
theorem dX3_letCrowdIn_34 : decode cX3_letCrowdIn 34 = .ok (.istore 5, 2) := by decide +kernel
theorem dX3_letCrowdIn_36 : decode cX3_letCrowdIn 36 = .ok (.iload_n 2, 1) := by decide +kernel
theorem dX3_letCrowdIn_37 : decode cX3_letCrowdIn 37 = .ok (.iconst 4, 1) := by decide +kernel
theorem dX3_letCrowdIn_38 : decode cX3_letCrowdIn 38 = .ok (.iadd, 1) := by decide +kernel
theorem dX3_letCrowdIn_39 : decode cX3_letCrowdIn 39 = .ok (.iload_n 3, 1) := by decide +kernel
theorem dX3_letCrowdIn_40 : decode cX3_letCrowdIn 40 = .ok (.if_icmp .ge 21, 3) := by decide +kernel
theorem dX3_letCrowdIn_43 : decode cX3_letCrowdIn 43 = .ok (.bipush 10, 2) := by decide +kernel
theorem dX3_letCrowdIn_45 : decode cX3_letCrowdIn 45 = .ok (.iload 5, 2) := by decide +kernel
theorem dX3_letCrowdIn_47 : decode cX3_letCrowdIn 47 = .ok (.imul, 1) := by decide +kernel
theorem dX3_letCrowdIn_48 : decode cX3_letCrowdIn 48 = .ok (.aload_n 0, 1) := by decide +kernel
theorem dX3_letCrowdIn_49 : decode cX3_letCrowdIn 49 = .ok (.iload_n 2, 1) := by decide +kernel
theorem dX3_letCrowdIn_50 : decode cX3_letCrowdIn 50 = .ok (.iconst 4, 1) := by decide +kernel
theorem dX3_letCrowdIn_51 : decode cX3_letCrowdIn 51 = .ok (.iadd, 1) := by decide +kernel
theorem dX3_letCrowdIn_52 : decode cX3_letCrowdIn 52 = .ok (.invokevirtual 19, 3) := by decide +kernel
theorem dX3_letCrowdIn_55 : decode cX3_letCrowdIn 55 = .ok (.iadd, 1) := by decide +kernel
theorem dX3_letCrowdIn_56 : decode cX3_letCrowdIn 56 = .ok (.bipush 48, 2) := by decide +kernel
theorem dX3_letCrowdIn_58 : decode cX3_letCrowdIn 58 = .ok (.isub, 1) := by decide +kernel
theorem dX3_letCrowdIn_59 : decode cX3_letCrowdIn 59 = .ok (.istore 5, 2) := by decide +kernel
theorem dX3_letCrowdIn_61 : decode cX3_letCrowdIn 61 = .ok (.aload_n 1, 1) := by decide +kernel
theorem dX3_letCrowdIn_62 : decode cX3_letCrowdIn 62 = .ok (.iload 4, 2) := by decide +kernel
theorem dX3_letCrowdIn_64 : decode cX3_letCrowdIn 64 = .ok (.iload 5, 2) := by decide +kernel
theorem dX3_letCrowdIn_66 : decode cX3_letCrowdIn 66 = .ok (.aload_n 1, 1) := by decide +kernel
theorem dX3_letCrowdIn_67 : decode cX3_letCrowdIn 67 = .ok (.iload 4, 2) := by decide +kernel
theorem dX3_letCrowdIn_69 : decode cX3_letCrowdIn 69 = .ok (.invokevirtual 31, 3) := by decide +kernel
theorem dX3_letCrowdIn_72 : decode cX3_letCrowdIn 72 = .ok (.invokestatic 36, 3) := by decide +kernel
theorem dX3_letCrowdIn_75 : decode cX3_letCrowdIn 75 = .ok (.invokevirtual 41, 3) := by decide +kernel
theorem dX3_letCrowdIn_78 : decode cX3_letCrowdIn 78 = .ok (.return_, 1) := by decide +kernel
theorem dX3_codeAt_0 : decode cX3_codeAt 0 = .ok (.iload_n 1, 1) := by decide +kernel
theorem dX3_codeAt_1 : decode cX3_codeAt 1 = .ok (.ifCond .lt 26, 3) := by decide +kernel
theorem dX3_codeAt_4 : decode cX3_codeAt 4 = .ok (.iload_n 1, 1) := by decide +kernel
theorem dX3_codeAt_5 : decode cX3_codeAt 5 = .ok (.aload_n 0, 1) := by decide +kernel
theorem dX3_codeAt_6 : decode cX3_codeAt 6 = .ok (.getfield 15, 3) := by decide +kernel
theorem dX3_codeAt_9 : decode cX3_codeAt 9 = .ok (.if_icmp .ge 18, 3) := by decide +kernel
theorem dX3_codeAt_12 : decode cX3_codeAt 12 = .ok (.iload_n 1, 1) := by decide +kernel
theorem dX3_codeAt_13 : decode cX3_codeAt 13 = .ok (.bipush 60, 2) := by decide +kernel
theorem dX3_codeAt_15 : decode cX3_codeAt 15 = .ok (.if_icmp .ge 12, 3) := by decide +kernel
theorem dX3_codeAt_18 : decode cX3_codeAt 18 = .ok (.aload_n 0, 1) := by decide +kernel
theorem dX3_codeAt_19 : decode cX3_codeAt 19 = .ok (.getfield 9, 3) := by decide +kernel
theorem dX3_codeAt_22 : decode cX3_codeAt 22 = .ok (.iload_n 1, 1) := by decide +kernel
theorem dX3_codeAt_23 : decode cX3_codeAt 23 = .ok (.iaload, 1) := by decide +kernel
theorem dX3_codeAt_24 : decode cX3_codeAt 24 = .ok (.goto 4, 3) := by decide +kernel
theorem dX3_codeAt_27 : decode cX3_codeAt 27 = .ok (.iconst 0, 1) := by decide +kernel
theorem dX3_codeAt_28 : decode cX3_codeAt 28 = .ok (.ireturn, 1) := by decide +kernel
set_option maxRecDepth 20000 in
theorem ggX3_placeBehind_X3_placeBehindFirstDigit : GoodIn wsX3_placeBehind wsX3_placeBehindFirstDigit := goodIn_r _ [4] (by decide +kernel) (by decide +kernel)
set_option maxRecDepth 20000 in
theorem gX3_placeBehind_X3_placeBehindFirstDigit : GoodIn wsX3_placeBehind (va_wsS RX3 45 yX3_placeBehindFirstDigit wsX3_placeBehindFirstDigit) := goodIn_app (goodIn_of _ (by decide +kernel)) ggX3_placeBehind_X3_placeBehindFirstDigit
theorem dX3_placeBehind_0 : decode cX3_placeBehind 0 = .ok (.iload_n 0, 1) := by decide +kernel
theorem dX3_placeBehind_1 : decode cX3_placeBehind 1 = .ok (.tableswitch 87 0 3 #[31, 50, 69, 82], 31) := by decide +kernel
theorem dX3_placeBehind_32 : decode cX3_placeBehind 32 = .ok (.iload_n 1, 1) := by decide +kernel
theorem dX3_placeBehind_33 : decode cX3_placeBehind 33 = .ok (.bipush 97, 2) := by decide +kernel
theorem dX3_placeBehind_35 : decode cX3_placeBehind 35 = .ok (.if_icmp .lt 13, 3) := by decide +kernel
theorem dX3_placeBehind_38 : decode cX3_placeBehind 38 = .ok (.iload_n 1, 1) := by decide +kernel
theorem dX3_placeBehind_39 : decode cX3_placeBehind 39 = .ok (.bipush 103, 2) := by decide +kernel
theorem dX3_placeBehind_41 : decode cX3_placeBehind 41 = .ok (.if_icmp .gt 7, 3) := by decide +kernel
theorem dX3_placeBehind_44 : decode cX3_placeBehind 44 = .ok (.iconst 1, 1) := by decide +kernel
theorem dX3_placeBehind_45 : decode cX3_placeBehind 45 = .ok (.goto 5, 3) := by decide +kernel
theorem dX3_placeBehind_48 : decode cX3_placeBehind 48 = .ok (.bipush (-6), 2) := by decide +kernel
theorem dX3_placeBehind_50 : decode cX3_placeBehind 50 = .ok (.ireturn, 1) := by decide +kernel
theorem dX3_placeBehind_51 : decode cX3_placeBehind 51 = .ok (.iload_n 1, 1) := by decide +kernel
theorem dX3_placeBehind_52 : decode cX3_placeBehind 52 = .ok (.bipush 49, 2) := by decide +kernel
theorem dX3_placeBehind_54 : decode cX3_placeBehind 54 = .ok (.if_icmp .lt 13, 3) := by decide +kernel
theorem dX3_placeBehind_57 : decode cX3_placeBehind 57 = .ok (.iload_n 1, 1) := by decide +kernel
theorem dX3_placeBehind_58 : decode cX3_placeBehind 58 = .ok (.bipush 53, 2) := by decide +kernel
theorem dX3_placeBehind_60 : decode cX3_placeBehind 60 = .ok (.if_icmp .gt 7, 3) := by decide +kernel
theorem dX3_placeBehind_63 : decode cX3_placeBehind 63 = .ok (.iconst 2, 1) := by decide +kernel
theorem dX3_placeBehind_64 : decode cX3_placeBehind 64 = .ok (.goto 5, 3) := by decide +kernel
theorem dX3_placeBehind_67 : decode cX3_placeBehind 67 = .ok (.bipush (-6), 2) := by decide +kernel
theorem dX3_placeBehind_69 : decode cX3_placeBehind 69 = .ok (.ireturn, 1) := by decide +kernel
theorem dX3_placeBehind_70 : decode cX3_placeBehind 70 = .ok (.iload_n 1, 1) := by decide +kernel
theorem dX3_placeBehind_71 : decode cX3_placeBehind 71 = .ok (.bipush 58, 2) := by decide +kernel
theorem dX3_placeBehind_73 : decode cX3_placeBehind 73 = .ok (.if_icmp .ne 7, 3) := by decide +kernel
theorem dX3_placeBehind_76 : decode cX3_placeBehind 76 = .ok (.iconst 3, 1) := by decide +kernel
theorem dX3_placeBehind_77 : decode cX3_placeBehind 77 = .ok (.goto 5, 3) := by decide +kernel
theorem dX3_placeBehind_80 : decode cX3_placeBehind 80 = .ok (.bipush (-6), 2) := by decide +kernel
theorem dX3_placeBehind_82 : decode cX3_placeBehind 82 = .ok (.ireturn, 1) := by decide +kernel
theorem dX3_placeBehind_83 : decode cX3_placeBehind 83 = .ok (.iload_n 1, 1) := by decide +kernel
theorem dX3_placeBehind_84 : decode cX3_placeBehind 84 = .ok (.invokestatic 45, 3) := by decide +kernel
theorem dX3_placeBehind_87 : decode cX3_placeBehind 87 = .ok (.ireturn, 1) := by decide +kernel
theorem dX3_placeBehind_88 : decode cX3_placeBehind 88 = .ok (.iload_n 1, 1) := by decide +kernel
theorem dX3_placeBehind_89 : decode cX3_placeBehind 89 = .ok (.bipush 44, 2) := by decide +kernel
theorem dX3_placeBehind_91 : decode cX3_placeBehind 91 = .ok (.if_icmp .ne 5, 3) := by decide +kernel
theorem dX3_placeBehind_94 : decode cX3_placeBehind 94 = .ok (.iconst 0, 1) := by decide +kernel
theorem dX3_placeBehind_95 : decode cX3_placeBehind 95 = .ok (.ireturn, 1) := by decide +kernel
theorem dX3_placeBehind_96 : decode cX3_placeBehind 96 = .ok (.iload_n 0, 1) := by decide +kernel
theorem dX3_placeBehind_97 : decode cX3_placeBehind 97 = .ok (.iconst 4, 1) := by decide +kernel
theorem dX3_placeBehind_98 : decode cX3_placeBehind 98 = .ok (.if_icmp .ne 23, 3) := by decide +kernel
theorem dX3_placeBehind_101 : decode cX3_placeBehind 101 = .ok (.iload_n 1, 1) := by decide +kernel
theorem dX3_placeBehind_102 : decode cX3_placeBehind 102 = .ok (.bipush 48, 2) := by decide +kernel
theorem dX3_placeBehind_104 : decode cX3_placeBehind 104 = .ok (.if_icmp .lt 13, 3) := by decide +kernel
theorem dX3_placeBehind_107 : decode cX3_placeBehind 107 = .ok (.iload_n 1, 1) := by decide +kernel
theorem dX3_placeBehind_108 : decode cX3_placeBehind 108 = .ok (.bipush 57, 2) := by decide +kernel
theorem dX3_placeBehind_110 : decode cX3_placeBehind 110 = .ok (.if_icmp .gt 7, 3) := by decide +kernel
theorem dX3_placeBehind_113 : decode cX3_placeBehind 113 = .ok (.iconst 1, 1) := by decide +kernel
theorem dX3_placeBehind_114 : decode cX3_placeBehind 114 = .ok (.goto 23, 3) := by decide +kernel
theorem dX3_placeBehind_117 : decode cX3_placeBehind 117 = .ok (.iconst 0, 1) := by decide +kernel
theorem dX3_placeBehind_118 : decode cX3_placeBehind 118 = .ok (.goto 19, 3) := by decide +kernel
theorem dX3_placeBehind_121 : decode cX3_placeBehind 121 = .ok (.iload_n 0, 1) := by decide +kernel
theorem dX3_placeBehind_122 : decode cX3_placeBehind 122 = .ok (.iconst 5, 1) := by decide +kernel
theorem dX3_placeBehind_123 : decode cX3_placeBehind 123 = .ok (.if_icmp .ne 13, 3) := by decide +kernel
theorem dX3_placeBehind_126 : decode cX3_placeBehind 126 = .ok (.iload_n 1, 1) := by decide +kernel
theorem dX3_placeBehind_127 : decode cX3_placeBehind 127 = .ok (.bipush 48, 2) := by decide +kernel
theorem dX3_placeBehind_129 : decode cX3_placeBehind 129 = .ok (.if_icmp .ne 7, 3) := by decide +kernel
theorem dX3_placeBehind_132 : decode cX3_placeBehind 132 = .ok (.iconst 1, 1) := by decide +kernel
theorem dX3_placeBehind_133 : decode cX3_placeBehind 133 = .ok (.goto 4, 3) := by decide +kernel
theorem dX3_placeBehind_136 : decode cX3_placeBehind 136 = .ok (.iconst 0, 1) := by decide +kernel
theorem dX3_placeBehind_137 : decode cX3_placeBehind 137 = .ok (.istore_n 2, 1) := by decide +kernel
theorem dX3_placeBehind_138 : decode cX3_placeBehind 138 = .ok (.iload_n 2, 1) := by decide +kernel
theorem dX3_placeBehind_139 : decode cX3_placeBehind 139 = .ok (.ifCond .eq 8, 3) := by decide +kernel
theorem dX3_placeBehind_142 : decode cX3_placeBehind 142 = .ok (.bipush 6, 2) := by decide +kernel
theorem dX3_placeBehind_144 : decode cX3_placeBehind 144 = .ok (.goto 5, 3) := by decide +kernel
theorem dX3_placeBehind_147 : decode cX3_placeBehind 147 = .ok (.bipush (-6), 2) := by decide +kernel
theorem dX3_placeBehind_149 : decode cX3_placeBehind 149 = .ok (.ireturn, 1) := by decide +kernel
theorem dX3_placeBehindFirstDigit_0 : decode cX3_placeBehindFirstDigit 0 = .ok (.iload_n 0, 1) := by decide +kernel
theorem dX3_placeBehindFirstDigit_1 : decode cX3_placeBehindFirstDigit 1 = .ok (.bipush 49, 2) := by decide +kernel
theorem dX3_placeBehindFirstDigit_3 : decode cX3_placeBehindFirstDigit 3 = .ok (.if_icmp .lt 9, 3) := by decide +kernel
theorem dX3_placeBehindFirstDigit_6 : decode cX3_placeBehindFirstDigit 6 = .ok (.iload_n 0, 1) := by decide +kernel
theorem dX3_placeBehindFirstDigit_7 : decode cX3_placeBehindFirstDigit 7 = .ok (.bipush 57, 2) := by decide +kernel
theorem dX3_placeBehindFirstDigit_9 : decode cX3_placeBehindFirstDigit 9 = .ok (.if_icmp .le 6, 3) := by decide +kernel
theorem dX3_placeBehindFirstDigit_12 : decode cX3_placeBehindFirstDigit 12 = .ok (.bipush (-6), 2) := by decide +kernel
theorem dX3_placeBehindFirstDigit_14 : decode cX3_placeBehindFirstDigit 14 = .ok (.ireturn, 1) := by decide +kernel
theorem dX3_placeBehindFirstDigit_15 : decode cX3_placeBehindFirstDigit 15 = .ok (.iload_n 0, 1) := by decide +kernel
theorem dX3_placeBehindFirstDigit_16 : decode cX3_placeBehindFirstDigit 16 = .ok (.bipush 49, 2) := by decide +kernel
theorem dX3_placeBehindFirstDigit_18 : decode cX3_placeBehindFirstDigit 18 = .ok (.if_icmp .ne 7, 3) := by decide +kernel
theorem dX3_placeBehindFirstDigit_21 : decode cX3_placeBehindFirstDigit 21 = .ok (.iconst 4, 1) := by decide +kernel
theorem dX3_placeBehindFirstDigit_22 : decode cX3_placeBehindFirstDigit 22 = .ok (.goto 15, 3) := by decide +kernel
theorem dX3_placeBehindFirstDigit_25 : decode cX3_placeBehindFirstDigit 25 = .ok (.iload_n 0, 1) := by decide +kernel
theorem dX3_placeBehindFirstDigit_26 : decode cX3_placeBehindFirstDigit 26 = .ok (.bipush 50, 2) := by decide +kernel
theorem dX3_placeBehindFirstDigit_28 : decode cX3_placeBehindFirstDigit 28 = .ok (.if_icmp .ne 7, 3) := by decide +kernel
theorem dX3_placeBehindFirstDigit_31 : decode cX3_placeBehindFirstDigit 31 = .ok (.iconst 5, 1) := by decide +kernel
theorem dX3_placeBehindFirstDigit_32 : decode cX3_placeBehindFirstDigit 32 = .ok (.goto 5, 3) := by decide +kernel
theorem dX3_placeBehindFirstDigit_35 : decode cX3_placeBehindFirstDigit 35 = .ok (.bipush 6, 2) := by decide +kernel
theorem dX3_placeBehindFirstDigit_37 : decode cX3_placeBehindFirstDigit 37 = .ok (.ireturn, 1) := by decide +kernel
