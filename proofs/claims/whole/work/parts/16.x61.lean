theorem dX6_letsOut_15 : decode cX6_letsOut 15 = .ok (.iload_n 2, 1) := by decide +kernel
theorem dX6_letsOut_16 : decode cX6_letsOut 16 = .ok (.iadd, 1) := by decide +kernel
theorem dX6_letsOut_17 : decode cX6_letsOut 17 = .ok (.iaload, 1) := by decide +kernel
theorem dX6_letsOut_18 : decode cX6_letsOut 18 = .ok (.aload_n 0, 1) := by decide +kernel
theorem dX6_letsOut_19 : decode cX6_letsOut 19 = .ok (.getfield 7, 3) := by decide +kernel
theorem dX6_letsOut_22 : decode cX6_letsOut 22 = .ok (.bipush 9, 2) := by decide +kernel
theorem dX6_letsOut_24 : decode cX6_letsOut 24 = .ok (.iload_n 1, 1) := by decide +kernel
theorem dX6_letsOut_25 : decode cX6_letsOut 25 = .ok (.iadd, 1) := by decide +kernel
theorem dX6_letsOut_26 : decode cX6_letsOut 26 = .ok (.iaload, 1) := by decide +kernel
theorem dX6_letsOut_27 : decode cX6_letsOut 27 = .ok (.if_icmp .ge 15, 3) := by decide +kernel
theorem dX6_letsOut_30 : decode cX6_letsOut 30 = .ok (.aload_n 0, 1) := by decide +kernel
theorem dX6_letsOut_31 : decode cX6_letsOut 31 = .ok (.getfield 7, 3) := by decide +kernel
theorem dX6_letsOut_34 : decode cX6_letsOut 34 = .ok (.bipush 21, 2) := by decide +kernel
theorem dX6_letsOut_36 : decode cX6_letsOut 36 = .ok (.iload_n 2, 1) := by decide +kernel
theorem dX6_letsOut_37 : decode cX6_letsOut 37 = .ok (.iadd, 1) := by decide +kernel
theorem dX6_letsOut_38 : decode cX6_letsOut 38 = .ok (.iaload, 1) := by decide +kernel
theorem dX6_letsOut_39 : decode cX6_letsOut 39 = .ok (.goto 12, 3) := by decide +kernel
theorem dX6_letsOut_42 : decode cX6_letsOut 42 = .ok (.aload_n 0, 1) := by decide +kernel
theorem dX6_letsOut_43 : decode cX6_letsOut 43 = .ok (.getfield 7, 3) := by decide +kernel
theorem dX6_letsOut_46 : decode cX6_letsOut 46 = .ok (.bipush 9, 2) := by decide +kernel
theorem dX6_letsOut_48 : decode cX6_letsOut 48 = .ok (.iload_n 1, 1) := by decide +kernel
theorem dX6_letsOut_49 : decode cX6_letsOut 49 = .ok (.iadd, 1) := by decide +kernel
theorem dX6_letsOut_50 : decode cX6_letsOut 50 = .ok (.iaload, 1) := by decide +kernel
theorem dX6_letsOut_51 : decode cX6_letsOut 51 = .ok (.istore_n 3, 1) := by decide +kernel
theorem dX6_letsOut_52 : decode cX6_letsOut 52 = .ok (.aload_n 0, 1) := by decide +kernel
theorem dX6_letsOut_53 : decode cX6_letsOut 53 = .ok (.getfield 7, 3) := by decide +kernel
theorem dX6_letsOut_56 : decode cX6_letsOut 56 = .ok (.bipush 21, 2) := by decide +kernel
theorem dX6_letsOut_58 : decode cX6_letsOut 58 = .ok (.iload_n 2, 1) := by decide +kernel
theorem dX6_letsOut_59 : decode cX6_letsOut 59 = .ok (.iadd, 1) := by decide +kernel
theorem dX6_letsOut_60 : decode cX6_letsOut 60 = .ok (.dup2, 1) := by decide +kernel
theorem dX6_letsOut_61 : decode cX6_letsOut 61 = .ok (.iaload, 1) := by decide +kernel
theorem dX6_letsOut_62 : decode cX6_letsOut 62 = .ok (.iload_n 3, 1) := by decide +kernel
theorem dX6_letsOut_63 : decode cX6_letsOut 63 = .ok (.isub, 1) := by decide +kernel
theorem dX6_letsOut_64 : decode cX6_letsOut 64 = .ok (.iastore, 1) := by decide +kernel
theorem dX6_letsOut_65 : decode cX6_letsOut 65 = .ok (.aload_n 0, 1) := by decide +kernel
theorem dX6_letsOut_66 : decode cX6_letsOut 66 = .ok (.getfield 7, 3) := by decide +kernel
theorem dX6_letsOut_69 : decode cX6_letsOut 69 = .ok (.bipush 17, 2) := by decide +kernel
theorem dX6_letsOut_71 : decode cX6_letsOut 71 = .ok (.iload_n 1, 1) := by decide +kernel
theorem dX6_letsOut_72 : decode cX6_letsOut 72 = .ok (.iadd, 1) := by decide +kernel
theorem dX6_letsOut_73 : decode cX6_letsOut 73 = .ok (.dup2, 1) := by decide +kernel
theorem dX6_letsOut_74 : decode cX6_letsOut 74 = .ok (.iaload, 1) := by decide +kernel
theorem dX6_letsOut_75 : decode cX6_letsOut 75 = .ok (.iload_n 3, 1) := by decide +kernel
theorem dX6_letsOut_76 : decode cX6_letsOut 76 = .ok (.iadd, 1) := by decide +kernel
theorem dX6_letsOut_77 : decode cX6_letsOut 77 = .ok (.iastore, 1) := by decide +kernel
theorem dX6_letsOut_78 : decode cX6_letsOut 78 = .ok (.return_, 1) := by decide +kernel
theorem dX6_goes_0 : decode cX6_goes 0 = .ok (.aload_n 0, 1) := by decide +kernel
theorem dX6_goes_1 : decode cX6_goes 1 = .ok (.getfield 38, 3) := by decide +kernel
theorem dX6_goes_4 : decode cX6_goes 4 = .ok (.iload_n 1, 1) := by decide +kernel
theorem dX6_goes_5 : decode cX6_goes 5 = .ok (.iaload, 1) := by decide +kernel
theorem dX6_goes_6 : decode cX6_goes 6 = .ok (.istore_n 2, 1) := by decide +kernel
theorem dX6_goes_7 : decode cX6_goes 7 = .ok (.aload_n 0, 1) := by decide +kernel
theorem dX6_goes_8 : decode cX6_goes 8 = .ok (.getfield 7, 3) := by decide +kernel
theorem dX6_goes_11 : decode cX6_goes 11 = .ok (.bipush 21, 2) := by decide +kernel
theorem dX6_goes_13 : decode cX6_goes 13 = .ok (.iload_n 1, 1) := by decide +kernel
theorem dX6_goes_14 : decode cX6_goes 14 = .ok (.iadd, 1) := by decide +kernel
theorem dX6_goes_15 : decode cX6_goes 15 = .ok (.iaload, 1) := by decide +kernel
theorem dX6_goes_16 : decode cX6_goes 16 = .ok (.aload_n 0, 1) := by decide +kernel
theorem dX6_goes_17 : decode cX6_goes 17 = .ok (.getfield 41, 3) := by decide +kernel
theorem dX6_goes_20 : decode cX6_goes 20 = .ok (.iload_n 1, 1) := by decide +kernel
theorem dX6_goes_21 : decode cX6_goes 21 = .ok (.iaload, 1) := by decide +kernel
theorem dX6_goes_22 : decode cX6_goes 22 = .ok (.isub, 1) := by decide +kernel
theorem dX6_goes_23 : decode cX6_goes 23 = .ok (.istore_n 3, 1) := by decide +kernel
theorem dX6_goes_24 : decode cX6_goes 24 = .ok (.aload_n 0, 1) := by decide +kernel
theorem dX6_goes_25 : decode cX6_goes 25 = .ok (.getfield 7, 3) := by decide +kernel
theorem dX6_goes_28 : decode cX6_goes 28 = .ok (.iconst 0, 1) := by decide +kernel
theorem dX6_goes_29 : decode cX6_goes 29 = .ok (.iaload, 1) := by decide +kernel
theorem dX6_goes_30 : decode cX6_goes 30 = .ok (.aload_n 0, 1) := by decide +kernel
theorem dX6_goes_31 : decode cX6_goes 31 = .ok (.getfield 7, 3) := by decide +kernel
theorem dX6_goes_34 : decode cX6_goes 34 = .ok (.bipush 21, 2) := by decide +kernel
theorem dX6_goes_36 : decode cX6_goes 36 = .ok (.iload_n 2, 1) := by decide +kernel
theorem dX6_goes_37 : decode cX6_goes 37 = .ok (.iadd, 1) := by decide +kernel
theorem dX6_goes_38 : decode cX6_goes 38 = .ok (.iaload, 1) := by decide +kernel
theorem dX6_goes_39 : decode cX6_goes 39 = .ok (.isub, 1) := by decide +kernel
theorem dX6_goes_40 : decode cX6_goes 40 = .ok (.istore 4, 2) := by decide +kernel
theorem dX6_goes_42 : decode cX6_goes 42 = .ok (.iload_n 3, 1) := by decide +kernel
theorem dX6_goes_43 : decode cX6_goes 43 = .ok (.iload 4, 2) := by decide +kernel
theorem dX6_goes_45 : decode cX6_goes 45 = .ok (.if_icmp .ge 7, 3) := by decide +kernel
theorem dX6_goes_48 : decode cX6_goes 48 = .ok (.iload_n 3, 1) := by decide +kernel
theorem dX6_goes_49 : decode cX6_goes 49 = .ok (.goto 5, 3) := by decide +kernel
theorem dX6_goes_52 : decode cX6_goes 52 = .ok (.iload 4, 2) := by decide +kernel
theorem dX6_goes_54 : decode cX6_goes 54 = .ok (.istore 5, 2) := by decide +kernel
theorem dX6_goes_56 : decode cX6_goes 56 = .ok (.aload_n 0, 1) := by decide +kernel
theorem dX6_goes_57 : decode cX6_goes 57 = .ok (.getfield 7, 3) := by decide +kernel
theorem dX6_goes_60 : decode cX6_goes 60 = .ok (.bipush 21, 2) := by decide +kernel
theorem dX6_goes_62 : decode cX6_goes 62 = .ok (.iload_n 1, 1) := by decide +kernel
theorem dX6_goes_63 : decode cX6_goes 63 = .ok (.iadd, 1) := by decide +kernel
theorem dX6_goes_64 : decode cX6_goes 64 = .ok (.dup2, 1) := by decide +kernel
theorem dX6_goes_65 : decode cX6_goes 65 = .ok (.iaload, 1) := by decide +kernel
theorem dX6_goes_66 : decode cX6_goes 66 = .ok (.iload 5, 2) := by decide +kernel
theorem dX6_goes_68 : decode cX6_goes 68 = .ok (.isub, 1) := by decide +kernel
theorem dX6_goes_69 : decode cX6_goes 69 = .ok (.iastore, 1) := by decide +kernel
theorem dX6_goes_70 : decode cX6_goes 70 = .ok (.aload_n 0, 1) := by decide +kernel
theorem dX6_goes_71 : decode cX6_goes 71 = .ok (.getfield 7, 3) := by decide +kernel
theorem dX6_goes_74 : decode cX6_goes 74 = .ok (.bipush 21, 2) := by decide +kernel
theorem dX6_goes_76 : decode cX6_goes 76 = .ok (.iload_n 2, 1) := by decide +kernel
theorem dX6_goes_77 : decode cX6_goes 77 = .ok (.iadd, 1) := by decide +kernel
theorem dX6_goes_78 : decode cX6_goes 78 = .ok (.dup2, 1) := by decide +kernel
theorem dX6_goes_79 : decode cX6_goes 79 = .ok (.iaload, 1) := by decide +kernel
theorem dX6_goes_80 : decode cX6_goes 80 = .ok (.iload 5, 2) := by decide +kernel
theorem dX6_goes_82 : decode cX6_goes 82 = .ok (.iadd, 1) := by decide +kernel
theorem dX6_goes_83 : decode cX6_goes 83 = .ok (.iastore, 1) := by decide +kernel
theorem dX6_goes_84 : decode cX6_goes 84 = .ok (.aload_n 0, 1) := by decide +kernel
theorem dX6_goes_85 : decode cX6_goes 85 = .ok (.getfield 41, 3) := by decide +kernel
theorem dX6_goes_88 : decode cX6_goes 88 = .ok (.iload_n 2, 1) := by decide +kernel
theorem dX6_goes_89 : decode cX6_goes 89 = .ok (.dup2, 1) := by decide +kernel
theorem dX6_goes_90 : decode cX6_goes 90 = .ok (.iaload, 1) := by decide +kernel
theorem dX6_goes_91 : decode cX6_goes 91 = .ok (.iload 5, 2) := by decide +kernel
theorem dX6_goes_93 : decode cX6_goes 93 = .ok (.iadd, 1) := by decide +kernel
theorem dX6_goes_94 : decode cX6_goes 94 = .ok (.iastore, 1) := by decide +kernel
theorem dX6_goes_95 : decode cX6_goes 95 = .ok (.aload_n 0, 1) := by decide +kernel
theorem dX6_goes_96 : decode cX6_goes 96 = .ok (.getfield 7, 3) := by decide +kernel
theorem dX6_goes_99 : decode cX6_goes 99 = .ok (.iconst 4, 1) := by decide +kernel
theorem dX6_goes_100 : decode cX6_goes 100 = .ok (.dup2, 1) := by decide +kernel
theorem dX6_goes_101 : decode cX6_goes 101 = .ok (.iaload, 1) := by decide +kernel
theorem dX6_goes_102 : decode cX6_goes 102 = .ok (.iload 5, 2) := by decide +kernel
theorem dX6_goes_104 : decode cX6_goes 104 = .ok (.iload_n 3, 1) := by decide +kernel
theorem dX6_goes_105 : decode cX6_goes 105 = .ok (.if_icmp .ge 7, 3) := by decide +kernel
theorem dX6_goes_108 : decode cX6_goes 108 = .ok (.iconst 1, 1) := by decide +kernel
theorem dX6_goes_109 : decode cX6_goes 109 = .ok (.goto 4, 3) := by decide +kernel
theorem dX6_goes_112 : decode cX6_goes 112 = .ok (.iconst 0, 1) := by decide +kernel
theorem dX6_goes_113 : decode cX6_goes 113 = .ok (.iadd, 1) := by decide +kernel
theorem dX6_goes_114 : decode cX6_goes 114 = .ok (.iastore, 1) := by decide +kernel
theorem dX6_goes_115 : decode cX6_goes 115 = .ok (.aload_n 0, 1) := by decide +kernel
theorem dX6_goes_116 : decode cX6_goes 116 = .ok (.getfield 7, 3) := by decide +kernel
theorem dX6_goes_119 : decode cX6_goes 119 = .ok (.iconst 3, 1) := by decide +kernel
theorem dX6_goes_120 : decode cX6_goes 120 = .ok (.dup2, 1) := by decide +kernel
theorem dX6_goes_121 : decode cX6_goes 121 = .ok (.iaload, 1) := by decide +kernel
theorem dX6_goes_122 : decode cX6_goes 122 = .ok (.iload_n 3, 1) := by decide +kernel
theorem dX6_goes_123 : decode cX6_goes 123 = .ok (.iload 5, 2) := by decide +kernel
theorem dX6_goes_125 : decode cX6_goes 125 = .ok (.isub, 1) := by decide +kernel
theorem dX6_goes_126 : decode cX6_goes 126 = .ok (.iadd, 1) := by decide +kernel
theorem dX6_goes_127 : decode cX6_goes 127 = .ok (.iastore, 1) := by decide +kernel
theorem dX6_goes_128 : decode cX6_goes 128 = .ok (.return_, 1) := by decide +kernel
set_option maxRecDepth 20000 in
theorem ggX6_minute_X6_letsOut : GoodIn wsX6_minute wsX6_letsOut := goodIn_r _ [8, 1, 14, 15, 16, 17, 18, 19, 20, 21, 22, 23, 24, 25, 26, 27, 28, 29] (by decide +kernel) (by decide +kernel)
set_option maxRecDepth 20000 in
theorem gX6_minute_X6_letsOut : GoodIn wsX6_minute (wsV RX6 80 RX6 yX6_letsOut wsX6_letsOut) := goodIn_app (goodIn_of _ (by decide +kernel)) ggX6_minute_X6_letsOut
set_option maxRecDepth 20000 in
theorem ggX6_minute_X6_goes : GoodIn wsX6_minute wsX6_goes := goodIn_r _ [12, 13, 1, 2, 14, 15, 16, 17, 18, 19, 20, 21, 22, 23, 24, 25, 26, 27, 28, 29] (by decide +kernel) (by decide +kernel)
set_option maxRecDepth 20000 in
theorem gX6_minute_X6_goes : GoodIn wsX6_minute (wsV RX6 83 RX6 yX6_goes wsX6_goes) := goodIn_app (goodIn_of _ (by decide +kernel)) ggX6_minute_X6_goes
theorem dX6_minute_0 : decode cX6_minute 0 = .ok (.aload_n 0, 1) := by decide +kernel
theorem dX6_minute_1 : decode cX6_minute 1 = .ok (.getfield 7, 3) := by decide +kernel
theorem dX6_minute_4 : decode cX6_minute 4 = .ok (.iconst 1, 1) := by decide +kernel
theorem dX6_minute_5 : decode cX6_minute 5 = .ok (.dup2, 1) := by decide +kernel
theorem dX6_minute_6 : decode cX6_minute 6 = .ok (.iaload, 1) := by decide +kernel
theorem dX6_minute_7 : decode cX6_minute 7 = .ok (.iconst 1, 1) := by decide +kernel
theorem dX6_minute_8 : decode cX6_minute 8 = .ok (.iadd, 1) := by decide +kernel
theorem dX6_minute_9 : decode cX6_minute 9 = .ok (.iastore, 1) := by decide +kernel
theorem dX6_minute_10 : decode cX6_minute 10 = .ok (.iconst 0, 1) := by decide +kernel
theorem dX6_minute_11 : decode cX6_minute 11 = .ok (.istore_n 1, 1) := by decide +kernel
theorem dX6_minute_12 : decode cX6_minute 12 = .ok (.iload_n 1, 1) := by decide +kernel
theorem dX6_minute_13 : decode cX6_minute 13 = .ok (.iconst 4, 1) := by decide +kernel
theorem dX6_minute_14 : decode cX6_minute 14 = .ok (.if_icmp .ge 27, 3) := by decide +kernel
theorem dX6_minute_17 : decode cX6_minute 17 = .ok (.aload_n 0, 1) := by decide +kernel
theorem dX6_minute_18 : decode cX6_minute 18 = .ok (.getfield 7, 3) := by decide +kernel
theorem dX6_minute_21 : decode cX6_minute 21 = .ok (.bipush 13, 2) := by decide +kernel
theorem dX6_minute_23 : decode cX6_minute 23 = .ok (.iload_n 1, 1) := by decide +kernel
theorem dX6_minute_24 : decode cX6_minute 24 = .ok (.iadd, 1) := by decide +kernel
theorem dX6_minute_25 : decode cX6_minute 25 = .ok (.iaload, 1) := by decide +kernel
theorem dX6_minute_26 : decode cX6_minute 26 = .ok (.iconst 1, 1) := by decide +kernel
theorem dX6_minute_27 : decode cX6_minute 27 = .ok (.if_icmp .ne 8, 3) := by decide +kernel
theorem dX6_minute_30 : decode cX6_minute 30 = .ok (.aload_n 0, 1) := by decide +kernel
theorem dX6_minute_31 : decode cX6_minute 31 = .ok (.iload_n 1, 1) := by decide +kernel
theorem dX6_minute_32 : decode cX6_minute 32 = .ok (.invokevirtual 80, 3) := by decide +kernel
theorem dX6_minute_35 : decode cX6_minute 35 = .ok (.iinc 1 1, 3) := by decide +kernel
theorem dX6_minute_38 : decode cX6_minute 38 = .ok (.goto (-26), 3) := by decide +kernel
theorem dX6_minute_41 : decode cX6_minute 41 = .ok (.iconst 0, 1) := by decide +kernel
theorem dX6_minute_42 : decode cX6_minute 42 = .ok (.istore_n 1, 1) := by decide +kernel
theorem dX6_minute_43 : decode cX6_minute 43 = .ok (.iload_n 1, 1) := by decide +kernel
theorem dX6_minute_44 : decode cX6_minute 44 = .ok (.bipush 35, 2) := by decide +kernel
theorem dX6_minute_46 : decode cX6_minute 46 = .ok (.if_icmp .ge 16, 3) := by decide +kernel
theorem dX6_minute_49 : decode cX6_minute 49 = .ok (.aload_n 0, 1) := by decide +kernel
theorem dX6_minute_50 : decode cX6_minute 50 = .ok (.getfield 41, 3) := by decide +kernel
theorem dX6_minute_53 : decode cX6_minute 53 = .ok (.iload_n 1, 1) := by decide +kernel
theorem dX6_minute_54 : decode cX6_minute 54 = .ok (.iconst 0, 1) := by decide +kernel
theorem dX6_minute_55 : decode cX6_minute 55 = .ok (.iastore, 1) := by decide +kernel
theorem dX6_minute_56 : decode cX6_minute 56 = .ok (.iinc 1 1, 3) := by decide +kernel
theorem dX6_minute_59 : decode cX6_minute 59 = .ok (.goto (-16), 3) := by decide +kernel
theorem dX6_minute_62 : decode cX6_minute 62 = .ok (.iconst 1, 1) := by decide +kernel
theorem dX6_minute_63 : decode cX6_minute 63 = .ok (.istore_n 1, 1) := by decide +kernel
theorem dX6_minute_64 : decode cX6_minute 64 = .ok (.iload_n 1, 1) := by decide +kernel
theorem dX6_minute_65 : decode cX6_minute 65 = .ok (.bipush 35, 2) := by decide +kernel
theorem dX6_minute_67 : decode cX6_minute 67 = .ok (.if_icmp .ge 50, 3) := by decide +kernel
theorem dX6_minute_70 : decode cX6_minute 70 = .ok (.iconst 0, 1) := by decide +kernel
theorem dX6_minute_71 : decode cX6_minute 71 = .ok (.istore_n 2, 1) := by decide +kernel
theorem dX6_minute_72 : decode cX6_minute 72 = .ok (.iload_n 2, 1) := by decide +kernel
theorem dX6_minute_73 : decode cX6_minute 73 = .ok (.bipush 35, 2) := by decide +kernel
theorem dX6_minute_75 : decode cX6_minute 75 = .ok (.if_icmp .ge 36, 3) := by decide +kernel
theorem dX6_minute_78 : decode cX6_minute 78 = .ok (.aload_n 0, 1) := by decide +kernel
theorem dX6_minute_79 : decode cX6_minute 79 = .ok (.getfield 35, 3) := by decide +kernel
theorem dX6_minute_82 : decode cX6_minute 82 = .ok (.iload_n 2, 1) := by decide +kernel
theorem dX6_minute_83 : decode cX6_minute 83 = .ok (.iaload, 1) := by decide +kernel
theorem dX6_minute_84 : decode cX6_minute 84 = .ok (.iload_n 1, 1) := by decide +kernel
theorem dX6_minute_85 : decode cX6_minute 85 = .ok (.if_icmp .ne 20, 3) := by decide +kernel
theorem dX6_minute_88 : decode cX6_minute 88 = .ok (.aload_n 0, 1) := by decide +kernel
theorem dX6_minute_89 : decode cX6_minute 89 = .ok (.getfield 7, 3) := by decide +kernel
theorem dX6_minute_92 : decode cX6_minute 92 = .ok (.bipush 21, 2) := by decide +kernel
theorem dX6_minute_94 : decode cX6_minute 94 = .ok (.iload_n 2, 1) := by decide +kernel
theorem dX6_minute_95 : decode cX6_minute 95 = .ok (.iadd, 1) := by decide +kernel
theorem dX6_minute_96 : decode cX6_minute 96 = .ok (.iaload, 1) := by decide +kernel
theorem dX6_minute_97 : decode cX6_minute 97 = .ok (.ifCond .le 8, 3) := by decide +kernel
theorem dX6_minute_100 : decode cX6_minute 100 = .ok (.aload_n 0, 1) := by decide +kernel
theorem dX6_minute_101 : decode cX6_minute 101 = .ok (.iload_n 2, 1) := by decide +kernel
theorem dX6_minute_102 : decode cX6_minute 102 = .ok (.invokevirtual 83, 3) := by decide +kernel
theorem dX6_minute_105 : decode cX6_minute 105 = .ok (.iinc 2 1, 3) := by decide +kernel
theorem dX6_minute_108 : decode cX6_minute 108 = .ok (.goto (-36), 3) := by decide +kernel
theorem dX6_minute_111 : decode cX6_minute 111 = .ok (.iinc 1 1, 3) := by decide +kernel
theorem dX6_minute_114 : decode cX6_minute 114 = .ok (.goto (-50), 3) := by decide +kernel
theorem dX6_minute_117 : decode cX6_minute 117 = .ok (.return_, 1) := by decide +kernel
theorem dX6_people_0 : decode cX6_people 0 = .ok (.iconst 0, 1) := by decide +kernel
theorem dX6_people_1 : decode cX6_people 1 = .ok (.istore_n 1, 1) := by decide +kernel
theorem dX6_people_2 : decode cX6_people 2 = .ok (.iconst 0, 1) := by decide +kernel
theorem dX6_people_3 : decode cX6_people 3 = .ok (.istore_n 2, 1) := by decide +kernel
theorem dX6_people_4 : decode cX6_people 4 = .ok (.iload_n 2, 1) := by decide +kernel
theorem dX6_people_5 : decode cX6_people 5 = .ok (.bipush 35, 2) := by decide +kernel
theorem dX6_people_7 : decode cX6_people 7 = .ok (.if_icmp .ge 21, 3) := by decide +kernel
theorem dX6_people_10 : decode cX6_people 10 = .ok (.iload_n 1, 1) := by decide +kernel
theorem dX6_people_11 : decode cX6_people 11 = .ok (.aload_n 0, 1) := by decide +kernel
theorem dX6_people_12 : decode cX6_people 12 = .ok (.getfield 7, 3) := by decide +kernel
theorem dX6_people_15 : decode cX6_people 15 = .ok (.bipush 21, 2) := by decide +kernel
theorem dX6_people_17 : decode cX6_people 17 = .ok (.iload_n 2, 1) := by decide +kernel
theorem dX6_people_18 : decode cX6_people 18 = .ok (.iadd, 1) := by decide +kernel
theorem dX6_people_19 : decode cX6_people 19 = .ok (.iaload, 1) := by decide +kernel
theorem dX6_people_20 : decode cX6_people 20 = .ok (.iadd, 1) := by decide +kernel
theorem dX6_people_21 : decode cX6_people 21 = .ok (.istore_n 1, 1) := by decide +kernel
theorem dX6_people_22 : decode cX6_people 22 = .ok (.iinc 2 1, 3) := by decide +kernel
theorem dX6_people_25 : decode cX6_people 25 = .ok (.goto (-21), 3) := by decide +kernel
theorem dX6_people_28 : decode cX6_people 28 = .ok (.iload_n 1, 1) := by decide +kernel
theorem dX6_people_29 : decode cX6_people 29 = .ok (.ireturn, 1) := by decide +kernel
theorem dX6_out_0 : decode cX6_out 0 = .ok (.aload_n 0, 1) := by decide +kernel
theorem dX6_out_1 : decode cX6_out 1 = .ok (.getfield 7, 3) := by decide +kernel
theorem dX6_out_4 : decode cX6_out 4 = .ok (.bipush 17, 2) := by decide +kernel
theorem dX6_out_6 : decode cX6_out 6 = .ok (.iaload, 1) := by decide +kernel
theorem dX6_out_7 : decode cX6_out 7 = .ok (.aload_n 0, 1) := by decide +kernel
theorem dX6_out_8 : decode cX6_out 8 = .ok (.getfield 7, 3) := by decide +kernel
theorem dX6_out_11 : decode cX6_out 11 = .ok (.bipush 18, 2) := by decide +kernel
theorem dX6_out_13 : decode cX6_out 13 = .ok (.iaload, 1) := by decide +kernel
theorem dX6_out_14 : decode cX6_out 14 = .ok (.iadd, 1) := by decide +kernel
theorem dX6_out_15 : decode cX6_out 15 = .ok (.aload_n 0, 1) := by decide +kernel
theorem dX6_out_16 : decode cX6_out 16 = .ok (.getfield 7, 3) := by decide +kernel
theorem dX6_out_19 : decode cX6_out 19 = .ok (.bipush 19, 2) := by decide +kernel
theorem dX6_out_21 : decode cX6_out 21 = .ok (.iaload, 1) := by decide +kernel
theorem dX6_out_22 : decode cX6_out 22 = .ok (.iadd, 1) := by decide +kernel
theorem dX6_out_23 : decode cX6_out 23 = .ok (.aload_n 0, 1) := by decide +kernel
theorem dX6_out_24 : decode cX6_out 24 = .ok (.getfield 7, 3) := by decide +kernel
theorem dX6_out_27 : decode cX6_out 27 = .ok (.bipush 20, 2) := by decide +kernel
theorem dX6_out_29 : decode cX6_out 29 = .ok (.iaload, 1) := by decide +kernel
theorem dX6_out_30 : decode cX6_out 30 = .ok (.iadd, 1) := by decide +kernel
theorem dX6_out_31 : decode cX6_out 31 = .ok (.ireturn, 1) := by decide +kernel
theorem dX6_shutIn_0 : decode cX6_shutIn 0 = .ok (.iconst 0, 1) := by decide +kernel
theorem dX6_shutIn_1 : decode cX6_shutIn 1 = .ok (.istore_n 1, 1) := by decide +kernel
theorem dX6_shutIn_2 : decode cX6_shutIn 2 = .ok (.iconst 0, 1) := by decide +kernel
theorem dX6_shutIn_3 : decode cX6_shutIn 3 = .ok (.istore_n 2, 1) := by decide +kernel
theorem dX6_shutIn_4 : decode cX6_shutIn 4 = .ok (.iload_n 2, 1) := by decide +kernel
theorem dX6_shutIn_5 : decode cX6_shutIn 5 = .ok (.bipush 35, 2) := by decide +kernel
theorem dX6_shutIn_7 : decode cX6_shutIn 7 = .ok (.if_icmp .ge 36, 3) := by decide +kernel
theorem dX6_shutIn_10 : decode cX6_shutIn 10 = .ok (.iload_n 1, 1) := by decide +kernel
theorem dX6_shutIn_11 : decode cX6_shutIn 11 = .ok (.aload_n 0, 1) := by decide +kernel
theorem dX6_shutIn_12 : decode cX6_shutIn 12 = .ok (.getfield 32, 3) := by decide +kernel
theorem dX6_shutIn_15 : decode cX6_shutIn 15 = .ok (.iload_n 2, 1) := by decide +kernel
theorem dX6_shutIn_16 : decode cX6_shutIn 16 = .ok (.iaload, 1) := by decide +kernel
theorem dX6_shutIn_17 : decode cX6_shutIn 17 = .ok (.bipush (-6), 2) := by decide +kernel
theorem dX6_shutIn_19 : decode cX6_shutIn 19 = .ok (.if_icmp .ne 15, 3) := by decide +kernel
theorem dX6_shutIn_22 : decode cX6_shutIn 22 = .ok (.aload_n 0, 1) := by decide +kernel
theorem dX6_shutIn_23 : decode cX6_shutIn 23 = .ok (.getfield 7, 3) := by decide +kernel
theorem dX6_shutIn_26 : decode cX6_shutIn 26 = .ok (.bipush 21, 2) := by decide +kernel
theorem dX6_shutIn_28 : decode cX6_shutIn 28 = .ok (.iload_n 2, 1) := by decide +kernel
theorem dX6_shutIn_29 : decode cX6_shutIn 29 = .ok (.iadd, 1) := by decide +kernel
theorem dX6_shutIn_30 : decode cX6_shutIn 30 = .ok (.iaload, 1) := by decide +kernel
theorem dX6_shutIn_31 : decode cX6_shutIn 31 = .ok (.goto 4, 3) := by decide +kernel
theorem dX6_shutIn_34 : decode cX6_shutIn 34 = .ok (.iconst 0, 1) := by decide +kernel
theorem dX6_shutIn_35 : decode cX6_shutIn 35 = .ok (.iadd, 1) := by decide +kernel
theorem dX6_shutIn_36 : decode cX6_shutIn 36 = .ok (.istore_n 1, 1) := by decide +kernel
theorem dX6_shutIn_37 : decode cX6_shutIn 37 = .ok (.iinc 2 1, 3) := by decide +kernel
theorem dX6_shutIn_40 : decode cX6_shutIn 40 = .ok (.goto (-36), 3) := by decide +kernel
theorem dX6_shutIn_43 : decode cX6_shutIn 43 = .ok (.iload_n 1, 1) := by decide +kernel
theorem dX6_shutIn_44 : decode cX6_shutIn 44 = .ok (.ireturn, 1) := by decide +kernel
set_option maxRecDepth 20000 in
theorem ggX6_emptied_X6_people : GoodIn wsX6_emptied wsX6_people := goodIn_r _ [5, 6, 27, 28, 29, 30, 31, 32, 33, 34, 35, 36, 37, 38, 39, 40, 41, 42] (by decide +kernel) (by decide +kernel)
set_option maxRecDepth 20000 in
theorem gX6_emptied_X6_people : GoodIn wsX6_emptied (wsV RX6 86 RX6 yX6_people wsX6_people) := goodIn_app (goodIn_of _ (by decide +kernel)) ggX6_emptied_X6_people
set_option maxRecDepth 20000 in
theorem ggX6_emptied_X6_shutIn : GoodIn wsX6_emptied wsX6_shutIn := goodIn_r _ [10, 11, 6, 27, 28, 29, 30, 31, 32, 33, 34, 35, 36, 37, 38, 39, 40, 41, 42] (by decide +kernel) (by decide +kernel)
set_option maxRecDepth 20000 in
theorem gX6_emptied_X6_shutIn : GoodIn wsX6_emptied (wsV RX6 90 RX6 yX6_shutIn wsX6_shutIn) := goodIn_app (goodIn_of _ (by decide +kernel)) ggX6_emptied_X6_shutIn
set_option maxRecDepth 20000 in
theorem ggX6_emptied_X6_minute : GoodIn wsX6_emptied wsX6_minute := goodIn_r _ [15, 6, 16, 17, 18, 19, 20, 4, 21, 22, 23, 24, 25, 26, 27, 28, 29, 30, 31, 32, 33, 34, 35, 36, 37, 38, 39, 40, 41, 42] (by decide +kernel) (by decide +kernel)
set_option maxRecDepth 20000 in
theorem gX6_emptied_X6_minute : GoodIn wsX6_emptied (wsV RX6 93 RX6 yX6_minute wsX6_minute) := goodIn_app (goodIn_of _ (by decide +kernel)) ggX6_emptied_X6_minute
theorem dX6_emptied_0 : decode cX6_emptied 0 = .ok (.iconst 0, 1) := by decide +kernel
theorem dX6_emptied_1 : decode cX6_emptied 1 = .ok (.istore_n 1, 1) := by decide +kernel
theorem dX6_emptied_2 : decode cX6_emptied 2 = .ok (.aload_n 0, 1) := by decide +kernel
theorem dX6_emptied_3 : decode cX6_emptied 3 = .ok (.invokevirtual 86, 3) := by decide +kernel
theorem dX6_emptied_6 : decode cX6_emptied 6 = .ok (.aload_n 0, 1) := by decide +kernel
theorem dX6_emptied_7 : decode cX6_emptied 7 = .ok (.invokevirtual 90, 3) := by decide +kernel
theorem dX6_emptied_10 : decode cX6_emptied 10 = .ok (.if_icmp .le 20, 3) := by decide +kernel
theorem dX6_emptied_13 : decode cX6_emptied 13 = .ok (.iload_n 1, 1) := by decide +kernel
theorem dX6_emptied_14 : decode cX6_emptied 14 = .ok (.sipush 400, 3) := by decide +kernel
theorem dX6_emptied_17 : decode cX6_emptied 17 = .ok (.if_icmp .ge 13, 3) := by decide +kernel
theorem dX6_emptied_20 : decode cX6_emptied 20 = .ok (.aload_n 0, 1) := by decide +kernel
theorem dX6_emptied_21 : decode cX6_emptied 21 = .ok (.invokevirtual 93, 3) := by decide +kernel
theorem dX6_emptied_24 : decode cX6_emptied 24 = .ok (.iinc 1 1, 3) := by decide +kernel
theorem dX6_emptied_27 : decode cX6_emptied 27 = .ok (.goto (-25), 3) := by decide +kernel
theorem dX6_emptied_30 : decode cX6_emptied 30 = .ok (.aload_n 0, 1) := by decide +kernel
theorem dX6_emptied_31 : decode cX6_emptied 31 = .ok (.invokevirtual 86, 3) := by decide +kernel
theorem dX6_emptied_34 : decode cX6_emptied 34 = .ok (.aload_n 0, 1) := by decide +kernel
theorem dX6_emptied_35 : decode cX6_emptied 35 = .ok (.invokevirtual 90, 3) := by decide +kernel
theorem dX6_emptied_38 : decode cX6_emptied 38 = .ok (.if_icmp .le 8, 3) := by decide +kernel
theorem dX6_emptied_41 : decode cX6_emptied 41 = .ok (.bipush (-6), 2) := by decide +kernel
theorem dX6_emptied_43 : decode cX6_emptied 43 = .ok (.goto 4, 3) := by decide +kernel
theorem dX6_emptied_46 : decode cX6_emptied 46 = .ok (.iload_n 1, 1) := by decide +kernel
theorem dX6_emptied_47 : decode cX6_emptied 47 = .ok (.ireturn, 1) := by decide +kernel
set_option maxRecDepth 20000 in
theorem ggX6_lays_X6_record : GoodIn wsX6_lays wsX6_record := goodIn_r _ [6, 7, 8, 1, 9, 10, 11, 12, 13, 14, 15, 16, 17, 18, 19, 20, 21, 22, 23, 24] (by decide +kernel) (by decide +kernel)
set_option maxRecDepth 20000 in
theorem gX6_lays_X6_record : GoodIn wsX6_lays (wsV RX6 96 RX6 yX6_record wsX6_record) := goodIn_app (goodIn_of _ (by decide +kernel)) ggX6_lays_X6_record
theorem dX6_lays_0 : decode cX6_lays 0 = .ok (.aload_n 0, 1) := by decide +kernel
theorem dX6_lays_1 : decode cX6_lays 1 = .ok (.invokevirtual 96, 3) := by decide +kernel
theorem dX6_lays_4 : decode cX6_lays 4 = .ok (.aload_n 0, 1) := by decide +kernel
theorem dX6_lays_5 : decode cX6_lays 5 = .ok (.getfield 7, 3) := by decide +kernel
theorem dX6_lays_8 : decode cX6_lays 8 = .ok (.iload_n 1, 1) := by decide +kernel
theorem dX6_lays_9 : decode cX6_lays 9 = .ok (.iaload, 1) := by decide +kernel
theorem dX6_lays_10 : decode cX6_lays 10 = .ok (.istore_n 3, 1) := by decide +kernel
theorem dX6_lays_11 : decode cX6_lays 11 = .ok (.aload_n 0, 1) := by decide +kernel
theorem dX6_lays_12 : decode cX6_lays 12 = .ok (.getfield 7, 3) := by decide +kernel
theorem dX6_lays_15 : decode cX6_lays 15 = .ok (.iload_n 1, 1) := by decide +kernel
theorem dX6_lays_16 : decode cX6_lays 16 = .ok (.iload_n 2, 1) := by decide +kernel
theorem dX6_lays_17 : decode cX6_lays 17 = .ok (.iastore, 1) := by decide +kernel
theorem dX6_lays_18 : decode cX6_lays 18 = .ok (.iload_n 3, 1) := by decide +kernel
theorem dX6_lays_19 : decode cX6_lays 19 = .ok (.ireturn, 1) := by decide +kernel
set_option maxRecDepth 20000 in
theorem ggX6_setRoom_X6_in : GoodIn wsX6_setRoom wsX6_in := goodIn_r _ [5] (by decide +kernel) (by decide +kernel)
set_option maxRecDepth 20000 in
theorem gX6_setRoom_X6_in : GoodIn wsX6_setRoom (va_wsS RX6 47 yX6_in wsX6_in) := goodIn_app (goodIn_of _ (by decide +kernel)) ggX6_setRoom_X6_in
set_option maxRecDepth 20000 in
theorem ggX6_setRoom_X6_lays : GoodIn wsX6_setRoom wsX6_lays := goodIn_r _ [9, 1, 10, 11, 12, 4, 13, 14, 15, 16, 17, 18, 19, 20, 21, 22, 23, 24, 25, 26, 27, 28, 29, 30, 31] (by decide +kernel) (by decide +kernel)
set_option maxRecDepth 20000 in
theorem gX6_setRoom_X6_lays : GoodIn wsX6_setRoom (wsV RX6 99 RX6 yX6_lays wsX6_lays) := goodIn_app (goodIn_of _ (by decide +kernel)) ggX6_setRoom_X6_lays
theorem dX6_setRoom_0 : decode cX6_setRoom 0 = .ok (.iload_n 1, 1) := by decide +kernel
theorem dX6_setRoom_1 : decode cX6_setRoom 1 = .ok (.iconst 1, 1) := by decide +kernel
theorem dX6_setRoom_2 : decode cX6_setRoom 2 = .ok (.bipush 20, 2) := by decide +kernel
theorem dX6_setRoom_4 : decode cX6_setRoom 4 = .ok (.invokestatic 47, 3) := by decide +kernel
theorem dX6_setRoom_7 : decode cX6_setRoom 7 = .ok (.ifCond .ne 6, 3) := by decide +kernel
theorem dX6_setRoom_10 : decode cX6_setRoom 10 = .ok (.bipush (-2), 2) := by decide +kernel
theorem dX6_setRoom_12 : decode cX6_setRoom 12 = .ok (.ireturn, 1) := by decide +kernel
theorem dX6_setRoom_13 : decode cX6_setRoom 13 = .ok (.iconst 0, 1) := by decide +kernel
theorem dX6_setRoom_14 : decode cX6_setRoom 14 = .ok (.istore_n 2, 1) := by decide +kernel
theorem dX6_setRoom_15 : decode cX6_setRoom 15 = .ok (.iload_n 2, 1) := by decide +kernel
theorem dX6_setRoom_16 : decode cX6_setRoom 16 = .ok (.bipush 35, 2) := by decide +kernel
theorem dX6_setRoom_18 : decode cX6_setRoom 18 = .ok (.if_icmp .ge 25, 3) := by decide +kernel
theorem dX6_setRoom_21 : decode cX6_setRoom 21 = .ok (.aload_n 0, 1) := by decide +kernel
theorem dX6_setRoom_22 : decode cX6_setRoom 22 = .ok (.getfield 7, 3) := by decide +kernel
theorem dX6_setRoom_25 : decode cX6_setRoom 25 = .ok (.bipush 21, 2) := by decide +kernel
theorem dX6_setRoom_27 : decode cX6_setRoom 27 = .ok (.iload_n 2, 1) := by decide +kernel
theorem dX6_setRoom_28 : decode cX6_setRoom 28 = .ok (.iadd, 1) := by decide +kernel
theorem dX6_setRoom_29 : decode cX6_setRoom 29 = .ok (.iaload, 1) := by decide +kernel
theorem dX6_setRoom_30 : decode cX6_setRoom 30 = .ok (.iload_n 1, 1) := by decide +kernel
theorem dX6_setRoom_31 : decode cX6_setRoom 31 = .ok (.if_icmp .le 6, 3) := by decide +kernel
theorem dX6_setRoom_34 : decode cX6_setRoom 34 = .ok (.bipush (-5), 2) := by decide +kernel
theorem dX6_setRoom_36 : decode cX6_setRoom 36 = .ok (.ireturn, 1) := by decide +kernel
theorem dX6_setRoom_37 : decode cX6_setRoom 37 = .ok (.iinc 2 1, 3) := by decide +kernel
theorem dX6_setRoom_40 : decode cX6_setRoom 40 = .ok (.goto (-25), 3) := by decide +kernel
theorem dX6_setRoom_43 : decode cX6_setRoom 43 = .ok (.aload_n 0, 1) := by decide +kernel
theorem dX6_setRoom_44 : decode cX6_setRoom 44 = .ok (.iconst 0, 1) := by decide +kernel
theorem dX6_setRoom_45 : decode cX6_setRoom 45 = .ok (.iload_n 1, 1) := by decide +kernel
theorem dX6_setRoom_46 : decode cX6_setRoom 46 = .ok (.invokevirtual 99, 3) := by decide +kernel
theorem dX6_setRoom_49 : decode cX6_setRoom 49 = .ok (.ireturn, 1) := by decide +kernel
theorem dX6_ropes_0 : decode cX6_ropes 0 = .ok (.iconst 0, 1) := by decide +kernel
theorem dX6_ropes_1 : decode cX6_ropes 1 = .ok (.istore_n 1, 1) := by decide +kernel
theorem dX6_ropes_2 : decode cX6_ropes 2 = .ok (.iconst 0, 1) := by decide +kernel
theorem dX6_ropes_3 : decode cX6_ropes 3 = .ok (.istore_n 2, 1) := by decide +kernel
theorem dX6_ropes_4 : decode cX6_ropes 4 = .ok (.iload_n 2, 1) := by decide +kernel
theorem dX6_ropes_5 : decode cX6_ropes 5 = .ok (.bipush 70, 2) := by decide +kernel
theorem dX6_ropes_7 : decode cX6_ropes 7 = .ok (.if_icmp .ge 21, 3) := by decide +kernel
theorem dX6_ropes_10 : decode cX6_ropes 10 = .ok (.iload_n 1, 1) := by decide +kernel
theorem dX6_ropes_11 : decode cX6_ropes 11 = .ok (.aload_n 0, 1) := by decide +kernel
theorem dX6_ropes_12 : decode cX6_ropes 12 = .ok (.getfield 7, 3) := by decide +kernel
theorem dX6_ropes_15 : decode cX6_ropes 15 = .ok (.bipush 91, 2) := by decide +kernel
theorem dX6_ropes_17 : decode cX6_ropes 17 = .ok (.iload_n 2, 1) := by decide +kernel
theorem dX6_ropes_18 : decode cX6_ropes 18 = .ok (.iadd, 1) := by decide +kernel
theorem dX6_ropes_19 : decode cX6_ropes 19 = .ok (.iaload, 1) := by decide +kernel
theorem dX6_ropes_20 : decode cX6_ropes 20 = .ok (.iadd, 1) := by decide +kernel
theorem dX6_ropes_21 : decode cX6_ropes 21 = .ok (.istore_n 1, 1) := by decide +kernel
theorem dX6_ropes_22 : decode cX6_ropes 22 = .ok (.iinc 2 1, 3) := by decide +kernel
theorem dX6_ropes_25 : decode cX6_ropes 25 = .ok (.goto (-21), 3) := by decide +kernel
theorem dX6_ropes_28 : decode cX6_ropes 28 = .ok (.iload_n 1, 1) := by decide +kernel
theorem dX6_ropes_29 : decode cX6_ropes 29 = .ok (.ireturn, 1) := by decide +kernel
set_option maxRecDepth 20000 in
theorem ggX6_isEdge_X6_beside : GoodIn wsX6_isEdge wsX6_beside := goodIn_r _ [4] (by decide +kernel) (by decide +kernel)
set_option maxRecDepth 20000 in
theorem gX6_isEdge_X6_beside : GoodIn wsX6_isEdge (va_wsS RX6 55 yX6_beside wsX6_beside) := goodIn_app (goodIn_of _ (by decide +kernel)) ggX6_isEdge_X6_beside
theorem dX6_isEdge_0 : decode cX6_isEdge 0 = .ok (.iload_n 0, 1) := by decide +kernel
theorem dX6_isEdge_1 : decode cX6_isEdge 1 = .ok (.iconst 2, 1) := by decide +kernel
theorem dX6_isEdge_2 : decode cX6_isEdge 2 = .ok (.iload_n 1, 1) := by decide +kernel
theorem dX6_isEdge_3 : decode cX6_isEdge 3 = .ok (.iadd, 1) := by decide +kernel
theorem dX6_isEdge_4 : decode cX6_isEdge 4 = .ok (.invokestatic 55, 3) := by decide +kernel
theorem dX6_isEdge_7 : decode cX6_isEdge 7 = .ok (.bipush (-6), 2) := by decide +kernel
theorem dX6_isEdge_9 : decode cX6_isEdge 9 = .ok (.if_icmp .eq 7, 3) := by decide +kernel
theorem dX6_isEdge_12 : decode cX6_isEdge 12 = .ok (.iconst 1, 1) := by decide +kernel
theorem dX6_isEdge_13 : decode cX6_isEdge 13 = .ok (.goto 4, 3) := by decide +kernel
theorem dX6_isEdge_16 : decode cX6_isEdge 16 = .ok (.iconst 0, 1) := by decide +kernel
theorem dX6_isEdge_17 : decode cX6_isEdge 17 = .ok (.ireturn, 1) := by decide +kernel
set_option maxRecDepth 20000 in
theorem ggX6_rope_X6_isCell : GoodIn wsX6_rope wsX6_isCell := goodIn_r _ [5, 6, 7, 4, 8] (by decide +kernel) (by decide +kernel)
set_option maxRecDepth 20000 in
theorem gX6_rope_X6_isCell : GoodIn wsX6_rope (va_wsS RX6 102 yX6_isCell wsX6_isCell) := goodIn_app (goodIn_of _ (by decide +kernel)) ggX6_rope_X6_isCell
set_option maxRecDepth 20000 in
theorem ggX6_rope_X6_in : GoodIn wsX6_rope wsX6_in := goodIn_r _ [8] (by decide +kernel) (by decide +kernel)
set_option maxRecDepth 20000 in
theorem gX6_rope_X6_in : GoodIn wsX6_rope (va_wsS RX6 47 yX6_in wsX6_in) := goodIn_app (goodIn_of _ (by decide +kernel)) ggX6_rope_X6_in
set_option maxRecDepth 20000 in
theorem ggX6_rope_X6_isEdge : GoodIn wsX6_rope wsX6_isEdge := goodIn_r _ [11, 12, 13, 4, 14] (by decide +kernel) (by decide +kernel)
set_option maxRecDepth 20000 in
theorem gX6_rope_X6_isEdge : GoodIn wsX6_rope (va_wsS RX6 106 yX6_isEdge wsX6_isEdge) := goodIn_app (goodIn_of _ (by decide +kernel)) ggX6_rope_X6_isEdge
set_option maxRecDepth 20000 in
theorem ggX6_rope_X6_ropeAt : GoodIn wsX6_rope wsX6_ropeAt := goodIn_r _ [17] (by decide +kernel) (by decide +kernel)
set_option maxRecDepth 20000 in
theorem gX6_rope_X6_ropeAt : GoodIn wsX6_rope (va_wsS RX6 59 yX6_ropeAt wsX6_ropeAt) := goodIn_app (goodIn_of _ (by decide +kernel)) ggX6_rope_X6_ropeAt
set_option maxRecDepth 20000 in
theorem ggX6_rope_X6_ropes : GoodIn wsX6_rope wsX6_ropes := goodIn_r _ [21, 1, 32, 33, 34, 35, 36, 37, 38, 39, 40, 41, 42, 43, 44, 45, 46, 47] (by decide +kernel) (by decide +kernel)
set_option maxRecDepth 20000 in
theorem gX6_rope_X6_ropes : GoodIn wsX6_rope (wsV RX6 109 RX6 yX6_ropes wsX6_ropes) := goodIn_app (goodIn_of _ (by decide +kernel)) ggX6_rope_X6_ropes
set_option maxRecDepth 20000 in
theorem ggX6_rope_X6_lays : GoodIn wsX6_rope wsX6_lays := goodIn_r _ [25, 1, 26, 27, 28, 4, 29, 30, 31, 32, 33, 34, 35, 36, 37, 38, 39, 40, 41, 42, 43, 44, 45, 46, 47] (by decide +kernel) (by decide +kernel)
set_option maxRecDepth 20000 in
theorem gX6_rope_X6_lays : GoodIn wsX6_rope (wsV RX6 99 RX6 yX6_lays wsX6_lays) := goodIn_app (goodIn_of _ (by decide +kernel)) ggX6_rope_X6_lays
theorem dX6_rope_0 : decode cX6_rope 0 = .ok (.iload_n 1, 1) := by decide +kernel
theorem dX6_rope_1 : decode cX6_rope 1 = .ok (.invokestatic 102, 3) := by decide +kernel
theorem dX6_rope_4 : decode cX6_rope 4 = .ok (.ifCond .ne 5, 3) := by decide +kernel
theorem dX6_rope_7 : decode cX6_rope 7 = .ok (.iconst (-1), 1) := by decide +kernel
theorem dX6_rope_8 : decode cX6_rope 8 = .ok (.ireturn, 1) := by decide +kernel
theorem dX6_rope_9 : decode cX6_rope 9 = .ok (.iload_n 2, 1) := by decide +kernel
theorem dX6_rope_10 : decode cX6_rope 10 = .ok (.iconst 0, 1) := by decide +kernel
theorem dX6_rope_11 : decode cX6_rope 11 = .ok (.iconst 1, 1) := by decide +kernel
theorem dX6_rope_12 : decode cX6_rope 12 = .ok (.invokestatic 47, 3) := by decide +kernel
theorem dX6_rope_15 : decode cX6_rope 15 = .ok (.ifCond .ne 6, 3) := by decide +kernel
theorem dX6_rope_18 : decode cX6_rope 18 = .ok (.bipush (-2), 2) := by decide +kernel
theorem dX6_rope_20 : decode cX6_rope 20 = .ok (.ireturn, 1) := by decide +kernel
theorem dX6_rope_21 : decode cX6_rope 21 = .ok (.iload_n 1, 1) := by decide +kernel
theorem dX6_rope_22 : decode cX6_rope 22 = .ok (.iload_n 2, 1) := by decide +kernel
theorem dX6_rope_23 : decode cX6_rope 23 = .ok (.invokestatic 106, 3) := by decide +kernel
theorem dX6_rope_26 : decode cX6_rope 26 = .ok (.ifCond .eq 27, 3) := by decide +kernel
theorem dX6_rope_29 : decode cX6_rope 29 = .ok (.aload_n 0, 1) := by decide +kernel
theorem dX6_rope_30 : decode cX6_rope 30 = .ok (.getfield 7, 3) := by decide +kernel
theorem dX6_rope_33 : decode cX6_rope 33 = .ok (.iload_n 1, 1) := by decide +kernel
theorem dX6_rope_34 : decode cX6_rope 34 = .ok (.iconst 2, 1) := by decide +kernel
theorem dX6_rope_35 : decode cX6_rope 35 = .ok (.iload_n 2, 1) := by decide +kernel
theorem dX6_rope_36 : decode cX6_rope 36 = .ok (.iadd, 1) := by decide +kernel
theorem dX6_rope_37 : decode cX6_rope 37 = .ok (.invokestatic 59, 3) := by decide +kernel
theorem dX6_rope_40 : decode cX6_rope 40 = .ok (.iaload, 1) := by decide +kernel
theorem dX6_rope_41 : decode cX6_rope 41 = .ok (.iload_n 3, 1) := by decide +kernel
theorem dX6_rope_42 : decode cX6_rope 42 = .ok (.ifCond .eq 7, 3) := by decide +kernel
theorem dX6_rope_45 : decode cX6_rope 45 = .ok (.iconst 1, 1) := by decide +kernel
theorem dX6_rope_46 : decode cX6_rope 46 = .ok (.goto 4, 3) := by decide +kernel
theorem dX6_rope_49 : decode cX6_rope 49 = .ok (.iconst 0, 1) := by decide +kernel
theorem dX6_rope_50 : decode cX6_rope 50 = .ok (.if_icmp .ne 6, 3) := by decide +kernel
theorem dX6_rope_53 : decode cX6_rope 53 = .ok (.bipush (-5), 2) := by decide +kernel
theorem dX6_rope_55 : decode cX6_rope 55 = .ok (.ireturn, 1) := by decide +kernel
theorem dX6_rope_56 : decode cX6_rope 56 = .ok (.iload_n 3, 1) := by decide +kernel
theorem dX6_rope_57 : decode cX6_rope 57 = .ok (.ifCond .eq 15, 3) := by decide +kernel
theorem dX6_rope_60 : decode cX6_rope 60 = .ok (.aload_n 0, 1) := by decide +kernel
theorem dX6_rope_61 : decode cX6_rope 61 = .ok (.invokevirtual 109, 3) := by decide +kernel
theorem dX6_rope_64 : decode cX6_rope 64 = .ok (.bipush 24, 2) := by decide +kernel
theorem dX6_rope_66 : decode cX6_rope 66 = .ok (.if_icmp .ne 6, 3) := by decide +kernel
theorem dX6_rope_69 : decode cX6_rope 69 = .ok (.bipush (-4), 2) := by decide +kernel
theorem dX6_rope_71 : decode cX6_rope 71 = .ok (.ireturn, 1) := by decide +kernel
theorem dX6_rope_72 : decode cX6_rope 72 = .ok (.aload_n 0, 1) := by decide +kernel
theorem dX6_rope_73 : decode cX6_rope 73 = .ok (.iload_n 1, 1) := by decide +kernel
theorem dX6_rope_74 : decode cX6_rope 74 = .ok (.iconst 2, 1) := by decide +kernel
theorem dX6_rope_75 : decode cX6_rope 75 = .ok (.iload_n 2, 1) := by decide +kernel
theorem dX6_rope_76 : decode cX6_rope 76 = .ok (.iadd, 1) := by decide +kernel
theorem dX6_rope_77 : decode cX6_rope 77 = .ok (.invokestatic 59, 3) := by decide +kernel
theorem dX6_rope_80 : decode cX6_rope 80 = .ok (.iload_n 3, 1) := by decide +kernel
theorem dX6_rope_81 : decode cX6_rope 81 = .ok (.ifCond .eq 7, 3) := by decide +kernel
theorem dX6_rope_84 : decode cX6_rope 84 = .ok (.iconst 1, 1) := by decide +kernel
theorem dX6_rope_85 : decode cX6_rope 85 = .ok (.goto 4, 3) := by decide +kernel
theorem dX6_rope_88 : decode cX6_rope 88 = .ok (.iconst 0, 1) := by decide +kernel
theorem dX6_rope_89 : decode cX6_rope 89 = .ok (.invokevirtual 99, 3) := by decide +kernel
theorem dX6_rope_92 : decode cX6_rope 92 = .ok (.istore 4, 2) := by decide +kernel
theorem dX6_rope_94 : decode cX6_rope 94 = .ok (.aload_n 0, 1) := by decide +kernel
theorem dX6_rope_95 : decode cX6_rope 95 = .ok (.invokevirtual 109, 3) := by decide +kernel
theorem dX6_rope_98 : decode cX6_rope 98 = .ok (.ireturn, 1) := by decide +kernel
set_option maxRecDepth 20000 in
theorem ggX6_door_X6_isDoor : GoodIn wsX6_door wsX6_isDoor := goodIn_r _ [5, 6, 7, 4, 8] (by decide +kernel) (by decide +kernel)
set_option maxRecDepth 20000 in
theorem gX6_door_X6_isDoor : GoodIn wsX6_door (va_wsS RX6 112 yX6_isDoor wsX6_isDoor) := goodIn_app (goodIn_of _ (by decide +kernel)) ggX6_door_X6_isDoor
set_option maxRecDepth 20000 in
theorem ggX6_door_X6_isCell : GoodIn wsX6_door wsX6_isCell := goodIn_r _ [11, 6, 7, 4, 8] (by decide +kernel) (by decide +kernel)
set_option maxRecDepth 20000 in
theorem gX6_door_X6_isCell : GoodIn wsX6_door (va_wsS RX6 102 yX6_isCell wsX6_isCell) := goodIn_app (goodIn_of _ (by decide +kernel)) ggX6_door_X6_isCell
set_option maxRecDepth 20000 in
theorem ggX6_door_X6_in : GoodIn wsX6_door wsX6_in := goodIn_r _ [8] (by decide +kernel) (by decide +kernel)
set_option maxRecDepth 20000 in
theorem gX6_door_X6_in : GoodIn wsX6_door (va_wsS RX6 47 yX6_in wsX6_in) := goodIn_app (goodIn_of _ (by decide +kernel)) ggX6_door_X6_in
set_option maxRecDepth 20000 in
theorem ggX6_door_X6_lays : GoodIn wsX6_door wsX6_lays := goodIn_r _ [15, 1, 16, 17, 18, 4, 19, 20, 21, 22, 23, 24, 25, 26, 27, 28, 29, 30, 31, 32, 33, 34, 35, 36, 37] (by decide +kernel) (by decide +kernel)
set_option maxRecDepth 20000 in
theorem gX6_door_X6_lays : GoodIn wsX6_door (wsV RX6 99 RX6 yX6_lays wsX6_lays) := goodIn_app (goodIn_of _ (by decide +kernel)) ggX6_door_X6_lays
theorem dX6_door_0 : decode cX6_door 0 = .ok (.iload_n 1, 1) := by decide +kernel
theorem dX6_door_1 : decode cX6_door 1 = .ok (.invokestatic 112, 3) := by decide +kernel
theorem dX6_door_4 : decode cX6_door 4 = .ok (.ifCond .eq 10, 3) := by decide +kernel
theorem dX6_door_7 : decode cX6_door 7 = .ok (.iload_n 2, 1) := by decide +kernel
theorem dX6_door_8 : decode cX6_door 8 = .ok (.invokestatic 102, 3) := by decide +kernel
theorem dX6_door_11 : decode cX6_door 11 = .ok (.ifCond .ne 5, 3) := by decide +kernel
theorem dX6_door_14 : decode cX6_door 14 = .ok (.iconst (-1), 1) := by decide +kernel
theorem dX6_door_15 : decode cX6_door 15 = .ok (.ireturn, 1) := by decide +kernel
theorem dX6_door_16 : decode cX6_door 16 = .ok (.iload_n 3, 1) := by decide +kernel
theorem dX6_door_17 : decode cX6_door 17 = .ok (.iconst 1, 1) := by decide +kernel
theorem dX6_door_18 : decode cX6_door 18 = .ok (.bipush 9, 2) := by decide +kernel
theorem dX6_door_20 : decode cX6_door 20 = .ok (.invokestatic 47, 3) := by decide +kernel
theorem dX6_door_23 : decode cX6_door 23 = .ok (.ifCond .ne 6, 3) := by decide +kernel
theorem dX6_door_26 : decode cX6_door 26 = .ok (.bipush (-2), 2) := by decide +kernel
theorem dX6_door_28 : decode cX6_door 28 = .ok (.ireturn, 1) := by decide +kernel
theorem dX6_door_29 : decode cX6_door 29 = .ok (.aload_n 0, 1) := by decide +kernel
theorem dX6_door_30 : decode cX6_door 30 = .ok (.iconst 5, 1) := by decide +kernel
theorem dX6_door_31 : decode cX6_door 31 = .ok (.iload_n 1, 1) := by decide +kernel
theorem dX6_door_32 : decode cX6_door 32 = .ok (.iadd, 1) := by decide +kernel
theorem dX6_door_33 : decode cX6_door 33 = .ok (.iload_n 2, 1) := by decide +kernel
theorem dX6_door_34 : decode cX6_door 34 = .ok (.invokevirtual 99, 3) := by decide +kernel
theorem dX6_door_37 : decode cX6_door 37 = .ok (.istore 4, 2) := by decide +kernel
theorem dX6_door_39 : decode cX6_door 39 = .ok (.aload_n 0, 1) := by decide +kernel
theorem dX6_door_40 : decode cX6_door 40 = .ok (.getfield 7, 3) := by decide +kernel
theorem dX6_door_43 : decode cX6_door 43 = .ok (.bipush 9, 2) := by decide +kernel
theorem dX6_door_45 : decode cX6_door 45 = .ok (.iload_n 1, 1) := by decide +kernel
theorem dX6_door_46 : decode cX6_door 46 = .ok (.iadd, 1) := by decide +kernel
theorem dX6_door_47 : decode cX6_door 47 = .ok (.iload_n 3, 1) := by decide +kernel
theorem dX6_door_48 : decode cX6_door 48 = .ok (.iastore, 1) := by decide +kernel
theorem dX6_door_49 : decode cX6_door 49 = .ok (.iload 4, 2) := by decide +kernel
theorem dX6_door_51 : decode cX6_door 51 = .ok (.ireturn, 1) := by decide +kernel
theorem dX6_openSet_0 : decode cX6_openSet 0 = .ok (.aload_n 0, 1) := by decide +kernel
theorem dX6_openSet_1 : decode cX6_openSet 1 = .ok (.getfield 7, 3) := by decide +kernel
theorem dX6_openSet_4 : decode cX6_openSet 4 = .ok (.bipush 13, 2) := by decide +kernel
theorem dX6_openSet_6 : decode cX6_openSet 6 = .ok (.iaload, 1) := by decide +kernel
theorem dX6_openSet_7 : decode cX6_openSet 7 = .ok (.iconst 2, 1) := by decide +kernel
theorem dX6_openSet_8 : decode cX6_openSet 8 = .ok (.aload_n 0, 1) := by decide +kernel
theorem dX6_openSet_9 : decode cX6_openSet 9 = .ok (.getfield 7, 3) := by decide +kernel
theorem dX6_openSet_12 : decode cX6_openSet 12 = .ok (.bipush 14, 2) := by decide +kernel
theorem dX6_openSet_14 : decode cX6_openSet 14 = .ok (.iaload, 1) := by decide +kernel
theorem dX6_openSet_15 : decode cX6_openSet 15 = .ok (.imul, 1) := by decide +kernel
theorem dX6_openSet_16 : decode cX6_openSet 16 = .ok (.iadd, 1) := by decide +kernel
theorem dX6_openSet_17 : decode cX6_openSet 17 = .ok (.iconst 4, 1) := by decide +kernel
theorem dX6_openSet_18 : decode cX6_openSet 18 = .ok (.aload_n 0, 1) := by decide +kernel
theorem dX6_openSet_19 : decode cX6_openSet 19 = .ok (.getfield 7, 3) := by decide +kernel
theorem dX6_openSet_22 : decode cX6_openSet 22 = .ok (.bipush 15, 2) := by decide +kernel
theorem dX6_openSet_24 : decode cX6_openSet 24 = .ok (.iaload, 1) := by decide +kernel
theorem dX6_openSet_25 : decode cX6_openSet 25 = .ok (.imul, 1) := by decide +kernel
theorem dX6_openSet_26 : decode cX6_openSet 26 = .ok (.iadd, 1) := by decide +kernel
theorem dX6_openSet_27 : decode cX6_openSet 27 = .ok (.bipush 8, 2) := by decide +kernel
theorem dX6_openSet_29 : decode cX6_openSet 29 = .ok (.aload_n 0, 1) := by decide +kernel
theorem dX6_openSet_30 : decode cX6_openSet 30 = .ok (.getfield 7, 3) := by decide +kernel
theorem dX6_openSet_33 : decode cX6_openSet 33 = .ok (.bipush 16, 2) := by decide +kernel
theorem dX6_openSet_35 : decode cX6_openSet 35 = .ok (.iaload, 1) := by decide +kernel
theorem dX6_openSet_36 : decode cX6_openSet 36 = .ok (.imul, 1) := by decide +kernel
theorem dX6_openSet_37 : decode cX6_openSet 37 = .ok (.iadd, 1) := by decide +kernel
theorem dX6_openSet_38 : decode cX6_openSet 38 = .ok (.ireturn, 1) := by decide +kernel
theorem dX6_openDoors_0 : decode cX6_openDoors 0 = .ok (.aload_n 0, 1) := by decide +kernel
theorem dX6_openDoors_1 : decode cX6_openDoors 1 = .ok (.getfield 7, 3) := by decide +kernel
theorem dX6_openDoors_4 : decode cX6_openDoors 4 = .ok (.bipush 13, 2) := by decide +kernel
theorem dX6_openDoors_6 : decode cX6_openDoors 6 = .ok (.iaload, 1) := by decide +kernel
theorem dX6_openDoors_7 : decode cX6_openDoors 7 = .ok (.aload_n 0, 1) := by decide +kernel
theorem dX6_openDoors_8 : decode cX6_openDoors 8 = .ok (.getfield 7, 3) := by decide +kernel
theorem dX6_openDoors_11 : decode cX6_openDoors 11 = .ok (.bipush 14, 2) := by decide +kernel
theorem dX6_openDoors_13 : decode cX6_openDoors 13 = .ok (.iaload, 1) := by decide +kernel
theorem dX6_openDoors_14 : decode cX6_openDoors 14 = .ok (.iadd, 1) := by decide +kernel
theorem dX6_openDoors_15 : decode cX6_openDoors 15 = .ok (.aload_n 0, 1) := by decide +kernel
theorem dX6_openDoors_16 : decode cX6_openDoors 16 = .ok (.getfield 7, 3) := by decide +kernel
theorem dX6_openDoors_19 : decode cX6_openDoors 19 = .ok (.bipush 15, 2) := by decide +kernel
theorem dX6_openDoors_21 : decode cX6_openDoors 21 = .ok (.iaload, 1) := by decide +kernel
theorem dX6_openDoors_22 : decode cX6_openDoors 22 = .ok (.iadd, 1) := by decide +kernel
theorem dX6_openDoors_23 : decode cX6_openDoors 23 = .ok (.aload_n 0, 1) := by decide +kernel
theorem dX6_openDoors_24 : decode cX6_openDoors 24 = .ok (.getfield 7, 3) := by decide +kernel
theorem dX6_openDoors_27 : decode cX6_openDoors 27 = .ok (.bipush 16, 2) := by decide +kernel
theorem dX6_openDoors_29 : decode cX6_openDoors 29 = .ok (.iaload, 1) := by decide +kernel
theorem dX6_openDoors_30 : decode cX6_openDoors 30 = .ok (.iadd, 1) := by decide +kernel
theorem dX6_openDoors_31 : decode cX6_openDoors 31 = .ok (.ireturn, 1) := by decide +kernel
set_option maxRecDepth 20000 in
theorem ggX6_open_X6_isDoor : GoodIn wsX6_open wsX6_isDoor := goodIn_r _ [5, 6, 7, 4, 8] (by decide +kernel) (by decide +kernel)
set_option maxRecDepth 20000 in
theorem gX6_open_X6_isDoor : GoodIn wsX6_open (va_wsS RX6 112 yX6_isDoor wsX6_isDoor) := goodIn_app (goodIn_of _ (by decide +kernel)) ggX6_open_X6_isDoor
set_option maxRecDepth 20000 in
theorem ggX6_open_X6_lays : GoodIn wsX6_open wsX6_lays := goodIn_r _ [12, 1, 13, 14, 15, 4, 16, 17, 18, 23, 24, 25, 26, 27, 28, 29, 30, 31, 32, 33, 34, 35, 36, 37, 38] (by decide +kernel) (by decide +kernel)
set_option maxRecDepth 20000 in
theorem gX6_open_X6_lays : GoodIn wsX6_open (wsV RX6 99 RX6 yX6_lays wsX6_lays) := goodIn_app (goodIn_of _ (by decide +kernel)) ggX6_open_X6_lays
set_option maxRecDepth 20000 in
theorem ggX6_open_X6_openDoors : GoodIn wsX6_open wsX6_openDoors := goodIn_r _ [22, 1, 23, 24, 25, 26, 27, 28, 29, 30, 31, 32, 33, 34, 35, 36, 37, 38] (by decide +kernel) (by decide +kernel)
set_option maxRecDepth 20000 in
theorem gX6_open_X6_openDoors : GoodIn wsX6_open (wsV RX6 115 RX6 yX6_openDoors wsX6_openDoors) := goodIn_app (goodIn_of _ (by decide +kernel)) ggX6_open_X6_openDoors
theorem dX6_open_0 : decode cX6_open 0 = .ok (.iload_n 1, 1) := by decide +kernel
theorem dX6_open_1 : decode cX6_open 1 = .ok (.invokestatic 112, 3) := by decide +kernel
theorem dX6_open_4 : decode cX6_open 4 = .ok (.ifCond .ne 5, 3) := by decide +kernel
theorem dX6_open_7 : decode cX6_open 7 = .ok (.iconst (-1), 1) := by decide +kernel
theorem dX6_open_8 : decode cX6_open 8 = .ok (.ireturn, 1) := by decide +kernel
theorem dX6_open_9 : decode cX6_open 9 = .ok (.aload_n 0, 1) := by decide +kernel
theorem dX6_open_10 : decode cX6_open 10 = .ok (.getfield 7, 3) := by decide +kernel
theorem dX6_open_13 : decode cX6_open 13 = .ok (.bipush 13, 2) := by decide +kernel
theorem dX6_open_15 : decode cX6_open 15 = .ok (.iload_n 1, 1) := by decide +kernel
theorem dX6_open_16 : decode cX6_open 16 = .ok (.iadd, 1) := by decide +kernel
theorem dX6_open_17 : decode cX6_open 17 = .ok (.iaload, 1) := by decide +kernel
theorem dX6_open_18 : decode cX6_open 18 = .ok (.iload_n 2, 1) := by decide +kernel
theorem dX6_open_19 : decode cX6_open 19 = .ok (.ifCond .eq 7, 3) := by decide +kernel
theorem dX6_open_22 : decode cX6_open 22 = .ok (.iconst 1, 1) := by decide +kernel
theorem dX6_open_23 : decode cX6_open 23 = .ok (.goto 4, 3) := by decide +kernel
theorem dX6_open_26 : decode cX6_open 26 = .ok (.iconst 0, 1) := by decide +kernel
theorem dX6_open_27 : decode cX6_open 27 = .ok (.if_icmp .ne 6, 3) := by decide +kernel
theorem dX6_open_30 : decode cX6_open 30 = .ok (.bipush (-5), 2) := by decide +kernel
theorem dX6_open_32 : decode cX6_open 32 = .ok (.ireturn, 1) := by decide +kernel
theorem dX6_open_33 : decode cX6_open 33 = .ok (.aload_n 0, 1) := by decide +kernel
theorem dX6_open_34 : decode cX6_open 34 = .ok (.bipush 13, 2) := by decide +kernel
theorem dX6_open_36 : decode cX6_open 36 = .ok (.iload_n 1, 1) := by decide +kernel
theorem dX6_open_37 : decode cX6_open 37 = .ok (.iadd, 1) := by decide +kernel
theorem dX6_open_38 : decode cX6_open 38 = .ok (.iload_n 2, 1) := by decide +kernel
theorem dX6_open_39 : decode cX6_open 39 = .ok (.ifCond .eq 7, 3) := by decide +kernel
theorem dX6_open_42 : decode cX6_open 42 = .ok (.iconst 1, 1) := by decide +kernel
theorem dX6_open_43 : decode cX6_open 43 = .ok (.goto 4, 3) := by decide +kernel
theorem dX6_open_46 : decode cX6_open 46 = .ok (.iconst 0, 1) := by decide +kernel
theorem dX6_open_47 : decode cX6_open 47 = .ok (.invokevirtual 99, 3) := by decide +kernel
theorem dX6_open_50 : decode cX6_open 50 = .ok (.istore_n 3, 1) := by decide +kernel
theorem dX6_open_51 : decode cX6_open 51 = .ok (.aload_n 0, 1) := by decide +kernel
theorem dX6_open_52 : decode cX6_open 52 = .ok (.invokevirtual 115, 3) := by decide +kernel
theorem dX6_open_55 : decode cX6_open 55 = .ok (.ireturn, 1) := by decide +kernel
set_option maxRecDepth 20000 in
theorem ggX6_guard_X6_isCell : GoodIn wsX6_guard wsX6_isCell := goodIn_r _ [5, 6, 7, 4, 8] (by decide +kernel) (by decide +kernel)
set_option maxRecDepth 20000 in
theorem gX6_guard_X6_isCell : GoodIn wsX6_guard (va_wsS RX6 102 yX6_isCell wsX6_isCell) := goodIn_app (goodIn_of _ (by decide +kernel)) ggX6_guard_X6_isCell
set_option maxRecDepth 20000 in
theorem ggX6_guard_X6_in : GoodIn wsX6_guard wsX6_in := goodIn_r _ [8] (by decide +kernel) (by decide +kernel)
set_option maxRecDepth 20000 in
theorem gX6_guard_X6_in : GoodIn wsX6_guard (va_wsS RX6 47 yX6_in wsX6_in) := goodIn_app (goodIn_of _ (by decide +kernel)) ggX6_guard_X6_in
set_option maxRecDepth 20000 in
theorem ggX6_guard_X6_lays : GoodIn wsX6_guard wsX6_lays := goodIn_r _ [12, 13, 14, 15, 16, 4, 17, 18, 19, 53, 54, 55, 56, 57, 58, 59, 60, 61, 62, 63, 64, 65, 66, 67, 68] (by decide +kernel) (by decide +kernel)
set_option maxRecDepth 20000 in
theorem gX6_guard_X6_lays : GoodIn wsX6_guard (wsV RX6 99 RX6 yX6_lays wsX6_lays) := goodIn_app (goodIn_of _ (by decide +kernel)) ggX6_guard_X6_lays
set_option maxRecDepth 20000 in
theorem ggX6_guard_X6_layWays : GoodIn wsX6_guard wsX6_layWays := goodIn_r _ [23, 1, 24, 25, 26, 27, 28, 29, 4, 30, 13, 31, 32, 33, 34, 35, 36, 37, 38, 39, 40, 41, 42, 43, 44, 45, 46, 47, 48, 49, 50, 51, 52, 53, 54, 55, 56, 57, 58, 59, 60, 61, 62, 63, 64, 65, 66, 67, 68] (by decide +kernel) (by decide +kernel)
set_option maxRecDepth 20000 in
theorem gX6_guard_X6_layWays : GoodIn wsX6_guard (wsV RX6 118 RX6 yX6_layWays wsX6_layWays) := goodIn_app (goodIn_of _ (by decide +kernel)) ggX6_guard_X6_layWays
theorem dX6_guard_0 : decode cX6_guard 0 = .ok (.iload_n 1, 1) := by decide +kernel
theorem dX6_guard_1 : decode cX6_guard 1 = .ok (.invokestatic 102, 3) := by decide +kernel
theorem dX6_guard_4 : decode cX6_guard 4 = .ok (.ifCond .ne 5, 3) := by decide +kernel
theorem dX6_guard_7 : decode cX6_guard 7 = .ok (.iconst (-1), 1) := by decide +kernel
theorem dX6_guard_8 : decode cX6_guard 8 = .ok (.ireturn, 1) := by decide +kernel
theorem dX6_guard_9 : decode cX6_guard 9 = .ok (.iload_n 2, 1) := by decide +kernel
theorem dX6_guard_10 : decode cX6_guard 10 = .ok (.iconst (-1), 1) := by decide +kernel
theorem dX6_guard_11 : decode cX6_guard 11 = .ok (.iconst 3, 1) := by decide +kernel
theorem dX6_guard_12 : decode cX6_guard 12 = .ok (.invokestatic 47, 3) := by decide +kernel
theorem dX6_guard_15 : decode cX6_guard 15 = .ok (.ifCond .ne 6, 3) := by decide +kernel
theorem dX6_guard_18 : decode cX6_guard 18 = .ok (.bipush (-2), 2) := by decide +kernel
theorem dX6_guard_20 : decode cX6_guard 20 = .ok (.ireturn, 1) := by decide +kernel
theorem dX6_guard_21 : decode cX6_guard 21 = .ok (.aload_n 0, 1) := by decide +kernel
theorem dX6_guard_22 : decode cX6_guard 22 = .ok (.bipush 56, 2) := by decide +kernel
theorem dX6_guard_24 : decode cX6_guard 24 = .ok (.iload_n 1, 1) := by decide +kernel
theorem dX6_guard_25 : decode cX6_guard 25 = .ok (.iadd, 1) := by decide +kernel
theorem dX6_guard_26 : decode cX6_guard 26 = .ok (.iload_n 2, 1) := by decide +kernel
theorem dX6_guard_27 : decode cX6_guard 27 = .ok (.invokevirtual 99, 3) := by decide +kernel
theorem dX6_guard_30 : decode cX6_guard 30 = .ok (.istore_n 3, 1) := by decide +kernel
theorem dX6_guard_31 : decode cX6_guard 31 = .ok (.aload_n 0, 1) := by decide +kernel
theorem dX6_guard_32 : decode cX6_guard 32 = .ok (.invokevirtual 118, 3) := by decide +kernel
theorem dX6_guard_35 : decode cX6_guard 35 = .ok (.aload_n 0, 1) := by decide +kernel
theorem dX6_guard_36 : decode cX6_guard 36 = .ok (.getfield 32, 3) := by decide +kernel
theorem dX6_guard_39 : decode cX6_guard 39 = .ok (.iload_n 1, 1) := by decide +kernel
theorem dX6_guard_40 : decode cX6_guard 40 = .ok (.iaload, 1) := by decide +kernel
theorem dX6_guard_41 : decode cX6_guard 41 = .ok (.ireturn, 1) := by decide +kernel
set_option maxRecDepth 20000 in
theorem ggX6_enter_X6_isCell : GoodIn wsX6_enter wsX6_isCell := goodIn_r _ [5, 6, 7, 4, 8] (by decide +kernel) (by decide +kernel)
set_option maxRecDepth 20000 in
theorem gX6_enter_X6_isCell : GoodIn wsX6_enter (va_wsS RX6 102 yX6_isCell wsX6_isCell) := goodIn_app (goodIn_of _ (by decide +kernel)) ggX6_enter_X6_isCell
set_option maxRecDepth 20000 in
theorem ggX6_enter_X6_in : GoodIn wsX6_enter wsX6_in := goodIn_r _ [8] (by decide +kernel) (by decide +kernel)
set_option maxRecDepth 20000 in
theorem gX6_enter_X6_in : GoodIn wsX6_enter (va_wsS RX6 47 yX6_in wsX6_in) := goodIn_app (goodIn_of _ (by decide +kernel)) ggX6_enter_X6_in
set_option maxRecDepth 20000 in
theorem ggX6_enter_X6_record : GoodIn wsX6_enter wsX6_record := goodIn_r _ [12, 13, 14, 1, 15, 16, 17, 18, 19, 20, 21, 22, 23, 24, 25, 26, 27, 28, 29, 30] (by decide +kernel) (by decide +kernel)
set_option maxRecDepth 20000 in
theorem gX6_enter_X6_record : GoodIn wsX6_enter (wsV RX6 96 RX6 yX6_record wsX6_record) := goodIn_app (goodIn_of _ (by decide +kernel)) ggX6_enter_X6_record
theorem dX6_enter_0 : decode cX6_enter 0 = .ok (.iload_n 1, 1) := by decide +kernel
theorem dX6_enter_1 : decode cX6_enter 1 = .ok (.invokestatic 102, 3) := by decide +kernel
theorem dX6_enter_4 : decode cX6_enter 4 = .ok (.ifCond .ne 5, 3) := by decide +kernel
theorem dX6_enter_7 : decode cX6_enter 7 = .ok (.iconst (-1), 1) := by decide +kernel
theorem dX6_enter_8 : decode cX6_enter 8 = .ok (.ireturn, 1) := by decide +kernel
theorem dX6_enter_9 : decode cX6_enter 9 = .ok (.iload_n 2, 1) := by decide +kernel
theorem dX6_enter_10 : decode cX6_enter 10 = .ok (.iconst 1, 1) := by decide +kernel
theorem dX6_enter_11 : decode cX6_enter 11 = .ok (.bipush 20, 2) := by decide +kernel
theorem dX6_enter_13 : decode cX6_enter 13 = .ok (.invokestatic 47, 3) := by decide +kernel
theorem dX6_enter_16 : decode cX6_enter 16 = .ok (.ifCond .ne 6, 3) := by decide +kernel
theorem dX6_enter_19 : decode cX6_enter 19 = .ok (.bipush (-2), 2) := by decide +kernel
theorem dX6_enter_21 : decode cX6_enter 21 = .ok (.ireturn, 1) := by decide +kernel
theorem dX6_enter_22 : decode cX6_enter 22 = .ok (.aload_n 0, 1) := by decide +kernel
theorem dX6_enter_23 : decode cX6_enter 23 = .ok (.getfield 7, 3) := by decide +kernel
theorem dX6_enter_26 : decode cX6_enter 26 = .ok (.bipush 21, 2) := by decide +kernel
theorem dX6_enter_28 : decode cX6_enter 28 = .ok (.iload_n 1, 1) := by decide +kernel
theorem dX6_enter_29 : decode cX6_enter 29 = .ok (.iadd, 1) := by decide +kernel
theorem dX6_enter_30 : decode cX6_enter 30 = .ok (.iaload, 1) := by decide +kernel
theorem dX6_enter_31 : decode cX6_enter 31 = .ok (.iload_n 2, 1) := by decide +kernel
theorem dX6_enter_32 : decode cX6_enter 32 = .ok (.iadd, 1) := by decide +kernel
theorem dX6_enter_33 : decode cX6_enter 33 = .ok (.aload_n 0, 1) := by decide +kernel
theorem dX6_enter_34 : decode cX6_enter 34 = .ok (.getfield 7, 3) := by decide +kernel
theorem dX6_enter_37 : decode cX6_enter 37 = .ok (.iconst 0, 1) := by decide +kernel
theorem dX6_enter_38 : decode cX6_enter 38 = .ok (.iaload, 1) := by decide +kernel
theorem dX6_enter_39 : decode cX6_enter 39 = .ok (.if_icmp .le 6, 3) := by decide +kernel
theorem dX6_enter_42 : decode cX6_enter 42 = .ok (.bipush (-4), 2) := by decide +kernel
theorem dX6_enter_44 : decode cX6_enter 44 = .ok (.ireturn, 1) := by decide +kernel
theorem dX6_enter_45 : decode cX6_enter 45 = .ok (.aload_n 0, 1) := by decide +kernel
theorem dX6_enter_46 : decode cX6_enter 46 = .ok (.invokevirtual 96, 3) := by decide +kernel
theorem dX6_enter_49 : decode cX6_enter 49 = .ok (.aload_n 0, 1) := by decide +kernel
theorem dX6_enter_50 : decode cX6_enter 50 = .ok (.getfield 7, 3) := by decide +kernel
theorem dX6_enter_53 : decode cX6_enter 53 = .ok (.bipush 21, 2) := by decide +kernel
theorem dX6_enter_55 : decode cX6_enter 55 = .ok (.iload_n 1, 1) := by decide +kernel
