theorem dX7_partsOfAll_6 : decode cX7_partsOfAll 6 = .ok (.getfield 10, 3) := by decide +kernel
theorem dX7_partsOfAll_9 : decode cX7_partsOfAll 9 = .ok (.getfield 113, 3) := by decide +kernel
theorem dX7_partsOfAll_12 : decode cX7_partsOfAll 12 = .ok (.if_icmp .ge 38, 3) := by decide +kernel
theorem dX7_partsOfAll_15 : decode cX7_partsOfAll 15 = .ok (.aload_n 0, 1) := by decide +kernel
theorem dX7_partsOfAll_16 : decode cX7_partsOfAll 16 = .ok (.aload_n 0, 1) := by decide +kernel
theorem dX7_partsOfAll_17 : decode cX7_partsOfAll 17 = .ok (.getfield 10, 3) := by decide +kernel
theorem dX7_partsOfAll_20 : decode cX7_partsOfAll 20 = .ok (.iload_n 2, 1) := by decide +kernel
theorem dX7_partsOfAll_21 : decode cX7_partsOfAll 21 = .ok (.invokevirtual 173, 3) := by decide +kernel
theorem dX7_partsOfAll_24 : decode cX7_partsOfAll 24 = .ok (.iload_n 1, 1) := by decide +kernel
theorem dX7_partsOfAll_25 : decode cX7_partsOfAll 25 = .ok (.aload_n 0, 1) := by decide +kernel
theorem dX7_partsOfAll_26 : decode cX7_partsOfAll 26 = .ok (.getfield 51, 3) := by decide +kernel
theorem dX7_partsOfAll_29 : decode cX7_partsOfAll 29 = .ok (.getfield 180, 3) := by decide +kernel
theorem dX7_partsOfAll_32 : decode cX7_partsOfAll 32 = .ok (.aload_n 0, 1) := by decide +kernel
theorem dX7_partsOfAll_33 : decode cX7_partsOfAll 33 = .ok (.getfield 10, 3) := by decide +kernel
theorem dX7_partsOfAll_36 : decode cX7_partsOfAll 36 = .ok (.getfield 123, 3) := by decide +kernel
theorem dX7_partsOfAll_39 : decode cX7_partsOfAll 39 = .ok (.iload_n 2, 1) := by decide +kernel
theorem dX7_partsOfAll_40 : decode cX7_partsOfAll 40 = .ok (.iaload, 1) := by decide +kernel
theorem dX7_partsOfAll_41 : decode cX7_partsOfAll 41 = .ok (.imul, 1) := by decide +kernel
theorem dX7_partsOfAll_42 : decode cX7_partsOfAll 42 = .ok (.iadd, 1) := by decide +kernel
theorem dX7_partsOfAll_43 : decode cX7_partsOfAll 43 = .ok (.istore_n 1, 1) := by decide +kernel
theorem dX7_partsOfAll_44 : decode cX7_partsOfAll 44 = .ok (.iinc 2 1, 3) := by decide +kernel
theorem dX7_partsOfAll_47 : decode cX7_partsOfAll 47 = .ok (.goto (-43), 3) := by decide +kernel
theorem dX7_partsOfAll_50 : decode cX7_partsOfAll 50 = .ok (.iload_n 1, 1) := by decide +kernel
theorem dX7_partsOfAll_51 : decode cX7_partsOfAll 51 = .ok (.ireturn, 1) := by decide +kernel
set_option maxRecDepth 20000 in
theorem ggX7_timesInBestCuts_X7_cutBest : GoodIn wsX7_timesInBestCuts wsX7_cutBest := goodIn_r _ [11, 12, 3, 13, 14, 15, 16, 17, 18, 19, 20, 21, 22, 23, 24, 25, 26, 27, 28, 29, 30, 31, 32, 33, 34, 35, 36, 37, 38, 39, 40, 41, 42, 43, 44, 45, 46, 47, 48, 49, 50, 51, 52, 53, 54, 55, 56, 57, 58, 59, 60, 61, 62, 63, 64, 65, 66, 67, 68, 69, 70, 71, 72, 73, 74, 75, 76, 77, 78, 79, 80, 81, 82, 83, 84, 85, 86, 87, 88, 89, 90, 91, 92, 93, 94, 95, 96, 97, 98, 99, 100, 101, 102, 111, 112, 113, 114, 103, 104, 105, 106, 107, 108, 109, 110] (by decide +kernel) (by decide +kernel)
set_option maxRecDepth 20000 in
theorem gX7_timesInBestCuts_X7_cutBest : GoodIn wsX7_timesInBestCuts (wsV RX7 173 RX7 yX7_cutBest wsX7_cutBest) := goodIn_app (goodIn_of _ (by decide +kernel)) ggX7_timesInBestCuts_X7_cutBest
theorem dX7_timesInBestCuts_0 : decode cX7_timesInBestCuts 0 = .ok (.iconst 0, 1) := by decide +kernel
theorem dX7_timesInBestCuts_1 : decode cX7_timesInBestCuts 1 = .ok (.istore_n 2, 1) := by decide +kernel
theorem dX7_timesInBestCuts_2 : decode cX7_timesInBestCuts 2 = .ok (.iconst 0, 1) := by decide +kernel
theorem dX7_timesInBestCuts_3 : decode cX7_timesInBestCuts 3 = .ok (.istore_n 3, 1) := by decide +kernel
theorem dX7_timesInBestCuts_4 : decode cX7_timesInBestCuts 4 = .ok (.iload_n 3, 1) := by decide +kernel
theorem dX7_timesInBestCuts_5 : decode cX7_timesInBestCuts 5 = .ok (.aload_n 0, 1) := by decide +kernel
theorem dX7_timesInBestCuts_6 : decode cX7_timesInBestCuts 6 = .ok (.getfield 10, 3) := by decide +kernel
theorem dX7_timesInBestCuts_9 : decode cX7_timesInBestCuts 9 = .ok (.getfield 113, 3) := by decide +kernel
theorem dX7_timesInBestCuts_12 : decode cX7_timesInBestCuts 12 = .ok (.if_icmp .ge 65, 3) := by decide +kernel
theorem dX7_timesInBestCuts_15 : decode cX7_timesInBestCuts 15 = .ok (.aload_n 0, 1) := by decide +kernel
theorem dX7_timesInBestCuts_16 : decode cX7_timesInBestCuts 16 = .ok (.aload_n 0, 1) := by decide +kernel
theorem dX7_timesInBestCuts_17 : decode cX7_timesInBestCuts 17 = .ok (.getfield 10, 3) := by decide +kernel
theorem dX7_timesInBestCuts_20 : decode cX7_timesInBestCuts 20 = .ok (.iload_n 3, 1) := by decide +kernel
theorem dX7_timesInBestCuts_21 : decode cX7_timesInBestCuts 21 = .ok (.invokevirtual 173, 3) := by decide +kernel
theorem dX7_timesInBestCuts_24 : decode cX7_timesInBestCuts 24 = .ok (.iconst 0, 1) := by decide +kernel
theorem dX7_timesInBestCuts_25 : decode cX7_timesInBestCuts 25 = .ok (.istore 4, 2) := by decide +kernel
theorem dX7_timesInBestCuts_27 : decode cX7_timesInBestCuts 27 = .ok (.iload 4, 2) := by decide +kernel
theorem dX7_timesInBestCuts_29 : decode cX7_timesInBestCuts 29 = .ok (.aload_n 0, 1) := by decide +kernel
theorem dX7_timesInBestCuts_30 : decode cX7_timesInBestCuts 30 = .ok (.getfield 51, 3) := by decide +kernel
theorem dX7_timesInBestCuts_33 : decode cX7_timesInBestCuts 33 = .ok (.getfield 180, 3) := by decide +kernel
theorem dX7_timesInBestCuts_36 : decode cX7_timesInBestCuts 36 = .ok (.if_icmp .ge 35, 3) := by decide +kernel
theorem dX7_timesInBestCuts_39 : decode cX7_timesInBestCuts 39 = .ok (.aload_n 0, 1) := by decide +kernel
theorem dX7_timesInBestCuts_40 : decode cX7_timesInBestCuts 40 = .ok (.getfield 51, 3) := by decide +kernel
theorem dX7_timesInBestCuts_43 : decode cX7_timesInBestCuts 43 = .ok (.getfield 213, 3) := by decide +kernel
theorem dX7_timesInBestCuts_46 : decode cX7_timesInBestCuts 46 = .ok (.iload 4, 2) := by decide +kernel
theorem dX7_timesInBestCuts_48 : decode cX7_timesInBestCuts 48 = .ok (.iaload, 1) := by decide +kernel
theorem dX7_timesInBestCuts_49 : decode cX7_timesInBestCuts 49 = .ok (.iload_n 1, 1) := by decide +kernel
theorem dX7_timesInBestCuts_50 : decode cX7_timesInBestCuts 50 = .ok (.if_icmp .ne 15, 3) := by decide +kernel
theorem dX7_timesInBestCuts_53 : decode cX7_timesInBestCuts 53 = .ok (.iload_n 2, 1) := by decide +kernel
theorem dX7_timesInBestCuts_54 : decode cX7_timesInBestCuts 54 = .ok (.aload_n 0, 1) := by decide +kernel
theorem dX7_timesInBestCuts_55 : decode cX7_timesInBestCuts 55 = .ok (.getfield 10, 3) := by decide +kernel
theorem dX7_timesInBestCuts_58 : decode cX7_timesInBestCuts 58 = .ok (.getfield 123, 3) := by decide +kernel
theorem dX7_timesInBestCuts_61 : decode cX7_timesInBestCuts 61 = .ok (.iload_n 3, 1) := by decide +kernel
theorem dX7_timesInBestCuts_62 : decode cX7_timesInBestCuts 62 = .ok (.iaload, 1) := by decide +kernel
theorem dX7_timesInBestCuts_63 : decode cX7_timesInBestCuts 63 = .ok (.iadd, 1) := by decide +kernel
theorem dX7_timesInBestCuts_64 : decode cX7_timesInBestCuts 64 = .ok (.istore_n 2, 1) := by decide +kernel
theorem dX7_timesInBestCuts_65 : decode cX7_timesInBestCuts 65 = .ok (.iinc 4 1, 3) := by decide +kernel
theorem dX7_timesInBestCuts_68 : decode cX7_timesInBestCuts 68 = .ok (.goto (-41), 3) := by decide +kernel
theorem dX7_timesInBestCuts_71 : decode cX7_timesInBestCuts 71 = .ok (.iinc 3 1, 3) := by decide +kernel
theorem dX7_timesInBestCuts_74 : decode cX7_timesInBestCuts 74 = .ok (.goto (-70), 3) := by decide +kernel
theorem dX7_timesInBestCuts_77 : decode cX7_timesInBestCuts 77 = .ok (.iload_n 2, 1) := by decide +kernel
theorem dX7_timesInBestCuts_78 : decode cX7_timesInBestCuts 78 = .ok (.ireturn, 1) := by decide +kernel
set_option maxRecDepth 20000 in
theorem ggX7_loseEach_J7_fill_53178 : GoodIn wsX7_loseEach wsJ7_fill_53178 := goodIn_r _ [11] (by decide +kernel) (by decide +kernel)
set_option maxRecDepth 20000 in
theorem gX7_loseEach_J7_fill_53178 : GoodIn wsX7_loseEach (va_wsS RX7 262 yJ7_fill_53178 wsJ7_fill_53178) := goodIn_app (goodIn_of _ (by decide +kernel)) ggX7_loseEach_J7_fill_53178
set_option maxRecDepth 20000 in
theorem ggX7_loseEach_X4_read : GoodIn wsX7_loseEach wsX4_read := goodIn_r _ [16, 17, 18, 19, 20, 21, 22, 23, 24, 25, 26, 27, 28, 29, 15, 30, 31, 32, 33, 34, 35, 36, 37, 38, 39, 40, 41, 42, 43, 44, 45, 46, 47, 48, 49, 98, 99, 100, 101, 102, 103, 104, 105, 106, 107, 108, 109] (by decide +kernel) (by decide +kernel)
set_option maxRecDepth 20000 in
theorem gX7_loseEach_X4_read : GoodIn wsX7_loseEach (wsV RX7 201 RX4 yX4_read wsX4_read) := goodIn_app (goodIn_of _ (by decide +kernel)) ggX7_loseEach_X4_read
set_option maxRecDepth 20000 in
theorem ggX7_loseEach_X1_find : GoodIn wsX7_loseEach wsX1_find := goodIn_r _ [54, 55, 56, 57, 58, 59, 60, 53, 61, 62, 63, 28, 29, 15, 30, 18, 31, 32, 33, 34, 64, 65, 66, 67, 20, 68, 69, 70, 71, 26, 41, 42, 43, 72, 73, 74, 75, 76, 77, 78, 79, 80, 81, 110, 111, 112, 113, 114, 115, 116, 117, 106, 107, 108, 109] (by decide +kernel) (by decide +kernel)
set_option maxRecDepth 20000 in
theorem gX7_loseEach_X1_find : GoodIn wsX7_loseEach (wsV RX7 259 RX1 yX1_find wsX1_find) := goodIn_app (goodIn_of _ (by decide +kernel)) ggX7_loseEach_X1_find
set_option maxRecDepth 20000 in
theorem ggX7_loseEach_X1_cost : GoodIn wsX7_loseEach wsX1_cost := goodIn_r _ [85, 76, 77, 110, 111, 112, 113, 114, 115, 116, 117] (by decide +kernel) (by decide +kernel)
set_option maxRecDepth 20000 in
theorem gX7_loseEach_X1_cost : GoodIn wsX7_loseEach (wsV RX7 186 RX1 yX1_cost wsX1_cost) := goodIn_app (goodIn_of _ (by decide +kernel)) ggX7_loseEach_X1_cost
theorem dX7_loseEach_0 : decode cX7_loseEach 0 = .ok (.aload_n 0, 1) := by decide +kernel
theorem dX7_loseEach_1 : decode cX7_loseEach 1 = .ok (.getfield 73, 3) := by decide +kernel
theorem dX7_loseEach_4 : decode cX7_loseEach 4 = .ok (.iconst 0, 1) := by decide +kernel
theorem dX7_loseEach_5 : decode cX7_loseEach 5 = .ok (.invokestatic 262, 3) := by decide +kernel
theorem dX7_loseEach_8 : decode cX7_loseEach 8 = .ok (.iconst 0, 1) := by decide +kernel
theorem dX7_loseEach_9 : decode cX7_loseEach 9 = .ok (.istore_n 1, 1) := by decide +kernel
theorem dX7_loseEach_10 : decode cX7_loseEach 10 = .ok (.iload_n 1, 1) := by decide +kernel
theorem dX7_loseEach_11 : decode cX7_loseEach 11 = .ok (.aload_n 0, 1) := by decide +kernel
theorem dX7_loseEach_12 : decode cX7_loseEach 12 = .ok (.getfield 10, 3) := by decide +kernel
theorem dX7_loseEach_15 : decode cX7_loseEach 15 = .ok (.getfield 113, 3) := by decide +kernel
theorem dX7_loseEach_18 : decode cX7_loseEach 18 = .ok (.if_icmp .ge 78, 3) := by decide +kernel
theorem dX7_loseEach_21 : decode cX7_loseEach 21 = .ok (.aload_n 0, 1) := by decide +kernel
theorem dX7_loseEach_22 : decode cX7_loseEach 22 = .ok (.getfield 44, 3) := by decide +kernel
theorem dX7_loseEach_25 : decode cX7_loseEach 25 = .ok (.aload_n 0, 1) := by decide +kernel
theorem dX7_loseEach_26 : decode cX7_loseEach 26 = .ok (.getfield 10, 3) := by decide +kernel
theorem dX7_loseEach_29 : decode cX7_loseEach 29 = .ok (.iload_n 1, 1) := by decide +kernel
theorem dX7_loseEach_30 : decode cX7_loseEach 30 = .ok (.invokevirtual 201, 3) := by decide +kernel
theorem dX7_loseEach_33 : decode cX7_loseEach 33 = .ok (.iconst 0, 1) := by decide +kernel
theorem dX7_loseEach_34 : decode cX7_loseEach 34 = .ok (.istore_n 2, 1) := by decide +kernel
theorem dX7_loseEach_35 : decode cX7_loseEach 35 = .ok (.iload_n 2, 1) := by decide +kernel
theorem dX7_loseEach_36 : decode cX7_loseEach 36 = .ok (.aload_n 0, 1) := by decide +kernel
theorem dX7_loseEach_37 : decode cX7_loseEach 37 = .ok (.getfield 10, 3) := by decide +kernel
theorem dX7_loseEach_40 : decode cX7_loseEach 40 = .ok (.getfield 96, 3) := by decide +kernel
theorem dX7_loseEach_43 : decode cX7_loseEach 43 = .ok (.if_icmp .ge 47, 3) := by decide +kernel
theorem dX7_loseEach_46 : decode cX7_loseEach 46 = .ok (.aload_n 0, 1) := by decide +kernel
theorem dX7_loseEach_47 : decode cX7_loseEach 47 = .ok (.getfield 51, 3) := by decide +kernel
theorem dX7_loseEach_50 : decode cX7_loseEach 50 = .ok (.aload_n 0, 1) := by decide +kernel
theorem dX7_loseEach_51 : decode cX7_loseEach 51 = .ok (.getfield 44, 3) := by decide +kernel
theorem dX7_loseEach_54 : decode cX7_loseEach 54 = .ok (.iload_n 2, 1) := by decide +kernel
theorem dX7_loseEach_55 : decode cX7_loseEach 55 = .ok (.invokevirtual 259, 3) := by decide +kernel
theorem dX7_loseEach_58 : decode cX7_loseEach 58 = .ok (.aload_n 0, 1) := by decide +kernel
theorem dX7_loseEach_59 : decode cX7_loseEach 59 = .ok (.getfield 73, 3) := by decide +kernel
theorem dX7_loseEach_62 : decode cX7_loseEach 62 = .ok (.iload_n 2, 1) := by decide +kernel
theorem dX7_loseEach_63 : decode cX7_loseEach 63 = .ok (.dup2, 1) := by decide +kernel
theorem dX7_loseEach_64 : decode cX7_loseEach 64 = .ok (.iaload, 1) := by decide +kernel
theorem dX7_loseEach_65 : decode cX7_loseEach 65 = .ok (.aload_n 0, 1) := by decide +kernel
theorem dX7_loseEach_66 : decode cX7_loseEach 66 = .ok (.getfield 51, 3) := by decide +kernel
theorem dX7_loseEach_69 : decode cX7_loseEach 69 = .ok (.invokevirtual 186, 3) := by decide +kernel
theorem dX7_loseEach_72 : decode cX7_loseEach 72 = .ok (.aload_n 0, 1) := by decide +kernel
theorem dX7_loseEach_73 : decode cX7_loseEach 73 = .ok (.getfield 10, 3) := by decide +kernel
theorem dX7_loseEach_76 : decode cX7_loseEach 76 = .ok (.getfield 123, 3) := by decide +kernel
theorem dX7_loseEach_79 : decode cX7_loseEach 79 = .ok (.iload_n 1, 1) := by decide +kernel
theorem dX7_loseEach_80 : decode cX7_loseEach 80 = .ok (.iaload, 1) := by decide +kernel
theorem dX7_loseEach_81 : decode cX7_loseEach 81 = .ok (.imul, 1) := by decide +kernel
theorem dX7_loseEach_82 : decode cX7_loseEach 82 = .ok (.iadd, 1) := by decide +kernel
theorem dX7_loseEach_83 : decode cX7_loseEach 83 = .ok (.iastore, 1) := by decide +kernel
theorem dX7_loseEach_84 : decode cX7_loseEach 84 = .ok (.iinc 2 1, 3) := by decide +kernel
theorem dX7_loseEach_87 : decode cX7_loseEach 87 = .ok (.goto (-52), 3) := by decide +kernel
theorem dX7_loseEach_90 : decode cX7_loseEach 90 = .ok (.iinc 1 1, 3) := by decide +kernel
theorem dX7_loseEach_93 : decode cX7_loseEach 93 = .ok (.goto (-83), 3) := by decide +kernel
theorem dX7_loseEach_96 : decode cX7_loseEach 96 = .ok (.return_, 1) := by decide +kernel
set_option maxRecDepth 20000 in
theorem ggX7_bearAll_J7_fill_53178 : GoodIn wsX7_bearAll wsJ7_fill_53178 := goodIn_r _ [11] (by decide +kernel) (by decide +kernel)
set_option maxRecDepth 20000 in
theorem gX7_bearAll_J7_fill_53178 : GoodIn wsX7_bearAll (va_wsS RX7 262 yJ7_fill_53178 wsJ7_fill_53178) := goodIn_app (goodIn_of _ (by decide +kernel)) ggX7_bearAll_J7_fill_53178
set_option maxRecDepth 20000 in
theorem ggX7_bearAll_X4_read : GoodIn wsX7_bearAll wsX4_read := goodIn_r _ [16, 17, 18, 19, 20, 21, 22, 23, 24, 25, 26, 27, 28, 29, 15, 30, 31, 32, 33, 34, 35, 36, 37, 38, 39, 40, 41, 42, 43, 44, 45, 46, 47, 48, 49, 97, 98, 99, 100, 101, 102, 103, 104, 105, 106, 107, 108] (by decide +kernel) (by decide +kernel)
set_option maxRecDepth 20000 in
theorem gX7_bearAll_X4_read : GoodIn wsX7_bearAll (wsV RX7 201 RX4 yX4_read wsX4_read) := goodIn_app (goodIn_of _ (by decide +kernel)) ggX7_bearAll_X4_read
set_option maxRecDepth 20000 in
theorem ggX7_bearAll_X0_find : GoodIn wsX7_bearAll wsX0_find := goodIn_r _ [54, 55, 56, 57, 58, 59, 60, 10, 61, 62, 28, 29, 15, 30, 18, 31, 32, 33, 34, 63, 64, 65, 66, 20, 67, 68, 69, 70, 26, 41, 42, 43, 71, 72, 73, 53, 74, 109, 110, 111, 105, 106, 107, 108] (by decide +kernel) (by decide +kernel)
set_option maxRecDepth 20000 in
theorem gX7_bearAll_X0_find : GoodIn wsX7_bearAll (wsV RX7 189 RX0 yX0_find wsX0_find) := goodIn_app (goodIn_of _ (by decide +kernel)) ggX7_bearAll_X0_find
set_option maxRecDepth 20000 in
theorem ggX7_bearAll_X0_shareOf : GoodIn wsX7_bearAll wsX0_shareOf := goodIn_r _ [78, 56, 55, 57, 79, 62, 28, 29, 15, 30, 18, 31, 32, 33, 34, 80, 68, 69, 70, 26, 41, 42, 43, 63, 64, 65, 66, 20, 67, 81, 82, 83, 53, 84, 105, 106, 107, 108, 109, 110, 111] (by decide +kernel) (by decide +kernel)
set_option maxRecDepth 20000 in
theorem gX7_bearAll_X0_shareOf : GoodIn wsX7_bearAll (wsV RX7 222 RX0 yX0_shareOf wsX0_shareOf) := goodIn_app (goodIn_of _ (by decide +kernel)) ggX7_bearAll_X0_shareOf
theorem dX7_bearAll_0 : decode cX7_bearAll 0 = .ok (.aload_n 0, 1) := by decide +kernel
theorem dX7_bearAll_1 : decode cX7_bearAll 1 = .ok (.getfield 69, 3) := by decide +kernel
theorem dX7_bearAll_4 : decode cX7_bearAll 4 = .ok (.iconst 0, 1) := by decide +kernel
theorem dX7_bearAll_5 : decode cX7_bearAll 5 = .ok (.invokestatic 262, 3) := by decide +kernel
theorem dX7_bearAll_8 : decode cX7_bearAll 8 = .ok (.iconst 0, 1) := by decide +kernel
theorem dX7_bearAll_9 : decode cX7_bearAll 9 = .ok (.istore_n 1, 1) := by decide +kernel
theorem dX7_bearAll_10 : decode cX7_bearAll 10 = .ok (.iload_n 1, 1) := by decide +kernel
theorem dX7_bearAll_11 : decode cX7_bearAll 11 = .ok (.aload_n 0, 1) := by decide +kernel
theorem dX7_bearAll_12 : decode cX7_bearAll 12 = .ok (.getfield 10, 3) := by decide +kernel
theorem dX7_bearAll_15 : decode cX7_bearAll 15 = .ok (.getfield 113, 3) := by decide +kernel
theorem dX7_bearAll_18 : decode cX7_bearAll 18 = .ok (.if_icmp .ge 82, 3) := by decide +kernel
theorem dX7_bearAll_21 : decode cX7_bearAll 21 = .ok (.aload_n 0, 1) := by decide +kernel
theorem dX7_bearAll_22 : decode cX7_bearAll 22 = .ok (.getfield 44, 3) := by decide +kernel
theorem dX7_bearAll_25 : decode cX7_bearAll 25 = .ok (.aload_n 0, 1) := by decide +kernel
theorem dX7_bearAll_26 : decode cX7_bearAll 26 = .ok (.getfield 10, 3) := by decide +kernel
theorem dX7_bearAll_29 : decode cX7_bearAll 29 = .ok (.iload_n 1, 1) := by decide +kernel
theorem dX7_bearAll_30 : decode cX7_bearAll 30 = .ok (.invokevirtual 201, 3) := by decide +kernel
theorem dX7_bearAll_33 : decode cX7_bearAll 33 = .ok (.aload_n 0, 1) := by decide +kernel
theorem dX7_bearAll_34 : decode cX7_bearAll 34 = .ok (.getfield 58, 3) := by decide +kernel
theorem dX7_bearAll_37 : decode cX7_bearAll 37 = .ok (.aload_n 0, 1) := by decide +kernel
theorem dX7_bearAll_38 : decode cX7_bearAll 38 = .ok (.getfield 44, 3) := by decide +kernel
theorem dX7_bearAll_41 : decode cX7_bearAll 41 = .ok (.invokevirtual 189, 3) := by decide +kernel
theorem dX7_bearAll_44 : decode cX7_bearAll 44 = .ok (.iconst 0, 1) := by decide +kernel
theorem dX7_bearAll_45 : decode cX7_bearAll 45 = .ok (.istore_n 2, 1) := by decide +kernel
theorem dX7_bearAll_46 : decode cX7_bearAll 46 = .ok (.iload_n 2, 1) := by decide +kernel
theorem dX7_bearAll_47 : decode cX7_bearAll 47 = .ok (.aload_n 0, 1) := by decide +kernel
theorem dX7_bearAll_48 : decode cX7_bearAll 48 = .ok (.getfield 10, 3) := by decide +kernel
theorem dX7_bearAll_51 : decode cX7_bearAll 51 = .ok (.getfield 96, 3) := by decide +kernel
theorem dX7_bearAll_54 : decode cX7_bearAll 54 = .ok (.if_icmp .ge 40, 3) := by decide +kernel
theorem dX7_bearAll_57 : decode cX7_bearAll 57 = .ok (.aload_n 0, 1) := by decide +kernel
theorem dX7_bearAll_58 : decode cX7_bearAll 58 = .ok (.getfield 69, 3) := by decide +kernel
theorem dX7_bearAll_61 : decode cX7_bearAll 61 = .ok (.iload_n 2, 1) := by decide +kernel
theorem dX7_bearAll_62 : decode cX7_bearAll 62 = .ok (.dup2, 1) := by decide +kernel
theorem dX7_bearAll_63 : decode cX7_bearAll 63 = .ok (.iaload, 1) := by decide +kernel
theorem dX7_bearAll_64 : decode cX7_bearAll 64 = .ok (.aload_n 0, 1) := by decide +kernel
theorem dX7_bearAll_65 : decode cX7_bearAll 65 = .ok (.getfield 10, 3) := by decide +kernel
theorem dX7_bearAll_68 : decode cX7_bearAll 68 = .ok (.getfield 123, 3) := by decide +kernel
theorem dX7_bearAll_71 : decode cX7_bearAll 71 = .ok (.iload_n 1, 1) := by decide +kernel
theorem dX7_bearAll_72 : decode cX7_bearAll 72 = .ok (.iaload, 1) := by decide +kernel
theorem dX7_bearAll_73 : decode cX7_bearAll 73 = .ok (.aload_n 0, 1) := by decide +kernel
theorem dX7_bearAll_74 : decode cX7_bearAll 74 = .ok (.getfield 58, 3) := by decide +kernel
theorem dX7_bearAll_77 : decode cX7_bearAll 77 = .ok (.aload_n 0, 1) := by decide +kernel
theorem dX7_bearAll_78 : decode cX7_bearAll 78 = .ok (.getfield 44, 3) := by decide +kernel
theorem dX7_bearAll_81 : decode cX7_bearAll 81 = .ok (.iload_n 2, 1) := by decide +kernel
theorem dX7_bearAll_82 : decode cX7_bearAll 82 = .ok (.invokevirtual 222, 3) := by decide +kernel
theorem dX7_bearAll_85 : decode cX7_bearAll 85 = .ok (.imul, 1) := by decide +kernel
theorem dX7_bearAll_86 : decode cX7_bearAll 86 = .ok (.iadd, 1) := by decide +kernel
theorem dX7_bearAll_87 : decode cX7_bearAll 87 = .ok (.iastore, 1) := by decide +kernel
theorem dX7_bearAll_88 : decode cX7_bearAll 88 = .ok (.iinc 2 1, 3) := by decide +kernel
theorem dX7_bearAll_91 : decode cX7_bearAll 91 = .ok (.goto (-45), 3) := by decide +kernel
theorem dX7_bearAll_94 : decode cX7_bearAll 94 = .ok (.iinc 1 1, 3) := by decide +kernel
theorem dX7_bearAll_97 : decode cX7_bearAll 97 = .ok (.goto (-87), 3) := by decide +kernel
theorem dX7_bearAll_100 : decode cX7_bearAll 100 = .ok (.return_, 1) := by decide +kernel
set_option maxRecDepth 20000 in
theorem ggX7_findLeast_X7_loseEach : GoodIn wsX7_findLeast wsX7_loseEach := goodIn_r _ [9, 3, 1, 10, 11, 2, 12, 13, 14, 15, 16, 17, 18, 19, 20, 21, 22, 23, 24, 25, 26, 27, 28, 29, 30, 31, 32, 33, 34, 35, 36, 37, 38, 39, 40, 41, 42, 43, 44, 45, 46, 47, 48, 49, 50, 51, 52, 53, 54, 55, 56, 57, 58, 59, 60, 61, 62, 63, 64, 65, 66, 67, 68, 69, 70, 71, 72, 73, 74, 75, 76, 77, 78, 79, 80, 81, 82, 83, 84, 85, 86, 87, 88, 89, 90, 91, 92, 93, 94, 95, 96, 97, 98, 99, 100, 101, 102, 103, 104, 105, 106, 107, 108, 109, 110, 111, 112, 113, 114, 115, 116, 117, 118, 119, 120, 121, 122, 123] (by decide +kernel) (by decide +kernel)
set_option maxRecDepth 20000 in
theorem gX7_findLeast_X7_loseEach : GoodIn wsX7_findLeast (wsV RX7 165 RX7 yX7_loseEach wsX7_loseEach) := goodIn_app (goodIn_of _ (by decide +kernel)) ggX7_findLeast_X7_loseEach
theorem dX7_findLeast_0 : decode cX7_findLeast 0 = .ok (.aload_n 0, 1) := by decide +kernel
theorem dX7_findLeast_1 : decode cX7_findLeast 1 = .ok (.invokevirtual 165, 3) := by decide +kernel
theorem dX7_findLeast_4 : decode cX7_findLeast 4 = .ok (.iconst (-1), 1) := by decide +kernel
theorem dX7_findLeast_5 : decode cX7_findLeast 5 = .ok (.istore_n 1, 1) := by decide +kernel
theorem dX7_findLeast_6 : decode cX7_findLeast 6 = .ok (.iconst 0, 1) := by decide +kernel
theorem dX7_findLeast_7 : decode cX7_findLeast 7 = .ok (.istore_n 2, 1) := by decide +kernel
theorem dX7_findLeast_8 : decode cX7_findLeast 8 = .ok (.iload_n 2, 1) := by decide +kernel
theorem dX7_findLeast_9 : decode cX7_findLeast 9 = .ok (.aload_n 0, 1) := by decide +kernel
theorem dX7_findLeast_10 : decode cX7_findLeast 10 = .ok (.getfield 10, 3) := by decide +kernel
theorem dX7_findLeast_13 : decode cX7_findLeast 13 = .ok (.getfield 96, 3) := by decide +kernel
theorem dX7_findLeast_16 : decode cX7_findLeast 16 = .ok (.if_icmp .ge 67, 3) := by decide +kernel
theorem dX7_findLeast_19 : decode cX7_findLeast 19 = .ok (.iload_n 1, 1) := by decide +kernel
theorem dX7_findLeast_20 : decode cX7_findLeast 20 = .ok (.iconst (-1), 1) := by decide +kernel
theorem dX7_findLeast_21 : decode cX7_findLeast 21 = .ok (.if_icmp .eq 54, 3) := by decide +kernel
theorem dX7_findLeast_24 : decode cX7_findLeast 24 = .ok (.aload_n 0, 1) := by decide +kernel
theorem dX7_findLeast_25 : decode cX7_findLeast 25 = .ok (.getfield 73, 3) := by decide +kernel
theorem dX7_findLeast_28 : decode cX7_findLeast 28 = .ok (.iload_n 2, 1) := by decide +kernel
theorem dX7_findLeast_29 : decode cX7_findLeast 29 = .ok (.iaload, 1) := by decide +kernel
theorem dX7_findLeast_30 : decode cX7_findLeast 30 = .ok (.aload_n 0, 1) := by decide +kernel
theorem dX7_findLeast_31 : decode cX7_findLeast 31 = .ok (.getfield 73, 3) := by decide +kernel
theorem dX7_findLeast_34 : decode cX7_findLeast 34 = .ok (.iload_n 1, 1) := by decide +kernel
theorem dX7_findLeast_35 : decode cX7_findLeast 35 = .ok (.iaload, 1) := by decide +kernel
theorem dX7_findLeast_36 : decode cX7_findLeast 36 = .ok (.if_icmp .lt 39, 3) := by decide +kernel
theorem dX7_findLeast_39 : decode cX7_findLeast 39 = .ok (.aload_n 0, 1) := by decide +kernel
theorem dX7_findLeast_40 : decode cX7_findLeast 40 = .ok (.getfield 73, 3) := by decide +kernel
theorem dX7_findLeast_43 : decode cX7_findLeast 43 = .ok (.iload_n 2, 1) := by decide +kernel
theorem dX7_findLeast_44 : decode cX7_findLeast 44 = .ok (.iaload, 1) := by decide +kernel
theorem dX7_findLeast_45 : decode cX7_findLeast 45 = .ok (.aload_n 0, 1) := by decide +kernel
theorem dX7_findLeast_46 : decode cX7_findLeast 46 = .ok (.getfield 73, 3) := by decide +kernel
theorem dX7_findLeast_49 : decode cX7_findLeast 49 = .ok (.iload_n 1, 1) := by decide +kernel
theorem dX7_findLeast_50 : decode cX7_findLeast 50 = .ok (.iaload, 1) := by decide +kernel
theorem dX7_findLeast_51 : decode cX7_findLeast 51 = .ok (.if_icmp .ne 26, 3) := by decide +kernel
theorem dX7_findLeast_54 : decode cX7_findLeast 54 = .ok (.aload_n 0, 1) := by decide +kernel
theorem dX7_findLeast_55 : decode cX7_findLeast 55 = .ok (.getfield 10, 3) := by decide +kernel
theorem dX7_findLeast_58 : decode cX7_findLeast 58 = .ok (.getfield 103, 3) := by decide +kernel
theorem dX7_findLeast_61 : decode cX7_findLeast 61 = .ok (.iload_n 2, 1) := by decide +kernel
theorem dX7_findLeast_62 : decode cX7_findLeast 62 = .ok (.iaload, 1) := by decide +kernel
theorem dX7_findLeast_63 : decode cX7_findLeast 63 = .ok (.aload_n 0, 1) := by decide +kernel
theorem dX7_findLeast_64 : decode cX7_findLeast 64 = .ok (.getfield 10, 3) := by decide +kernel
theorem dX7_findLeast_67 : decode cX7_findLeast 67 = .ok (.getfield 103, 3) := by decide +kernel
theorem dX7_findLeast_70 : decode cX7_findLeast 70 = .ok (.iload_n 1, 1) := by decide +kernel
theorem dX7_findLeast_71 : decode cX7_findLeast 71 = .ok (.iaload, 1) := by decide +kernel
theorem dX7_findLeast_72 : decode cX7_findLeast 72 = .ok (.if_icmp .gt 5, 3) := by decide +kernel
theorem dX7_findLeast_75 : decode cX7_findLeast 75 = .ok (.iload_n 2, 1) := by decide +kernel
theorem dX7_findLeast_76 : decode cX7_findLeast 76 = .ok (.istore_n 1, 1) := by decide +kernel
theorem dX7_findLeast_77 : decode cX7_findLeast 77 = .ok (.iinc 2 1, 3) := by decide +kernel
theorem dX7_findLeast_80 : decode cX7_findLeast 80 = .ok (.goto (-72), 3) := by decide +kernel
theorem dX7_findLeast_83 : decode cX7_findLeast 83 = .ok (.iload_n 1, 1) := by decide +kernel
theorem dX7_findLeast_84 : decode cX7_findLeast 84 = .ok (.ireturn, 1) := by decide +kernel
theorem dJ9_max_7cf53_0 : decode cJ9_max_7cf53 0 = .ok (.iload_n 0, 1) := by decide +kernel
theorem dJ9_max_7cf53_1 : decode cJ9_max_7cf53 1 = .ok (.iload_n 1, 1) := by decide +kernel
theorem dJ9_max_7cf53_2 : decode cJ9_max_7cf53 2 = .ok (.if_icmp .lt 7, 3) := by decide +kernel
theorem dJ9_max_7cf53_5 : decode cJ9_max_7cf53 5 = .ok (.iload_n 0, 1) := by decide +kernel
theorem dJ9_max_7cf53_6 : decode cJ9_max_7cf53 6 = .ok (.goto 4, 3) := by decide +kernel
theorem dJ9_max_7cf53_9 : decode cJ9_max_7cf53 9 = .ok (.iload_n 1, 1) := by decide +kernel
theorem dJ9_max_7cf53_10 : decode cJ9_max_7cf53 10 = .ok (.ireturn, 1) := by decide +kernel
theorem dJ9_min_7cf53_0 : decode cJ9_min_7cf53 0 = .ok (.iload_n 0, 1) := by decide +kernel
theorem dJ9_min_7cf53_1 : decode cJ9_min_7cf53 1 = .ok (.iload_n 1, 1) := by decide +kernel
theorem dJ9_min_7cf53_2 : decode cJ9_min_7cf53 2 = .ok (.if_icmp .gt 7, 3) := by decide +kernel
theorem dJ9_min_7cf53_5 : decode cJ9_min_7cf53 5 = .ok (.iload_n 0, 1) := by decide +kernel
theorem dJ9_min_7cf53_6 : decode cJ9_min_7cf53 6 = .ok (.goto 4, 3) := by decide +kernel
theorem dJ9_min_7cf53_9 : decode cJ9_min_7cf53 9 = .ok (.iload_n 1, 1) := by decide +kernel
theorem dJ9_min_7cf53_10 : decode cJ9_min_7cf53 10 = .ok (.ireturn, 1) := by decide +kernel
theorem dJ7_fill_d0a16_0 : decode cJ7_fill_d0a16 0 = .ok (.iconst 0, 1) := by decide +kernel
theorem dJ7_fill_d0a16_1 : decode cJ7_fill_d0a16 1 = .ok (.istore_n 3, 1) := by decide +kernel
theorem dJ7_fill_d0a16_2 : decode cJ7_fill_d0a16 2 = .ok (.aload_n 0, 1) := by decide +kernel
theorem dJ7_fill_d0a16_3 : decode cJ7_fill_d0a16 3 = .ok (.arraylength, 1) := by decide +kernel
theorem dJ7_fill_d0a16_4 : decode cJ7_fill_d0a16 4 = .ok (.istore 4, 2) := by decide +kernel
theorem dJ7_fill_d0a16_6 : decode cJ7_fill_d0a16 6 = .ok (.iload_n 3, 1) := by decide +kernel
theorem dJ7_fill_d0a16_7 : decode cJ7_fill_d0a16 7 = .ok (.iload 4, 2) := by decide +kernel
theorem dJ7_fill_d0a16_9 : decode cJ7_fill_d0a16 9 = .ok (.if_icmp .ge 13, 3) := by decide +kernel
theorem dJ7_fill_d0a16_12 : decode cJ7_fill_d0a16 12 = .ok (.aload_n 0, 1) := by decide +kernel
theorem dJ7_fill_d0a16_13 : decode cJ7_fill_d0a16 13 = .ok (.iload_n 3, 1) := by decide +kernel
theorem dJ7_fill_d0a16_14 : decode cJ7_fill_d0a16 14 = .ok (.lload_n 1, 1) := by decide +kernel
theorem dJ7_fill_d0a16_15 : decode cJ7_fill_d0a16 15 = .ok (.lastore, 1) := by decide +kernel
theorem dJ7_fill_d0a16_16 : decode cJ7_fill_d0a16 16 = .ok (.iinc 3 1, 3) := by decide +kernel
theorem dJ7_fill_d0a16_19 : decode cJ7_fill_d0a16 19 = .ok (.goto (-13), 3) := by decide +kernel
theorem dJ7_fill_d0a16_22 : decode cJ7_fill_d0a16 22 = .ok (.return_, 1) := by decide +kernel
theorem dJ7_fill_53178_0 : decode cJ7_fill_53178 0 = .ok (.iconst 0, 1) := by decide +kernel
theorem dJ7_fill_53178_1 : decode cJ7_fill_53178 1 = .ok (.istore_n 2, 1) := by decide +kernel
theorem dJ7_fill_53178_2 : decode cJ7_fill_53178 2 = .ok (.aload_n 0, 1) := by decide +kernel
theorem dJ7_fill_53178_3 : decode cJ7_fill_53178 3 = .ok (.arraylength, 1) := by decide +kernel
theorem dJ7_fill_53178_4 : decode cJ7_fill_53178 4 = .ok (.istore_n 3, 1) := by decide +kernel
theorem dJ7_fill_53178_5 : decode cJ7_fill_53178 5 = .ok (.iload_n 2, 1) := by decide +kernel
theorem dJ7_fill_53178_6 : decode cJ7_fill_53178 6 = .ok (.iload_n 3, 1) := by decide +kernel
theorem dJ7_fill_53178_7 : decode cJ7_fill_53178 7 = .ok (.if_icmp .ge 13, 3) := by decide +kernel
theorem dJ7_fill_53178_10 : decode cJ7_fill_53178 10 = .ok (.aload_n 0, 1) := by decide +kernel
theorem dJ7_fill_53178_11 : decode cJ7_fill_53178 11 = .ok (.iload_n 2, 1) := by decide +kernel
theorem dJ7_fill_53178_12 : decode cJ7_fill_53178 12 = .ok (.iload_n 1, 1) := by decide +kernel
theorem dJ7_fill_53178_13 : decode cJ7_fill_53178 13 = .ok (.iastore, 1) := by decide +kernel
theorem dJ7_fill_53178_14 : decode cJ7_fill_53178 14 = .ok (.iinc 2 1, 3) := by decide +kernel
theorem dJ7_fill_53178_17 : decode cJ7_fill_53178 17 = .ok (.goto (-12), 3) := by decide +kernel
theorem dJ7_fill_53178_20 : decode cJ7_fill_53178 20 = .ok (.return_, 1) := by decide +kernel
theorem dL_cell_0 : decode cL_cell 0 = .ok (.iload_n 1, 1) := by decide +kernel
theorem dL_cell_1 : decode cL_cell 1 = .ok (.aload_n 0, 1) := by decide +kernel
theorem dL_cell_2 : decode cL_cell 2 = .ok (.arraylength, 1) := by decide +kernel
theorem dL_cell_3 : decode cL_cell 3 = .ok (.if_icmp .ge 9, 3) := by decide +kernel
theorem dL_cell_6 : decode cL_cell 6 = .ok (.aload_n 0, 1) := by decide +kernel
theorem dL_cell_7 : decode cL_cell 7 = .ok (.iload_n 1, 1) := by decide +kernel
theorem dL_cell_8 : decode cL_cell 8 = .ok (.iaload, 1) := by decide +kernel
theorem dL_cell_9 : decode cL_cell 9 = .ok (.goto 12, 3) := by decide +kernel
theorem dL_cell_12 : decode cL_cell 12 = .ok (.ldc 7, 2) := by decide +kernel
theorem dL_cell_14 : decode cL_cell 14 = .ok (.iload_n 1, 1) := by decide +kernel
theorem dL_cell_15 : decode cL_cell 15 = .ok (.iconst 1, 1) := by decide +kernel
theorem dL_cell_16 : decode cL_cell 16 = .ok (.iadd, 1) := by decide +kernel
theorem dL_cell_17 : decode cL_cell 17 = .ok (.imul, 1) := by decide +kernel
theorem dL_cell_18 : decode cL_cell 18 = .ok (.ldc 8, 2) := by decide +kernel
theorem dL_cell_20 : decode cL_cell 20 = .ok (.iadd, 1) := by decide +kernel
theorem dL_cell_21 : decode cL_cell 21 = .ok (.ireturn, 1) := by decide +kernel
theorem dL_low_0 : decode cL_low 0 = .ok (.iload_n 0, 1) := by decide +kernel
theorem dL_low_1 : decode cL_low 1 = .ok (.ldc 9, 2) := by decide +kernel
theorem dL_low_3 : decode cL_low 3 = .ok (.iand, 1) := by decide +kernel
theorem dL_low_4 : decode cL_low 4 = .ok (.iload_n 1, 1) := by decide +kernel
theorem dL_low_5 : decode cL_low 5 = .ok (.irem, 1) := by decide +kernel
theorem dL_low_6 : decode cL_low 6 = .ok (.ireturn, 1) := by decide +kernel
theorem dL_size_0 : decode cL_size 0 = .ok (.iconst 0, 1) := by decide +kernel
theorem dL_size_1 : decode cL_size 1 = .ok (.istore_n 1, 1) := by decide +kernel
theorem dL_size_2 : decode cL_size 2 = .ok (.iload_n 0, 1) := by decide +kernel
theorem dL_size_3 : decode cL_size 3 = .ok (.istore_n 2, 1) := by decide +kernel
theorem dL_size_4 : decode cL_size 4 = .ok (.iload_n 2, 1) := by decide +kernel
theorem dL_size_5 : decode cL_size 5 = .ok (.ifCond .le 14, 3) := by decide +kernel
theorem dL_size_8 : decode cL_size 8 = .ok (.iinc 1 1, 3) := by decide +kernel
theorem dL_size_11 : decode cL_size 11 = .ok (.iload_n 2, 1) := by decide +kernel
theorem dL_size_12 : decode cL_size 12 = .ok (.bipush 7, 2) := by decide +kernel
theorem dL_size_14 : decode cL_size 14 = .ok (.idiv, 1) := by decide +kernel
theorem dL_size_15 : decode cL_size 15 = .ok (.istore_n 2, 1) := by decide +kernel
theorem dL_size_16 : decode cL_size 16 = .ok (.goto (-12), 3) := by decide +kernel
theorem dL_size_19 : decode cL_size 19 = .ok (.iload_n 1, 1) := by decide +kernel
theorem dL_size_20 : decode cL_size 20 = .ok (.ireturn, 1) := by decide +kernel
set_option maxRecDepth 20000 in
theorem ggL_some_L_size : GoodIn wsL_some wsL_size := goodIn_r _ [4] (by decide +kernel) (by decide +kernel)
set_option maxRecDepth 20000 in
theorem gL_some_L_size : GoodIn wsL_some (va_wsS RL 10 yL_size wsL_size) := goodIn_app (goodIn_of _ (by decide +kernel)) ggL_some_L_size
theorem dL_some_0 : decode cL_some 0 = .ok (.iload_n 0, 1) := by decide +kernel
theorem dL_some_1 : decode cL_some 1 = .ok (.istore_n 3, 1) := by decide +kernel
theorem dL_some_2 : decode cL_some 2 = .ok (.iload_n 0, 1) := by decide +kernel
theorem dL_some_3 : decode cL_some 3 = .ok (.invokestatic 10, 3) := by decide +kernel
theorem dL_some_6 : decode cL_some 6 = .ok (.iload_n 1, 1) := by decide +kernel
theorem dL_some_7 : decode cL_some 7 = .ok (.isub, 1) := by decide +kernel
theorem dL_some_8 : decode cL_some 8 = .ok (.iload_n 2, 1) := by decide +kernel
theorem dL_some_9 : decode cL_some 9 = .ok (.isub, 1) := by decide +kernel
theorem dL_some_10 : decode cL_some 10 = .ok (.istore 4, 2) := by decide +kernel
theorem dL_some_12 : decode cL_some 12 = .ok (.iload 4, 2) := by decide +kernel
theorem dL_some_14 : decode cL_some 14 = .ok (.ifCond .le 14, 3) := by decide +kernel
theorem dL_some_17 : decode cL_some 17 = .ok (.iload_n 3, 1) := by decide +kernel
theorem dL_some_18 : decode cL_some 18 = .ok (.bipush 7, 2) := by decide +kernel
theorem dL_some_20 : decode cL_some 20 = .ok (.idiv, 1) := by decide +kernel
theorem dL_some_21 : decode cL_some 21 = .ok (.istore_n 3, 1) := by decide +kernel
theorem dL_some_22 : decode cL_some 22 = .ok (.iinc 4 (-1), 3) := by decide +kernel
theorem dL_some_25 : decode cL_some 25 = .ok (.goto (-13), 3) := by decide +kernel
theorem dL_some_28 : decode cL_some 28 = .ok (.iconst 1, 1) := by decide +kernel
theorem dL_some_29 : decode cL_some 29 = .ok (.istore 4, 2) := by decide +kernel
theorem dL_some_31 : decode cL_some 31 = .ok (.iconst 0, 1) := by decide +kernel
theorem dL_some_32 : decode cL_some 32 = .ok (.istore 5, 2) := by decide +kernel
theorem dL_some_34 : decode cL_some 34 = .ok (.iload 5, 2) := by decide +kernel
theorem dL_some_36 : decode cL_some 36 = .ok (.iload_n 2, 1) := by decide +kernel
theorem dL_some_37 : decode cL_some 37 = .ok (.if_icmp .ge 16, 3) := by decide +kernel
theorem dL_some_40 : decode cL_some 40 = .ok (.iload 4, 2) := by decide +kernel
theorem dL_some_42 : decode cL_some 42 = .ok (.bipush 7, 2) := by decide +kernel
theorem dL_some_44 : decode cL_some 44 = .ok (.imul, 1) := by decide +kernel
theorem dL_some_45 : decode cL_some 45 = .ok (.istore 4, 2) := by decide +kernel
theorem dL_some_47 : decode cL_some 47 = .ok (.iinc 5 1, 3) := by decide +kernel
theorem dL_some_50 : decode cL_some 50 = .ok (.goto (-16), 3) := by decide +kernel
theorem dL_some_53 : decode cL_some 53 = .ok (.iload_n 3, 1) := by decide +kernel
theorem dL_some_54 : decode cL_some 54 = .ok (.iload 4, 2) := by decide +kernel
theorem dL_some_56 : decode cL_some 56 = .ok (.irem, 1) := by decide +kernel
theorem dL_some_57 : decode cL_some 57 = .ok (.ireturn, 1) := by decide +kernel
theorem dL_piece_0 : decode cL_piece 0 = .ok (.iconst 0, 1) := by decide +kernel
theorem dL_piece_1 : decode cL_piece 1 = .ok (.istore_n 3, 1) := by decide +kernel
theorem dL_piece_2 : decode cL_piece 2 = .ok (.iload_n 3, 1) := by decide +kernel
theorem dL_piece_3 : decode cL_piece 3 = .ok (.aload_n 1, 1) := by decide +kernel
theorem dL_piece_4 : decode cL_piece 4 = .ok (.iconst 0, 1) := by decide +kernel
theorem dL_piece_5 : decode cL_piece 5 = .ok (.iaload, 1) := by decide +kernel
theorem dL_piece_6 : decode cL_piece 6 = .ok (.if_icmp .ge 20, 3) := by decide +kernel
theorem dL_piece_9 : decode cL_piece 9 = .ok (.aload_n 2, 1) := by decide +kernel
theorem dL_piece_10 : decode cL_piece 10 = .ok (.iconst 2, 1) := by decide +kernel
theorem dL_piece_11 : decode cL_piece 11 = .ok (.iload_n 3, 1) := by decide +kernel
theorem dL_piece_12 : decode cL_piece 12 = .ok (.imul, 1) := by decide +kernel
theorem dL_piece_13 : decode cL_piece 13 = .ok (.iaload, 1) := by decide +kernel
theorem dL_piece_14 : decode cL_piece 14 = .ok (.iload_n 0, 1) := by decide +kernel
theorem dL_piece_15 : decode cL_piece 15 = .ok (.if_icmp .ne 5, 3) := by decide +kernel
theorem dL_piece_18 : decode cL_piece 18 = .ok (.iload_n 3, 1) := by decide +kernel
theorem dL_piece_19 : decode cL_piece 19 = .ok (.ireturn, 1) := by decide +kernel
theorem dL_piece_20 : decode cL_piece 20 = .ok (.iinc 3 1, 3) := by decide +kernel
theorem dL_piece_23 : decode cL_piece 23 = .ok (.goto (-21), 3) := by decide +kernel
theorem dL_piece_26 : decode cL_piece 26 = .ok (.bipush (-6), 2) := by decide +kernel
theorem dL_piece_28 : decode cL_piece 28 = .ok (.ireturn, 1) := by decide +kernel
theorem dL_reaches_0 : decode cL_reaches 0 = .ok (.iload_n 2, 1) := by decide +kernel
theorem dL_reaches_1 : decode cL_reaches 1 = .ok (.istore_n 3, 1) := by decide +kernel
theorem dL_reaches_2 : decode cL_reaches 2 = .ok (.iload_n 3, 1) := by decide +kernel
theorem dL_reaches_3 : decode cL_reaches 3 = .ok (.iload_n 0, 1) := by decide +kernel
theorem dL_reaches_4 : decode cL_reaches 4 = .ok (.iconst 1, 1) := by decide +kernel
theorem dL_reaches_5 : decode cL_reaches 5 = .ok (.isub, 1) := by decide +kernel
theorem dL_reaches_6 : decode cL_reaches 6 = .ok (.if_icmp .ge 17, 3) := by decide +kernel
theorem dL_reaches_9 : decode cL_reaches 9 = .ok (.iload_n 1, 1) := by decide +kernel
theorem dL_reaches_10 : decode cL_reaches 10 = .ok (.iload_n 3, 1) := by decide +kernel
theorem dL_reaches_11 : decode cL_reaches 11 = .ok (.ishr, 1) := by decide +kernel
theorem dL_reaches_12 : decode cL_reaches 12 = .ok (.iconst 1, 1) := by decide +kernel
theorem dL_reaches_13 : decode cL_reaches 13 = .ok (.iand, 1) := by decide +kernel
theorem dL_reaches_14 : decode cL_reaches 14 = .ok (.ifCond .ne 9, 3) := by decide +kernel
theorem dL_reaches_17 : decode cL_reaches 17 = .ok (.iinc 3 1, 3) := by decide +kernel
theorem dL_reaches_20 : decode cL_reaches 20 = .ok (.goto (-18), 3) := by decide +kernel
theorem dL_reaches_23 : decode cL_reaches 23 = .ok (.iload_n 3, 1) := by decide +kernel
theorem dL_reaches_24 : decode cL_reaches 24 = .ok (.iload_n 2, 1) := by decide +kernel
theorem dL_reaches_25 : decode cL_reaches 25 = .ok (.isub, 1) := by decide +kernel
theorem dL_reaches_26 : decode cL_reaches 26 = .ok (.iconst 1, 1) := by decide +kernel
theorem dL_reaches_27 : decode cL_reaches 27 = .ok (.iadd, 1) := by decide +kernel
theorem dL_reaches_28 : decode cL_reaches 28 = .ok (.ireturn, 1) := by decide +kernel
set_option maxRecDepth 20000 in
theorem ggL_product_L_size : GoodIn wsL_product wsL_size := goodIn_r _ [4] (by decide +kernel) (by decide +kernel)
set_option maxRecDepth 20000 in
theorem gL_product_L_size : GoodIn wsL_product (va_wsS RL 10 yL_size wsL_size) := goodIn_app (goodIn_of _ (by decide +kernel)) ggL_product_L_size
set_option maxRecDepth 20000 in
theorem ggL_product_L_reaches : GoodIn wsL_product wsL_reaches := goodIn_r _ [7] (by decide +kernel) (by decide +kernel)
set_option maxRecDepth 20000 in
theorem gL_product_L_reaches : GoodIn wsL_product (va_wsS RL 16 yL_reaches wsL_reaches) := goodIn_app (goodIn_of _ (by decide +kernel)) ggL_product_L_reaches
set_option maxRecDepth 20000 in
theorem ggL_product_L_some : GoodIn wsL_product wsL_some := goodIn_r _ [10, 1, 2, 3, 4] (by decide +kernel) (by decide +kernel)
set_option maxRecDepth 20000 in
theorem gL_product_L_some : GoodIn wsL_product (va_wsS RL 20 yL_some wsL_some) := goodIn_app (goodIn_of _ (by decide +kernel)) ggL_product_L_some
set_option maxRecDepth 20000 in
theorem ggL_product_L_piece : GoodIn wsL_product wsL_piece := goodIn_r _ [13] (by decide +kernel) (by decide +kernel)
set_option maxRecDepth 20000 in
theorem gL_product_L_piece : GoodIn wsL_product (va_wsS RL 23 yL_piece wsL_piece) := goodIn_app (goodIn_of _ (by decide +kernel)) ggL_product_L_piece
theorem dL_product_0 : decode cL_product 0 = .ok (.iload_n 0, 1) := by decide +kernel
theorem dL_product_1 : decode cL_product 1 = .ok (.invokestatic 10, 3) := by decide +kernel
theorem dL_product_4 : decode cL_product 4 = .ok (.istore 4, 2) := by decide +kernel
theorem dL_product_6 : decode cL_product 6 = .ok (.lconst 1, 1) := by decide +kernel
theorem dL_product_7 : decode cL_product 7 = .ok (.lstore 5, 2) := by decide +kernel
theorem dL_product_9 : decode cL_product 9 = .ok (.iconst 0, 1) := by decide +kernel
theorem dL_product_10 : decode cL_product 10 = .ok (.istore 7, 2) := by decide +kernel
theorem dL_product_12 : decode cL_product 12 = .ok (.iload 7, 2) := by decide +kernel
theorem dL_product_14 : decode cL_product 14 = .ok (.iload 4, 2) := by decide +kernel
theorem dL_product_16 : decode cL_product 16 = .ok (.if_icmp .ge 95, 3) := by decide +kernel
theorem dL_product_19 : decode cL_product 19 = .ok (.lload 5, 2) := by decide +kernel
theorem dL_product_21 : decode cL_product 21 = .ok (.lconst 0, 1) := by decide +kernel
theorem dL_product_22 : decode cL_product 22 = .ok (.lcmp, 1) := by decide +kernel
theorem dL_product_23 : decode cL_product 23 = .ok (.ifCond .le 88, 3) := by decide +kernel
theorem dL_product_26 : decode cL_product 26 = .ok (.iload 4, 2) := by decide +kernel
theorem dL_product_28 : decode cL_product 28 = .ok (.iload_n 1, 1) := by decide +kernel
theorem dL_product_29 : decode cL_product 29 = .ok (.iload 7, 2) := by decide +kernel
theorem dL_product_31 : decode cL_product 31 = .ok (.invokestatic 16, 3) := by decide +kernel
theorem dL_product_34 : decode cL_product 34 = .ok (.istore 8, 2) := by decide +kernel
theorem dL_product_36 : decode cL_product 36 = .ok (.iload 8, 2) := by decide +kernel
theorem dL_product_38 : decode cL_product 38 = .ok (.iconst 4, 1) := by decide +kernel
theorem dL_product_39 : decode cL_product 39 = .ok (.if_icmp .le 8, 3) := by decide +kernel
theorem dL_product_42 : decode cL_product 42 = .ok (.bipush (-6), 2) := by decide +kernel
theorem dL_product_44 : decode cL_product 44 = .ok (.goto 16, 3) := by decide +kernel
theorem dL_product_47 : decode cL_product 47 = .ok (.iload_n 0, 1) := by decide +kernel
theorem dL_product_48 : decode cL_product 48 = .ok (.iload 7, 2) := by decide +kernel
theorem dL_product_50 : decode cL_product 50 = .ok (.iload 8, 2) := by decide +kernel
theorem dL_product_52 : decode cL_product 52 = .ok (.invokestatic 20, 3) := by decide +kernel
theorem dL_product_55 : decode cL_product 55 = .ok (.aload_n 2, 1) := by decide +kernel
theorem dL_product_56 : decode cL_product 56 = .ok (.aload_n 3, 1) := by decide +kernel
theorem dL_product_57 : decode cL_product 57 = .ok (.invokestatic 23, 3) := by decide +kernel
theorem dL_product_60 : decode cL_product 60 = .ok (.istore 9, 2) := by decide +kernel
theorem dL_product_62 : decode cL_product 62 = .ok (.lload 5, 2) := by decide +kernel
theorem dL_product_64 : decode cL_product 64 = .ok (.iload 9, 2) := by decide +kernel
theorem dL_product_66 : decode cL_product 66 = .ok (.ifCond .lt 15, 3) := by decide +kernel
theorem dL_product_69 : decode cL_product 69 = .ok (.aload_n 3, 1) := by decide +kernel
theorem dL_product_70 : decode cL_product 70 = .ok (.iconst 2, 1) := by decide +kernel
theorem dL_product_71 : decode cL_product 71 = .ok (.iload 9, 2) := by decide +kernel
theorem dL_product_73 : decode cL_product 73 = .ok (.imul, 1) := by decide +kernel
theorem dL_product_74 : decode cL_product 74 = .ok (.iconst 1, 1) := by decide +kernel
theorem dL_product_75 : decode cL_product 75 = .ok (.iadd, 1) := by decide +kernel
theorem dL_product_76 : decode cL_product 76 = .ok (.iaload, 1) := by decide +kernel
theorem dL_product_77 : decode cL_product 77 = .ok (.i2l, 1) := by decide +kernel
theorem dL_product_78 : decode cL_product 78 = .ok (.goto 14, 3) := by decide +kernel
theorem dL_product_81 : decode cL_product 81 = .ok (.iload 8, 2) := by decide +kernel
theorem dL_product_83 : decode cL_product 83 = .ok (.iconst 1, 1) := by decide +kernel
theorem dL_product_84 : decode cL_product 84 = .ok (.if_icmp .ne 7, 3) := by decide +kernel
theorem dL_product_87 : decode cL_product 87 = .ok (.lconst 1, 1) := by decide +kernel
theorem dL_product_88 : decode cL_product 88 = .ok (.goto 4, 3) := by decide +kernel
theorem dL_product_91 : decode cL_product 91 = .ok (.lconst 0, 1) := by decide +kernel
theorem dL_product_92 : decode cL_product 92 = .ok (.lmul, 1) := by decide +kernel
theorem dL_product_93 : decode cL_product 93 = .ok (.lstore 5, 2) := by decide +kernel
theorem dL_product_95 : decode cL_product 95 = .ok (.iload 7, 2) := by decide +kernel
theorem dL_product_97 : decode cL_product 97 = .ok (.iload 4, 2) := by decide +kernel
theorem dL_product_99 : decode cL_product 99 = .ok (.iload_n 1, 1) := by decide +kernel
theorem dL_product_100 : decode cL_product 100 = .ok (.iload 7, 2) := by decide +kernel
theorem dL_product_102 : decode cL_product 102 = .ok (.invokestatic 16, 3) := by decide +kernel
theorem dL_product_105 : decode cL_product 105 = .ok (.iadd, 1) := by decide +kernel
theorem dL_product_106 : decode cL_product 106 = .ok (.istore 7, 2) := by decide +kernel
theorem dL_product_108 : decode cL_product 108 = .ok (.goto (-96), 3) := by decide +kernel
theorem dL_product_111 : decode cL_product 111 = .ok (.lload 5, 2) := by decide +kernel
theorem dL_product_113 : decode cL_product 113 = .ok (.lreturn, 1) := by decide +kernel
theorem dL_bits_0 : decode cL_bits 0 = .ok (.iconst 0, 1) := by decide +kernel
theorem dL_bits_1 : decode cL_bits 1 = .ok (.istore_n 1, 1) := by decide +kernel
theorem dL_bits_2 : decode cL_bits 2 = .ok (.iconst 0, 1) := by decide +kernel
theorem dL_bits_3 : decode cL_bits 3 = .ok (.istore_n 2, 1) := by decide +kernel
theorem dL_bits_4 : decode cL_bits 4 = .ok (.iload_n 2, 1) := by decide +kernel
theorem dL_bits_5 : decode cL_bits 5 = .ok (.bipush 8, 2) := by decide +kernel
theorem dL_bits_7 : decode cL_bits 7 = .ok (.if_icmp .ge 17, 3) := by decide +kernel
theorem dL_bits_10 : decode cL_bits 10 = .ok (.iload_n 1, 1) := by decide +kernel
theorem dL_bits_11 : decode cL_bits 11 = .ok (.iload_n 0, 1) := by decide +kernel
theorem dL_bits_12 : decode cL_bits 12 = .ok (.iload_n 2, 1) := by decide +kernel
theorem dL_bits_13 : decode cL_bits 13 = .ok (.ishr, 1) := by decide +kernel
theorem dL_bits_14 : decode cL_bits 14 = .ok (.iconst 1, 1) := by decide +kernel
theorem dL_bits_15 : decode cL_bits 15 = .ok (.iand, 1) := by decide +kernel
theorem dL_bits_16 : decode cL_bits 16 = .ok (.iadd, 1) := by decide +kernel
theorem dL_bits_17 : decode cL_bits 17 = .ok (.istore_n 1, 1) := by decide +kernel
theorem dL_bits_18 : decode cL_bits 18 = .ok (.iinc 2 1, 3) := by decide +kernel
theorem dL_bits_21 : decode cL_bits 21 = .ok (.goto (-17), 3) := by decide +kernel
theorem dL_bits_24 : decode cL_bits 24 = .ok (.iload_n 1, 1) := by decide +kernel
theorem dL_bits_25 : decode cL_bits 25 = .ok (.ireturn, 1) := by decide +kernel
set_option maxRecDepth 20000 in
theorem ggL_best_L_size : GoodIn wsL_best wsL_size := goodIn_r _ [4] (by decide +kernel) (by decide +kernel)
set_option maxRecDepth 20000 in
theorem gL_best_L_size : GoodIn wsL_best (va_wsS RL 10 yL_size wsL_size) := goodIn_app (goodIn_of _ (by decide +kernel)) ggL_best_L_size
set_option maxRecDepth 20000 in
theorem ggL_best_L_product : GoodIn wsL_best wsL_product := goodIn_r _ [7, 1, 2, 3, 4, 8, 9, 10, 11, 12, 13, 14, 15, 16] (by decide +kernel) (by decide +kernel)
set_option maxRecDepth 20000 in
theorem gL_best_L_product : GoodIn wsL_best (va_wsS RL 27 yL_product wsL_product) := goodIn_app (goodIn_of _ (by decide +kernel)) ggL_best_L_product
set_option maxRecDepth 20000 in
theorem ggL_best_L_bits : GoodIn wsL_best wsL_bits := goodIn_r _ [19] (by decide +kernel) (by decide +kernel)
set_option maxRecDepth 20000 in
theorem gL_best_L_bits : GoodIn wsL_best (va_wsS RL 31 yL_bits wsL_bits) := goodIn_app (goodIn_of _ (by decide +kernel)) ggL_best_L_bits
theorem dL_best_0 : decode cL_best 0 = .ok (.iconst (-1), 1) := by decide +kernel
theorem dL_best_1 : decode cL_best 1 = .ok (.istore_n 3, 1) := by decide +kernel
theorem dL_best_2 : decode cL_best 2 = .ok (.lconst 0, 1) := by decide +kernel
theorem dL_best_3 : decode cL_best 3 = .ok (.lstore 4, 2) := by decide +kernel
theorem dL_best_5 : decode cL_best 5 = .ok (.iconst 0, 1) := by decide +kernel
theorem dL_best_6 : decode cL_best 6 = .ok (.istore 6, 2) := by decide +kernel
theorem dL_best_8 : decode cL_best 8 = .ok (.iload 6, 2) := by decide +kernel
theorem dL_best_10 : decode cL_best 10 = .ok (.iconst 1, 1) := by decide +kernel
theorem dL_best_11 : decode cL_best 11 = .ok (.iload_n 0, 1) := by decide +kernel
theorem dL_best_12 : decode cL_best 12 = .ok (.invokestatic 10, 3) := by decide +kernel
theorem dL_best_15 : decode cL_best 15 = .ok (.iconst 1, 1) := by decide +kernel
theorem dL_best_16 : decode cL_best 16 = .ok (.isub, 1) := by decide +kernel
theorem dL_best_17 : decode cL_best 17 = .ok (.ishl, 1) := by decide +kernel
theorem dL_best_18 : decode cL_best 18 = .ok (.if_icmp .ge 126, 3) := by decide +kernel
theorem dL_best_21 : decode cL_best 21 = .ok (.iload_n 0, 1) := by decide +kernel
theorem dL_best_22 : decode cL_best 22 = .ok (.iload 6, 2) := by decide +kernel
theorem dL_best_24 : decode cL_best 24 = .ok (.aload_n 1, 1) := by decide +kernel
theorem dL_best_25 : decode cL_best 25 = .ok (.aload_n 2, 1) := by decide +kernel
theorem dL_best_26 : decode cL_best 26 = .ok (.invokestatic 27, 3) := by decide +kernel
theorem dL_best_29 : decode cL_best 29 = .ok (.lstore 7, 2) := by decide +kernel
theorem dL_best_31 : decode cL_best 31 = .ok (.lload 7, 2) := by decide +kernel
theorem dL_best_33 : decode cL_best 33 = .ok (.lload 4, 2) := by decide +kernel
theorem dL_best_35 : decode cL_best 35 = .ok (.lcmp, 1) := by decide +kernel
theorem dL_best_36 : decode cL_best 36 = .ok (.ifCond .le 7, 3) := by decide +kernel
theorem dL_best_39 : decode cL_best 39 = .ok (.iconst 1, 1) := by decide +kernel
theorem dL_best_40 : decode cL_best 40 = .ok (.goto 4, 3) := by decide +kernel
theorem dL_best_43 : decode cL_best 43 = .ok (.iconst 0, 1) := by decide +kernel
theorem dL_best_44 : decode cL_best 44 = .ok (.istore 9, 2) := by decide +kernel
theorem dL_best_46 : decode cL_best 46 = .ok (.iload_n 3, 1) := by decide +kernel
theorem dL_best_47 : decode cL_best 47 = .ok (.ifCond .lt 65, 3) := by decide +kernel
theorem dL_best_50 : decode cL_best 50 = .ok (.lload 7, 2) := by decide +kernel
theorem dL_best_52 : decode cL_best 52 = .ok (.lload 4, 2) := by decide +kernel
theorem dL_best_54 : decode cL_best 54 = .ok (.lcmp, 1) := by decide +kernel
theorem dL_best_55 : decode cL_best 55 = .ok (.ifCond .ne 57, 3) := by decide +kernel
theorem dL_best_58 : decode cL_best 58 = .ok (.lload 7, 2) := by decide +kernel
theorem dL_best_60 : decode cL_best 60 = .ok (.lconst 0, 1) := by decide +kernel
theorem dL_best_61 : decode cL_best 61 = .ok (.lcmp, 1) := by decide +kernel
theorem dL_best_62 : decode cL_best 62 = .ok (.ifCond .le 50, 3) := by decide +kernel
theorem dL_best_65 : decode cL_best 65 = .ok (.iload 6, 2) := by decide +kernel
theorem dL_best_67 : decode cL_best 67 = .ok (.invokestatic 31, 3) := by decide +kernel
theorem dL_best_70 : decode cL_best 70 = .ok (.iload_n 3, 1) := by decide +kernel
theorem dL_best_71 : decode cL_best 71 = .ok (.invokestatic 31, 3) := by decide +kernel
theorem dL_best_74 : decode cL_best 74 = .ok (.isub, 1) := by decide +kernel
theorem dL_best_75 : decode cL_best 75 = .ok (.istore 10, 2) := by decide +kernel
theorem dL_best_77 : decode cL_best 77 = .ok (.iload 6, 2) := by decide +kernel
theorem dL_best_79 : decode cL_best 79 = .ok (.iload_n 3, 1) := by decide +kernel
theorem dL_best_80 : decode cL_best 80 = .ok (.ixor, 1) := by decide +kernel
theorem dL_best_81 : decode cL_best 81 = .ok (.istore 11, 2) := by decide +kernel
theorem dL_best_83 : decode cL_best 83 = .ok (.iload 10, 2) := by decide +kernel
theorem dL_best_85 : decode cL_best 85 = .ok (.ifCond .lt 20, 3) := by decide +kernel
theorem dL_best_88 : decode cL_best 88 = .ok (.iload 10, 2) := by decide +kernel
theorem dL_best_90 : decode cL_best 90 = .ok (.ifCond .ne 19, 3) := by decide +kernel
theorem dL_best_93 : decode cL_best 93 = .ok (.iload 6, 2) := by decide +kernel
theorem dL_best_95 : decode cL_best 95 = .ok (.iload 11, 2) := by decide +kernel
theorem dL_best_97 : decode cL_best 97 = .ok (.iand, 1) := by decide +kernel
theorem dL_best_98 : decode cL_best 98 = .ok (.iload 11, 2) := by decide +kernel
theorem dL_best_100 : decode cL_best 100 = .ok (.ineg, 1) := by decide +kernel
theorem dL_best_101 : decode cL_best 101 = .ok (.iand, 1) := by decide +kernel
theorem dL_best_102 : decode cL_best 102 = .ok (.ifCond .ne 7, 3) := by decide +kernel
theorem dL_best_105 : decode cL_best 105 = .ok (.iconst 1, 1) := by decide +kernel
theorem dL_best_106 : decode cL_best 106 = .ok (.goto 4, 3) := by decide +kernel
theorem dL_best_109 : decode cL_best 109 = .ok (.iconst 0, 1) := by decide +kernel
theorem dL_best_110 : decode cL_best 110 = .ok (.istore 9, 2) := by decide +kernel
theorem dL_best_112 : decode cL_best 112 = .ok (.iload 9, 2) := by decide +kernel
theorem dL_best_114 : decode cL_best 114 = .ok (.ifCond .eq 8, 3) := by decide +kernel
theorem dL_best_117 : decode cL_best 117 = .ok (.iload 6, 2) := by decide +kernel
theorem dL_best_119 : decode cL_best 119 = .ok (.goto 4, 3) := by decide +kernel
theorem dL_best_122 : decode cL_best 122 = .ok (.iload_n 3, 1) := by decide +kernel
theorem dL_best_123 : decode cL_best 123 = .ok (.istore_n 3, 1) := by decide +kernel
theorem dL_best_124 : decode cL_best 124 = .ok (.iload 9, 2) := by decide +kernel
theorem dL_best_126 : decode cL_best 126 = .ok (.ifCond .eq 8, 3) := by decide +kernel
theorem dL_best_129 : decode cL_best 129 = .ok (.lload 7, 2) := by decide +kernel
theorem dL_best_131 : decode cL_best 131 = .ok (.goto 5, 3) := by decide +kernel
theorem dL_best_134 : decode cL_best 134 = .ok (.lload 4, 2) := by decide +kernel
theorem dL_best_136 : decode cL_best 136 = .ok (.lstore 4, 2) := by decide +kernel
theorem dL_best_138 : decode cL_best 138 = .ok (.iinc 6 1, 3) := by decide +kernel
theorem dL_best_141 : decode cL_best 141 = .ok (.goto (-133), 3) := by decide +kernel
theorem dL_best_144 : decode cL_best 144 = .ok (.iload_n 3, 1) := by decide +kernel
theorem dL_best_145 : decode cL_best 145 = .ok (.ireturn, 1) := by decide +kernel
set_option maxRecDepth 20000 in
theorem ggL_unseen_L_size : GoodIn wsL_unseen wsL_size := goodIn_r _ [4] (by decide +kernel) (by decide +kernel)
set_option maxRecDepth 20000 in
theorem gL_unseen_L_size : GoodIn wsL_unseen (va_wsS RL 10 yL_size wsL_size) := goodIn_app (goodIn_of _ (by decide +kernel)) ggL_unseen_L_size
set_option maxRecDepth 20000 in
theorem ggL_unseen_L_reaches : GoodIn wsL_unseen wsL_reaches := goodIn_r _ [7] (by decide +kernel) (by decide +kernel)
set_option maxRecDepth 20000 in
theorem gL_unseen_L_reaches : GoodIn wsL_unseen (va_wsS RL 16 yL_reaches wsL_reaches) := goodIn_app (goodIn_of _ (by decide +kernel)) ggL_unseen_L_reaches
set_option maxRecDepth 20000 in
theorem ggL_unseen_L_some : GoodIn wsL_unseen wsL_some := goodIn_r _ [10, 1, 2, 3, 4] (by decide +kernel) (by decide +kernel)
set_option maxRecDepth 20000 in
theorem gL_unseen_L_some : GoodIn wsL_unseen (va_wsS RL 20 yL_some wsL_some) := goodIn_app (goodIn_of _ (by decide +kernel)) ggL_unseen_L_some
set_option maxRecDepth 20000 in
theorem ggL_unseen_L_piece : GoodIn wsL_unseen wsL_piece := goodIn_r _ [13] (by decide +kernel) (by decide +kernel)
set_option maxRecDepth 20000 in
theorem gL_unseen_L_piece : GoodIn wsL_unseen (va_wsS RL 23 yL_piece wsL_piece) := goodIn_app (goodIn_of _ (by decide +kernel)) ggL_unseen_L_piece
theorem dL_unseen_0 : decode cL_unseen 0 = .ok (.iload_n 0, 1) := by decide +kernel
theorem dL_unseen_1 : decode cL_unseen 1 = .ok (.invokestatic 10, 3) := by decide +kernel
theorem dL_unseen_4 : decode cL_unseen 4 = .ok (.istore 4, 2) := by decide +kernel
theorem dL_unseen_6 : decode cL_unseen 6 = .ok (.iconst 0, 1) := by decide +kernel
theorem dL_unseen_7 : decode cL_unseen 7 = .ok (.istore 5, 2) := by decide +kernel
theorem dL_unseen_9 : decode cL_unseen 9 = .ok (.iconst 0, 1) := by decide +kernel
theorem dL_unseen_10 : decode cL_unseen 10 = .ok (.istore 6, 2) := by decide +kernel
theorem dL_unseen_12 : decode cL_unseen 12 = .ok (.iload 6, 2) := by decide +kernel
theorem dL_unseen_14 : decode cL_unseen 14 = .ok (.iload 4, 2) := by decide +kernel
theorem dL_unseen_16 : decode cL_unseen 16 = .ok (.if_icmp .ge 51, 3) := by decide +kernel
theorem dL_unseen_19 : decode cL_unseen 19 = .ok (.iload 5, 2) := by decide +kernel
theorem dL_unseen_21 : decode cL_unseen 21 = .ok (.iload_n 0, 1) := by decide +kernel
theorem dL_unseen_22 : decode cL_unseen 22 = .ok (.iload 6, 2) := by decide +kernel
theorem dL_unseen_24 : decode cL_unseen 24 = .ok (.iload 4, 2) := by decide +kernel
theorem dL_unseen_26 : decode cL_unseen 26 = .ok (.iload_n 1, 1) := by decide +kernel
theorem dL_unseen_27 : decode cL_unseen 27 = .ok (.iload 6, 2) := by decide +kernel
theorem dL_unseen_29 : decode cL_unseen 29 = .ok (.invokestatic 16, 3) := by decide +kernel
theorem dL_unseen_32 : decode cL_unseen 32 = .ok (.invokestatic 20, 3) := by decide +kernel
theorem dL_unseen_35 : decode cL_unseen 35 = .ok (.aload_n 2, 1) := by decide +kernel
theorem dL_unseen_36 : decode cL_unseen 36 = .ok (.aload_n 3, 1) := by decide +kernel
theorem dL_unseen_37 : decode cL_unseen 37 = .ok (.invokestatic 23, 3) := by decide +kernel
theorem dL_unseen_40 : decode cL_unseen 40 = .ok (.ifCond .ge 7, 3) := by decide +kernel
theorem dL_unseen_43 : decode cL_unseen 43 = .ok (.iconst 1, 1) := by decide +kernel
theorem dL_unseen_44 : decode cL_unseen 44 = .ok (.goto 4, 3) := by decide +kernel
theorem dL_unseen_47 : decode cL_unseen 47 = .ok (.iconst 0, 1) := by decide +kernel
theorem dL_unseen_48 : decode cL_unseen 48 = .ok (.iadd, 1) := by decide +kernel
theorem dL_unseen_49 : decode cL_unseen 49 = .ok (.istore 5, 2) := by decide +kernel
theorem dL_unseen_51 : decode cL_unseen 51 = .ok (.iload 6, 2) := by decide +kernel
theorem dL_unseen_53 : decode cL_unseen 53 = .ok (.iload 4, 2) := by decide +kernel
theorem dL_unseen_55 : decode cL_unseen 55 = .ok (.iload_n 1, 1) := by decide +kernel
theorem dL_unseen_56 : decode cL_unseen 56 = .ok (.iload 6, 2) := by decide +kernel
theorem dL_unseen_58 : decode cL_unseen 58 = .ok (.invokestatic 16, 3) := by decide +kernel
theorem dL_unseen_61 : decode cL_unseen 61 = .ok (.iadd, 1) := by decide +kernel
theorem dL_unseen_62 : decode cL_unseen 62 = .ok (.istore 6, 2) := by decide +kernel
theorem dL_unseen_64 : decode cL_unseen 64 = .ok (.goto (-52), 3) := by decide +kernel
theorem dL_unseen_67 : decode cL_unseen 67 = .ok (.iload 5, 2) := by decide +kernel
theorem dL_unseen_69 : decode cL_unseen 69 = .ok (.ireturn, 1) := by decide +kernel
set_option maxRecDepth 20000 in
theorem ggL_cost_L_best : GoodIn wsL_cost wsL_best := goodIn_r _ [4, 5, 6, 3, 7, 8, 9, 10, 11, 12, 13, 14, 15, 16, 17, 18, 19, 20, 21, 22] (by decide +kernel) (by decide +kernel)
set_option maxRecDepth 20000 in
theorem gL_cost_L_best : GoodIn wsL_cost (va_wsS RL 34 yL_best wsL_best) := goodIn_app (goodIn_of _ (by decide +kernel)) ggL_cost_L_best
set_option maxRecDepth 20000 in
theorem ggL_cost_L_bits : GoodIn wsL_cost wsL_bits := goodIn_r _ [22] (by decide +kernel) (by decide +kernel)
set_option maxRecDepth 20000 in
theorem gL_cost_L_bits : GoodIn wsL_cost (va_wsS RL 31 yL_bits wsL_bits) := goodIn_app (goodIn_of _ (by decide +kernel)) ggL_cost_L_bits
set_option maxRecDepth 20000 in
theorem ggL_cost_L_unseen : GoodIn wsL_cost wsL_unseen := goodIn_r _ [25, 5, 6, 3, 7, 11, 12, 13, 14, 15, 16, 17, 18, 19] (by decide +kernel) (by decide +kernel)
set_option maxRecDepth 20000 in
theorem gL_cost_L_unseen : GoodIn wsL_cost (va_wsS RL 37 yL_unseen wsL_unseen) := goodIn_app (goodIn_of _ (by decide +kernel)) ggL_cost_L_unseen
theorem dL_cost_0 : decode cL_cost 0 = .ok (.iconst 0, 1) := by decide +kernel
theorem dL_cost_1 : decode cL_cost 1 = .ok (.istore_n 3, 1) := by decide +kernel
theorem dL_cost_2 : decode cL_cost 2 = .ok (.iconst 0, 1) := by decide +kernel
theorem dL_cost_3 : decode cL_cost 3 = .ok (.istore 4, 2) := by decide +kernel
theorem dL_cost_5 : decode cL_cost 5 = .ok (.iload 4, 2) := by decide +kernel
theorem dL_cost_7 : decode cL_cost 7 = .ok (.aload_n 0, 1) := by decide +kernel
theorem dL_cost_8 : decode cL_cost 8 = .ok (.iconst 1, 1) := by decide +kernel
theorem dL_cost_9 : decode cL_cost 9 = .ok (.iaload, 1) := by decide +kernel
theorem dL_cost_10 : decode cL_cost 10 = .ok (.if_icmp .ge 55, 3) := by decide +kernel
theorem dL_cost_13 : decode cL_cost 13 = .ok (.aload_n 2, 1) := by decide +kernel
theorem dL_cost_14 : decode cL_cost 14 = .ok (.iconst 2, 1) := by decide +kernel
theorem dL_cost_15 : decode cL_cost 15 = .ok (.iload 4, 2) := by decide +kernel
theorem dL_cost_17 : decode cL_cost 17 = .ok (.imul, 1) := by decide +kernel
theorem dL_cost_18 : decode cL_cost 18 = .ok (.iaload, 1) := by decide +kernel
theorem dL_cost_19 : decode cL_cost 19 = .ok (.aload_n 0, 1) := by decide +kernel
theorem dL_cost_20 : decode cL_cost 20 = .ok (.aload_n 1, 1) := by decide +kernel
theorem dL_cost_21 : decode cL_cost 21 = .ok (.invokestatic 34, 3) := by decide +kernel
theorem dL_cost_24 : decode cL_cost 24 = .ok (.istore 5, 2) := by decide +kernel
theorem dL_cost_26 : decode cL_cost 26 = .ok (.iload_n 3, 1) := by decide +kernel
theorem dL_cost_27 : decode cL_cost 27 = .ok (.iload 5, 2) := by decide +kernel
theorem dL_cost_29 : decode cL_cost 29 = .ok (.invokestatic 31, 3) := by decide +kernel
theorem dL_cost_32 : decode cL_cost 32 = .ok (.iconst 1, 1) := by decide +kernel
theorem dL_cost_33 : decode cL_cost 33 = .ok (.iadd, 1) := by decide +kernel
theorem dL_cost_34 : decode cL_cost 34 = .ok (.aload_n 2, 1) := by decide +kernel
theorem dL_cost_35 : decode cL_cost 35 = .ok (.iconst 2, 1) := by decide +kernel
theorem dL_cost_36 : decode cL_cost 36 = .ok (.iload 4, 2) := by decide +kernel
theorem dL_cost_38 : decode cL_cost 38 = .ok (.imul, 1) := by decide +kernel
theorem dL_cost_39 : decode cL_cost 39 = .ok (.iaload, 1) := by decide +kernel
theorem dL_cost_40 : decode cL_cost 40 = .ok (.iload 5, 2) := by decide +kernel
theorem dL_cost_42 : decode cL_cost 42 = .ok (.aload_n 0, 1) := by decide +kernel
theorem dL_cost_43 : decode cL_cost 43 = .ok (.aload_n 1, 1) := by decide +kernel
theorem dL_cost_44 : decode cL_cost 44 = .ok (.invokestatic 37, 3) := by decide +kernel
theorem dL_cost_47 : decode cL_cost 47 = .ok (.iadd, 1) := by decide +kernel
theorem dL_cost_48 : decode cL_cost 48 = .ok (.aload_n 2, 1) := by decide +kernel
theorem dL_cost_49 : decode cL_cost 49 = .ok (.iconst 2, 1) := by decide +kernel
theorem dL_cost_50 : decode cL_cost 50 = .ok (.iload 4, 2) := by decide +kernel
theorem dL_cost_52 : decode cL_cost 52 = .ok (.imul, 1) := by decide +kernel
theorem dL_cost_53 : decode cL_cost 53 = .ok (.iconst 1, 1) := by decide +kernel
theorem dL_cost_54 : decode cL_cost 54 = .ok (.iadd, 1) := by decide +kernel
theorem dL_cost_55 : decode cL_cost 55 = .ok (.iaload, 1) := by decide +kernel
theorem dL_cost_56 : decode cL_cost 56 = .ok (.imul, 1) := by decide +kernel
theorem dL_cost_57 : decode cL_cost 57 = .ok (.iadd, 1) := by decide +kernel
theorem dL_cost_58 : decode cL_cost 58 = .ok (.istore_n 3, 1) := by decide +kernel
theorem dL_cost_59 : decode cL_cost 59 = .ok (.iinc 4 1, 3) := by decide +kernel
theorem dL_cost_62 : decode cL_cost 62 = .ok (.goto (-57), 3) := by decide +kernel
theorem dL_cost_65 : decode cL_cost 65 = .ok (.iload_n 3, 1) := by decide +kernel
theorem dL_cost_66 : decode cL_cost 66 = .ok (.ireturn, 1) := by decide +kernel
set_option maxRecDepth 20000 in
theorem ggL_share_L_size : GoodIn wsL_share wsL_size := goodIn_r _ [5] (by decide +kernel) (by decide +kernel)
set_option maxRecDepth 20000 in
theorem gL_share_L_size : GoodIn wsL_share (va_wsS RL 10 yL_size wsL_size) := goodIn_app (goodIn_of _ (by decide +kernel)) ggL_share_L_size
set_option maxRecDepth 20000 in
theorem ggL_share_L_product : GoodIn wsL_share wsL_product := goodIn_r _ [8, 2, 3, 4, 5, 9, 10, 11, 12, 13, 14, 15, 16, 17] (by decide +kernel) (by decide +kernel)
set_option maxRecDepth 20000 in
theorem gL_share_L_product : GoodIn wsL_share (va_wsS RL 27 yL_product wsL_product) := goodIn_app (goodIn_of _ (by decide +kernel)) ggL_share_L_product
set_option maxRecDepth 20000 in
theorem ggL_share_L_reaches : GoodIn wsL_share wsL_reaches := goodIn_r _ [11] (by decide +kernel) (by decide +kernel)
set_option maxRecDepth 20000 in
theorem gL_share_L_reaches : GoodIn wsL_share (va_wsS RL 16 yL_reaches wsL_reaches) := goodIn_app (goodIn_of _ (by decide +kernel)) ggL_share_L_reaches
set_option maxRecDepth 20000 in
theorem ggL_share_L_some : GoodIn wsL_share wsL_some := goodIn_r _ [14, 2, 3, 4, 5] (by decide +kernel) (by decide +kernel)
set_option maxRecDepth 20000 in
theorem gL_share_L_some : GoodIn wsL_share (va_wsS RL 20 yL_some wsL_some) := goodIn_app (goodIn_of _ (by decide +kernel)) ggL_share_L_some
theorem dL_share_0 : decode cL_share 0 = .ok (.iload_n 0, 1) := by decide +kernel
theorem dL_share_1 : decode cL_share 1 = .ok (.invokestatic 10, 3) := by decide +kernel
theorem dL_share_4 : decode cL_share 4 = .ok (.istore 4, 2) := by decide +kernel
theorem dL_share_6 : decode cL_share 6 = .ok (.lconst 0, 1) := by decide +kernel
theorem dL_share_7 : decode cL_share 7 = .ok (.lstore 5, 2) := by decide +kernel
theorem dL_share_9 : decode cL_share 9 = .ok (.lconst 0, 1) := by decide +kernel
theorem dL_share_10 : decode cL_share 10 = .ok (.lstore 7, 2) := by decide +kernel
theorem dL_share_12 : decode cL_share 12 = .ok (.iconst 0, 1) := by decide +kernel
theorem dL_share_13 : decode cL_share 13 = .ok (.istore 9, 2) := by decide +kernel
theorem dL_share_15 : decode cL_share 15 = .ok (.iload 9, 2) := by decide +kernel
theorem dL_share_17 : decode cL_share 17 = .ok (.iconst 1, 1) := by decide +kernel
theorem dL_share_18 : decode cL_share 18 = .ok (.iload 4, 2) := by decide +kernel
theorem dL_share_20 : decode cL_share 20 = .ok (.iconst 1, 1) := by decide +kernel
theorem dL_share_21 : decode cL_share 21 = .ok (.isub, 1) := by decide +kernel
theorem dL_share_22 : decode cL_share 22 = .ok (.ishl, 1) := by decide +kernel
theorem dL_share_23 : decode cL_share 23 = .ok (.if_icmp .ge 94, 3) := by decide +kernel
theorem dL_share_26 : decode cL_share 26 = .ok (.iload_n 0, 1) := by decide +kernel
theorem dL_share_27 : decode cL_share 27 = .ok (.iload 9, 2) := by decide +kernel
