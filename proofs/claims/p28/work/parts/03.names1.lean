theorem dX0_init_0 : decode cX0_init 0 = .ok (.aload_n 0, 1) := by decide +kernel
theorem dX0_init_1 : decode cX0_init 1 = .ok (.invokespecial 3, 3) := by decide +kernel
theorem dX0_init_4 : decode cX0_init 4 = .ok (.aload_n 0, 1) := by decide +kernel
theorem dX0_init_5 : decode cX0_init 5 = .ok (.bipush 13, 2) := by decide +kernel
theorem dX0_init_7 : decode cX0_init 7 = .ok (.newarray .long, 2) := by decide +kernel
theorem dX0_init_9 : decode cX0_init 9 = .ok (.putfield 9, 3) := by decide +kernel
theorem dX0_init_12 : decode cX0_init 12 = .ok (.aload_n 0, 1) := by decide +kernel
theorem dX0_init_13 : decode cX0_init 13 = .ok (.bipush 13, 2) := by decide +kernel
theorem dX0_init_15 : decode cX0_init 15 = .ok (.newarray .long, 2) := by decide +kernel
theorem dX0_init_17 : decode cX0_init 17 = .ok (.putfield 15, 3) := by decide +kernel
theorem dX0_init_20 : decode cX0_init 20 = .ok (.aload_n 0, 1) := by decide +kernel
theorem dX0_init_21 : decode cX0_init 21 = .ok (.bipush 13, 2) := by decide +kernel
theorem dX0_init_23 : decode cX0_init 23 = .ok (.newarray .int, 2) := by decide +kernel
theorem dX0_init_25 : decode cX0_init 25 = .ok (.putfield 18, 3) := by decide +kernel
theorem dX0_init_28 : decode cX0_init 28 = .ok (.return_, 1) := by decide +kernel
set_option maxRecDepth 20000 in
theorem ggX0_find_J7_fill_d0a16 : GoodIn wsX0_find wsJ7_fill_d0a16 := goodIn_r _ [8] (by decide +kernel) (by decide +kernel)
set_option maxRecDepth 20000 in
theorem gX0_find_J7_fill_d0a16 : GoodIn wsX0_find (va_wsS RX0 22 yJ7_fill_d0a16 wsJ7_fill_d0a16) := goodIn_app (goodIn_of _ (by decide +kernel)) ggX0_find_J7_fill_d0a16
set_option maxRecDepth 20000 in
theorem ggX0_find_X4_mostLetters : GoodIn wsX0_find wsX4_mostLetters := goodIn_r _ [13, 14, 15, 16, 17, 18, 40, 41, 42, 43] (by decide +kernel) (by decide +kernel)
set_option maxRecDepth 20000 in
theorem gX0_find_X4_mostLetters : GoodIn wsX0_find (wsV RX0 34 RX4 yX4_mostLetters wsX4_mostLetters) := goodIn_app (goodIn_of _ (by decide +kernel)) ggX0_find_X4_mostLetters
set_option maxRecDepth 20000 in
theorem ggX0_find_X4_weightAt : GoodIn wsX0_find wsX4_weightAt := goodIn_r _ [22, 23, 24, 25, 26, 12, 27, 28, 29, 30, 31, 40, 41, 42, 43] (by decide +kernel) (by decide +kernel)
set_option maxRecDepth 20000 in
theorem gX0_find_X4_weightAt : GoodIn wsX0_find (wsV RX0 38 RX4 yX4_weightAt wsX4_weightAt) := goodIn_app (goodIn_of _ (by decide +kernel)) ggX0_find_X4_weightAt
set_option maxRecDepth 20000 in
theorem ggX0_find_X0_addBehind : GoodIn wsX0_find wsX0_addBehind := goodIn_r _ [36, 3, 4, 9, 10, 11, 12, 13, 14, 15, 16, 17, 18, 19, 20, 21, 22, 23, 24, 25, 26, 27, 28, 29, 30, 31, 37, 38, 39, 40, 41, 42, 43] (by decide +kernel) (by decide +kernel)
set_option maxRecDepth 20000 in
theorem gX0_find_X0_addBehind : GoodIn wsX0_find (wsV RX0 42 RX0 yX0_addBehind wsX0_addBehind) := goodIn_app (goodIn_of _ (by decide +kernel)) ggX0_find_X0_addBehind
theorem dX0_find_0 : decode cX0_find 0 = .ok (.aload_n 0, 1) := by decide +kernel
theorem dX0_find_1 : decode cX0_find 1 = .ok (.getfield 9, 3) := by decide +kernel
theorem dX0_find_4 : decode cX0_find 4 = .ok (.lconst 0, 1) := by decide +kernel
theorem dX0_find_5 : decode cX0_find 5 = .ok (.invokestatic 22, 3) := by decide +kernel
theorem dX0_find_8 : decode cX0_find 8 = .ok (.aload_n 0, 1) := by decide +kernel
theorem dX0_find_9 : decode cX0_find 9 = .ok (.getfield 9, 3) := by decide +kernel
theorem dX0_find_12 : decode cX0_find 12 = .ok (.iconst 0, 1) := by decide +kernel
theorem dX0_find_13 : decode cX0_find 13 = .ok (.lconst 1, 1) := by decide +kernel
theorem dX0_find_14 : decode cX0_find 14 = .ok (.lastore, 1) := by decide +kernel
theorem dX0_find_15 : decode cX0_find 15 = .ok (.iconst 0, 1) := by decide +kernel
theorem dX0_find_16 : decode cX0_find 16 = .ok (.istore_n 2, 1) := by decide +kernel
theorem dX0_find_17 : decode cX0_find 17 = .ok (.iload_n 2, 1) := by decide +kernel
theorem dX0_find_18 : decode cX0_find 18 = .ok (.aload_n 1, 1) := by decide +kernel
theorem dX0_find_19 : decode cX0_find 19 = .ok (.getfield 28, 3) := by decide +kernel
theorem dX0_find_22 : decode cX0_find 22 = .ok (.if_icmp .ge 58, 3) := by decide +kernel
theorem dX0_find_25 : decode cX0_find 25 = .ok (.aload_n 1, 1) := by decide +kernel
theorem dX0_find_26 : decode cX0_find 26 = .ok (.iload_n 2, 1) := by decide +kernel
theorem dX0_find_27 : decode cX0_find 27 = .ok (.invokevirtual 34, 3) := by decide +kernel
theorem dX0_find_30 : decode cX0_find 30 = .ok (.istore_n 3, 1) := by decide +kernel
theorem dX0_find_31 : decode cX0_find 31 = .ok (.iconst 1, 1) := by decide +kernel
theorem dX0_find_32 : decode cX0_find 32 = .ok (.istore 4, 2) := by decide +kernel
theorem dX0_find_34 : decode cX0_find 34 = .ok (.iload 4, 2) := by decide +kernel
theorem dX0_find_36 : decode cX0_find 36 = .ok (.iload_n 3, 1) := by decide +kernel
theorem dX0_find_37 : decode cX0_find 37 = .ok (.if_icmp .gt 37, 3) := by decide +kernel
theorem dX0_find_40 : decode cX0_find 40 = .ok (.aload_n 0, 1) := by decide +kernel
theorem dX0_find_41 : decode cX0_find 41 = .ok (.getfield 9, 3) := by decide +kernel
theorem dX0_find_44 : decode cX0_find 44 = .ok (.iload_n 2, 1) := by decide +kernel
theorem dX0_find_45 : decode cX0_find 45 = .ok (.iload 4, 2) := by decide +kernel
theorem dX0_find_47 : decode cX0_find 47 = .ok (.iadd, 1) := by decide +kernel
theorem dX0_find_48 : decode cX0_find 48 = .ok (.dup2, 1) := by decide +kernel
theorem dX0_find_49 : decode cX0_find 49 = .ok (.laload, 1) := by decide +kernel
theorem dX0_find_50 : decode cX0_find 50 = .ok (.aload_n 0, 1) := by decide +kernel
theorem dX0_find_51 : decode cX0_find 51 = .ok (.getfield 9, 3) := by decide +kernel
theorem dX0_find_54 : decode cX0_find 54 = .ok (.iload_n 2, 1) := by decide +kernel
theorem dX0_find_55 : decode cX0_find 55 = .ok (.laload, 1) := by decide +kernel
theorem dX0_find_56 : decode cX0_find 56 = .ok (.aload_n 1, 1) := by decide +kernel
theorem dX0_find_57 : decode cX0_find 57 = .ok (.iload_n 2, 1) := by decide +kernel
theorem dX0_find_58 : decode cX0_find 58 = .ok (.iload 4, 2) := by decide +kernel
theorem dX0_find_60 : decode cX0_find 60 = .ok (.iconst (-1), 1) := by decide +kernel
theorem dX0_find_61 : decode cX0_find 61 = .ok (.invokevirtual 38, 3) := by decide +kernel
theorem dX0_find_64 : decode cX0_find 64 = .ok (.i2l, 1) := by decide +kernel
theorem dX0_find_65 : decode cX0_find 65 = .ok (.lmul, 1) := by decide +kernel
theorem dX0_find_66 : decode cX0_find 66 = .ok (.ladd, 1) := by decide +kernel
theorem dX0_find_67 : decode cX0_find 67 = .ok (.lastore, 1) := by decide +kernel
theorem dX0_find_68 : decode cX0_find 68 = .ok (.iinc 4 1, 3) := by decide +kernel
theorem dX0_find_71 : decode cX0_find 71 = .ok (.goto (-37), 3) := by decide +kernel
theorem dX0_find_74 : decode cX0_find 74 = .ok (.iinc 2 1, 3) := by decide +kernel
theorem dX0_find_77 : decode cX0_find 77 = .ok (.goto (-60), 3) := by decide +kernel
theorem dX0_find_80 : decode cX0_find 80 = .ok (.aload_n 0, 1) := by decide +kernel
theorem dX0_find_81 : decode cX0_find 81 = .ok (.getfield 15, 3) := by decide +kernel
theorem dX0_find_84 : decode cX0_find 84 = .ok (.aload_n 1, 1) := by decide +kernel
theorem dX0_find_85 : decode cX0_find 85 = .ok (.getfield 28, 3) := by decide +kernel
theorem dX0_find_88 : decode cX0_find 88 = .ok (.lconst 1, 1) := by decide +kernel
theorem dX0_find_89 : decode cX0_find 89 = .ok (.lastore, 1) := by decide +kernel
theorem dX0_find_90 : decode cX0_find 90 = .ok (.aload_n 0, 1) := by decide +kernel
theorem dX0_find_91 : decode cX0_find 91 = .ok (.getfield 18, 3) := by decide +kernel
theorem dX0_find_94 : decode cX0_find 94 = .ok (.aload_n 1, 1) := by decide +kernel
theorem dX0_find_95 : decode cX0_find 95 = .ok (.getfield 28, 3) := by decide +kernel
theorem dX0_find_98 : decode cX0_find 98 = .ok (.iconst 1, 1) := by decide +kernel
theorem dX0_find_99 : decode cX0_find 99 = .ok (.iastore, 1) := by decide +kernel
theorem dX0_find_100 : decode cX0_find 100 = .ok (.aload_n 1, 1) := by decide +kernel
theorem dX0_find_101 : decode cX0_find 101 = .ok (.getfield 28, 3) := by decide +kernel
theorem dX0_find_104 : decode cX0_find 104 = .ok (.iconst 1, 1) := by decide +kernel
theorem dX0_find_105 : decode cX0_find 105 = .ok (.isub, 1) := by decide +kernel
theorem dX0_find_106 : decode cX0_find 106 = .ok (.istore_n 2, 1) := by decide +kernel
theorem dX0_find_107 : decode cX0_find 107 = .ok (.iload_n 2, 1) := by decide +kernel
theorem dX0_find_108 : decode cX0_find 108 = .ok (.ifCond .lt 15, 3) := by decide +kernel
theorem dX0_find_111 : decode cX0_find 111 = .ok (.aload_n 0, 1) := by decide +kernel
theorem dX0_find_112 : decode cX0_find 112 = .ok (.aload_n 1, 1) := by decide +kernel
theorem dX0_find_113 : decode cX0_find 113 = .ok (.iload_n 2, 1) := by decide +kernel
theorem dX0_find_114 : decode cX0_find 114 = .ok (.invokevirtual 42, 3) := by decide +kernel
theorem dX0_find_117 : decode cX0_find 117 = .ok (.iinc 2 (-1), 3) := by decide +kernel
theorem dX0_find_120 : decode cX0_find 120 = .ok (.goto (-13), 3) := by decide +kernel
theorem dX0_find_123 : decode cX0_find 123 = .ok (.return_, 1) := by decide +kernel
set_option maxRecDepth 20000 in
theorem ggX0_addBehind_X4_mostLetters : GoodIn wsX0_addBehind wsX4_mostLetters := goodIn_r _ [7, 8, 9, 10, 11, 12, 29, 30, 31, 32] (by decide +kernel) (by decide +kernel)
set_option maxRecDepth 20000 in
theorem gX0_addBehind_X4_mostLetters : GoodIn wsX0_addBehind (wsV RX0 34 RX4 yX4_mostLetters wsX4_mostLetters) := goodIn_app (goodIn_of _ (by decide +kernel)) ggX0_addBehind_X4_mostLetters
set_option maxRecDepth 20000 in
theorem ggX0_addBehind_X4_weightAt : GoodIn wsX0_addBehind wsX4_weightAt := goodIn_r _ [16, 17, 18, 19, 20, 6, 21, 22, 23, 24, 25, 29, 30, 31, 32] (by decide +kernel) (by decide +kernel)
set_option maxRecDepth 20000 in
theorem gX0_addBehind_X4_weightAt : GoodIn wsX0_addBehind (wsV RX0 38 RX4 yX4_weightAt wsX4_weightAt) := goodIn_app (goodIn_of _ (by decide +kernel)) ggX0_addBehind_X4_weightAt
theorem dX0_addBehind_0 : decode cX0_addBehind 0 = .ok (.aload_n 0, 1) := by decide +kernel
theorem dX0_addBehind_1 : decode cX0_addBehind 1 = .ok (.getfield 15, 3) := by decide +kernel
theorem dX0_addBehind_4 : decode cX0_addBehind 4 = .ok (.iload_n 2, 1) := by decide +kernel
theorem dX0_addBehind_5 : decode cX0_addBehind 5 = .ok (.lconst 0, 1) := by decide +kernel
theorem dX0_addBehind_6 : decode cX0_addBehind 6 = .ok (.lastore, 1) := by decide +kernel
theorem dX0_addBehind_7 : decode cX0_addBehind 7 = .ok (.aload_n 0, 1) := by decide +kernel
theorem dX0_addBehind_8 : decode cX0_addBehind 8 = .ok (.getfield 18, 3) := by decide +kernel
theorem dX0_addBehind_11 : decode cX0_addBehind 11 = .ok (.iload_n 2, 1) := by decide +kernel
theorem dX0_addBehind_12 : decode cX0_addBehind 12 = .ok (.iconst 0, 1) := by decide +kernel
theorem dX0_addBehind_13 : decode cX0_addBehind 13 = .ok (.iastore, 1) := by decide +kernel
theorem dX0_addBehind_14 : decode cX0_addBehind 14 = .ok (.aload_n 1, 1) := by decide +kernel
theorem dX0_addBehind_15 : decode cX0_addBehind 15 = .ok (.iload_n 2, 1) := by decide +kernel
theorem dX0_addBehind_16 : decode cX0_addBehind 16 = .ok (.invokevirtual 34, 3) := by decide +kernel
theorem dX0_addBehind_19 : decode cX0_addBehind 19 = .ok (.istore_n 3, 1) := by decide +kernel
theorem dX0_addBehind_20 : decode cX0_addBehind 20 = .ok (.iconst 1, 1) := by decide +kernel
theorem dX0_addBehind_21 : decode cX0_addBehind 21 = .ok (.istore 4, 2) := by decide +kernel
theorem dX0_addBehind_23 : decode cX0_addBehind 23 = .ok (.iload 4, 2) := by decide +kernel
theorem dX0_addBehind_25 : decode cX0_addBehind 25 = .ok (.iload_n 3, 1) := by decide +kernel
theorem dX0_addBehind_26 : decode cX0_addBehind 26 = .ok (.if_icmp .gt 64, 3) := by decide +kernel
theorem dX0_addBehind_29 : decode cX0_addBehind 29 = .ok (.aload_n 1, 1) := by decide +kernel
theorem dX0_addBehind_30 : decode cX0_addBehind 30 = .ok (.iload_n 2, 1) := by decide +kernel
theorem dX0_addBehind_31 : decode cX0_addBehind 31 = .ok (.iload 4, 2) := by decide +kernel
theorem dX0_addBehind_33 : decode cX0_addBehind 33 = .ok (.iconst (-1), 1) := by decide +kernel
theorem dX0_addBehind_34 : decode cX0_addBehind 34 = .ok (.invokevirtual 38, 3) := by decide +kernel
theorem dX0_addBehind_37 : decode cX0_addBehind 37 = .ok (.istore 5, 2) := by decide +kernel
theorem dX0_addBehind_39 : decode cX0_addBehind 39 = .ok (.aload_n 0, 1) := by decide +kernel
theorem dX0_addBehind_40 : decode cX0_addBehind 40 = .ok (.getfield 15, 3) := by decide +kernel
theorem dX0_addBehind_43 : decode cX0_addBehind 43 = .ok (.iload_n 2, 1) := by decide +kernel
theorem dX0_addBehind_44 : decode cX0_addBehind 44 = .ok (.dup2, 1) := by decide +kernel
theorem dX0_addBehind_45 : decode cX0_addBehind 45 = .ok (.laload, 1) := by decide +kernel
theorem dX0_addBehind_46 : decode cX0_addBehind 46 = .ok (.iload 5, 2) := by decide +kernel
theorem dX0_addBehind_48 : decode cX0_addBehind 48 = .ok (.i2l, 1) := by decide +kernel
theorem dX0_addBehind_49 : decode cX0_addBehind 49 = .ok (.aload_n 0, 1) := by decide +kernel
theorem dX0_addBehind_50 : decode cX0_addBehind 50 = .ok (.getfield 15, 3) := by decide +kernel
theorem dX0_addBehind_53 : decode cX0_addBehind 53 = .ok (.iload_n 2, 1) := by decide +kernel
theorem dX0_addBehind_54 : decode cX0_addBehind 54 = .ok (.iload 4, 2) := by decide +kernel
theorem dX0_addBehind_56 : decode cX0_addBehind 56 = .ok (.iadd, 1) := by decide +kernel
theorem dX0_addBehind_57 : decode cX0_addBehind 57 = .ok (.laload, 1) := by decide +kernel
theorem dX0_addBehind_58 : decode cX0_addBehind 58 = .ok (.lmul, 1) := by decide +kernel
theorem dX0_addBehind_59 : decode cX0_addBehind 59 = .ok (.ladd, 1) := by decide +kernel
theorem dX0_addBehind_60 : decode cX0_addBehind 60 = .ok (.lastore, 1) := by decide +kernel
theorem dX0_addBehind_61 : decode cX0_addBehind 61 = .ok (.iload 5, 2) := by decide +kernel
theorem dX0_addBehind_63 : decode cX0_addBehind 63 = .ok (.ifCond .le 21, 3) := by decide +kernel
theorem dX0_addBehind_66 : decode cX0_addBehind 66 = .ok (.aload_n 0, 1) := by decide +kernel
theorem dX0_addBehind_67 : decode cX0_addBehind 67 = .ok (.getfield 18, 3) := by decide +kernel
theorem dX0_addBehind_70 : decode cX0_addBehind 70 = .ok (.iload_n 2, 1) := by decide +kernel
theorem dX0_addBehind_71 : decode cX0_addBehind 71 = .ok (.dup2, 1) := by decide +kernel
theorem dX0_addBehind_72 : decode cX0_addBehind 72 = .ok (.iaload, 1) := by decide +kernel
theorem dX0_addBehind_73 : decode cX0_addBehind 73 = .ok (.aload_n 0, 1) := by decide +kernel
theorem dX0_addBehind_74 : decode cX0_addBehind 74 = .ok (.getfield 18, 3) := by decide +kernel
theorem dX0_addBehind_77 : decode cX0_addBehind 77 = .ok (.iload_n 2, 1) := by decide +kernel
theorem dX0_addBehind_78 : decode cX0_addBehind 78 = .ok (.iload 4, 2) := by decide +kernel
theorem dX0_addBehind_80 : decode cX0_addBehind 80 = .ok (.iadd, 1) := by decide +kernel
theorem dX0_addBehind_81 : decode cX0_addBehind 81 = .ok (.iaload, 1) := by decide +kernel
theorem dX0_addBehind_82 : decode cX0_addBehind 82 = .ok (.iadd, 1) := by decide +kernel
theorem dX0_addBehind_83 : decode cX0_addBehind 83 = .ok (.iastore, 1) := by decide +kernel
theorem dX0_addBehind_84 : decode cX0_addBehind 84 = .ok (.iinc 4 1, 3) := by decide +kernel
theorem dX0_addBehind_87 : decode cX0_addBehind 87 = .ok (.goto (-64), 3) := by decide +kernel
theorem dX0_addBehind_90 : decode cX0_addBehind 90 = .ok (.return_, 1) := by decide +kernel
theorem dX0_total_0 : decode cX0_total 0 = .ok (.aload_n 0, 1) := by decide +kernel
theorem dX0_total_1 : decode cX0_total 1 = .ok (.getfield 15, 3) := by decide +kernel
theorem dX0_total_4 : decode cX0_total 4 = .ok (.iconst 0, 1) := by decide +kernel
theorem dX0_total_5 : decode cX0_total 5 = .ok (.laload, 1) := by decide +kernel
theorem dX0_total_6 : decode cX0_total 6 = .ok (.lreturn, 1) := by decide +kernel
theorem dX0_cuts_0 : decode cX0_cuts 0 = .ok (.aload_n 0, 1) := by decide +kernel
theorem dX0_cuts_1 : decode cX0_cuts 1 = .ok (.getfield 18, 3) := by decide +kernel
theorem dX0_cuts_4 : decode cX0_cuts 4 = .ok (.iconst 0, 1) := by decide +kernel
theorem dX0_cuts_5 : decode cX0_cuts 5 = .ok (.iaload, 1) := by decide +kernel
theorem dX0_cuts_6 : decode cX0_cuts 6 = .ok (.ireturn, 1) := by decide +kernel
set_option maxRecDepth 20000 in
theorem ggX0_shareOf_X4_mostLetters : GoodIn wsX0_shareOf wsX4_mostLetters := goodIn_r _ [9, 10, 11, 12, 13, 14, 34, 35, 36, 37] (by decide +kernel) (by decide +kernel)
set_option maxRecDepth 20000 in
theorem gX0_shareOf_X4_mostLetters : GoodIn wsX0_shareOf (wsV RX0 34 RX4 yX4_mostLetters wsX4_mostLetters) := goodIn_app (goodIn_of _ (by decide +kernel)) ggX0_shareOf_X4_mostLetters
set_option maxRecDepth 20000 in
theorem ggX0_shareOf_X4_pieceAt : GoodIn wsX0_shareOf wsX4_pieceAt := goodIn_r _ [18, 19, 20, 21, 8, 22, 34, 35, 36, 37] (by decide +kernel) (by decide +kernel)
set_option maxRecDepth 20000 in
theorem gX0_shareOf_X4_pieceAt : GoodIn wsX0_shareOf (wsV RX0 46 RX4 yX4_pieceAt wsX4_pieceAt) := goodIn_app (goodIn_of _ (by decide +kernel)) ggX0_shareOf_X4_pieceAt
set_option maxRecDepth 20000 in
theorem ggX0_shareOf_X4_weightAt : GoodIn wsX0_shareOf wsX4_weightAt := goodIn_r _ [26, 27, 28, 16, 17, 8, 18, 19, 20, 21, 22, 34, 35, 36, 37] (by decide +kernel) (by decide +kernel)
set_option maxRecDepth 20000 in
theorem gX0_shareOf_X4_weightAt : GoodIn wsX0_shareOf (wsV RX0 38 RX4 yX4_weightAt wsX4_weightAt) := goodIn_app (goodIn_of _ (by decide +kernel)) ggX0_shareOf_X4_weightAt
set_option maxRecDepth 20000 in
theorem ggX0_shareOf_X0_total : GoodIn wsX0_shareOf wsX0_total := goodIn_r _ [33, 3, 38, 39, 40] (by decide +kernel) (by decide +kernel)
set_option maxRecDepth 20000 in
theorem gX0_shareOf_X0_total : GoodIn wsX0_shareOf (wsV RX0 50 RX0 yX0_total wsX0_total) := goodIn_app (goodIn_of _ (by decide +kernel)) ggX0_shareOf_X0_total
theorem dX0_shareOf_0 : decode cX0_shareOf 0 = .ok (.lconst 0, 1) := by decide +kernel
theorem dX0_shareOf_1 : decode cX0_shareOf 1 = .ok (.lstore_n 3, 1) := by decide +kernel
theorem dX0_shareOf_2 : decode cX0_shareOf 2 = .ok (.iconst 0, 1) := by decide +kernel
theorem dX0_shareOf_3 : decode cX0_shareOf 3 = .ok (.istore 5, 2) := by decide +kernel
theorem dX0_shareOf_5 : decode cX0_shareOf 5 = .ok (.iload 5, 2) := by decide +kernel
theorem dX0_shareOf_7 : decode cX0_shareOf 7 = .ok (.aload_n 1, 1) := by decide +kernel
theorem dX0_shareOf_8 : decode cX0_shareOf 8 = .ok (.getfield 28, 3) := by decide +kernel
theorem dX0_shareOf_11 : decode cX0_shareOf 11 = .ok (.if_icmp .ge 81, 3) := by decide +kernel
theorem dX0_shareOf_14 : decode cX0_shareOf 14 = .ok (.aload_n 1, 1) := by decide +kernel
theorem dX0_shareOf_15 : decode cX0_shareOf 15 = .ok (.iload 5, 2) := by decide +kernel
theorem dX0_shareOf_17 : decode cX0_shareOf 17 = .ok (.invokevirtual 34, 3) := by decide +kernel
theorem dX0_shareOf_20 : decode cX0_shareOf 20 = .ok (.istore 6, 2) := by decide +kernel
theorem dX0_shareOf_22 : decode cX0_shareOf 22 = .ok (.iconst 1, 1) := by decide +kernel
theorem dX0_shareOf_23 : decode cX0_shareOf 23 = .ok (.istore 7, 2) := by decide +kernel
theorem dX0_shareOf_25 : decode cX0_shareOf 25 = .ok (.iload 7, 2) := by decide +kernel
theorem dX0_shareOf_27 : decode cX0_shareOf 27 = .ok (.iload 6, 2) := by decide +kernel
theorem dX0_shareOf_29 : decode cX0_shareOf 29 = .ok (.if_icmp .gt 57, 3) := by decide +kernel
theorem dX0_shareOf_32 : decode cX0_shareOf 32 = .ok (.aload_n 1, 1) := by decide +kernel
theorem dX0_shareOf_33 : decode cX0_shareOf 33 = .ok (.iload 5, 2) := by decide +kernel
theorem dX0_shareOf_35 : decode cX0_shareOf 35 = .ok (.iload 7, 2) := by decide +kernel
theorem dX0_shareOf_37 : decode cX0_shareOf 37 = .ok (.invokevirtual 46, 3) := by decide +kernel
theorem dX0_shareOf_40 : decode cX0_shareOf 40 = .ok (.iload_n 2, 1) := by decide +kernel
theorem dX0_shareOf_41 : decode cX0_shareOf 41 = .ok (.if_icmp .ne 39, 3) := by decide +kernel
theorem dX0_shareOf_44 : decode cX0_shareOf 44 = .ok (.aload_n 1, 1) := by decide +kernel
theorem dX0_shareOf_45 : decode cX0_shareOf 45 = .ok (.iload 5, 2) := by decide +kernel
theorem dX0_shareOf_47 : decode cX0_shareOf 47 = .ok (.iload 7, 2) := by decide +kernel
theorem dX0_shareOf_49 : decode cX0_shareOf 49 = .ok (.iconst (-1), 1) := by decide +kernel
theorem dX0_shareOf_50 : decode cX0_shareOf 50 = .ok (.invokevirtual 38, 3) := by decide +kernel
theorem dX0_shareOf_53 : decode cX0_shareOf 53 = .ok (.istore 8, 2) := by decide +kernel
theorem dX0_shareOf_55 : decode cX0_shareOf 55 = .ok (.lload_n 3, 1) := by decide +kernel
theorem dX0_shareOf_56 : decode cX0_shareOf 56 = .ok (.aload_n 0, 1) := by decide +kernel
theorem dX0_shareOf_57 : decode cX0_shareOf 57 = .ok (.getfield 9, 3) := by decide +kernel
theorem dX0_shareOf_60 : decode cX0_shareOf 60 = .ok (.iload 5, 2) := by decide +kernel
theorem dX0_shareOf_62 : decode cX0_shareOf 62 = .ok (.laload, 1) := by decide +kernel
theorem dX0_shareOf_63 : decode cX0_shareOf 63 = .ok (.iload 8, 2) := by decide +kernel
theorem dX0_shareOf_65 : decode cX0_shareOf 65 = .ok (.i2l, 1) := by decide +kernel
theorem dX0_shareOf_66 : decode cX0_shareOf 66 = .ok (.lmul, 1) := by decide +kernel
theorem dX0_shareOf_67 : decode cX0_shareOf 67 = .ok (.aload_n 0, 1) := by decide +kernel
theorem dX0_shareOf_68 : decode cX0_shareOf 68 = .ok (.getfield 15, 3) := by decide +kernel
theorem dX0_shareOf_71 : decode cX0_shareOf 71 = .ok (.iload 5, 2) := by decide +kernel
theorem dX0_shareOf_73 : decode cX0_shareOf 73 = .ok (.iload 7, 2) := by decide +kernel
theorem dX0_shareOf_75 : decode cX0_shareOf 75 = .ok (.iadd, 1) := by decide +kernel
theorem dX0_shareOf_76 : decode cX0_shareOf 76 = .ok (.laload, 1) := by decide +kernel
theorem dX0_shareOf_77 : decode cX0_shareOf 77 = .ok (.lmul, 1) := by decide +kernel
theorem dX0_shareOf_78 : decode cX0_shareOf 78 = .ok (.ladd, 1) := by decide +kernel
theorem dX0_shareOf_79 : decode cX0_shareOf 79 = .ok (.lstore_n 3, 1) := by decide +kernel
theorem dX0_shareOf_80 : decode cX0_shareOf 80 = .ok (.iinc 7 1, 3) := by decide +kernel
theorem dX0_shareOf_83 : decode cX0_shareOf 83 = .ok (.goto (-58), 3) := by decide +kernel
theorem dX0_shareOf_86 : decode cX0_shareOf 86 = .ok (.iinc 5 1, 3) := by decide +kernel
theorem dX0_shareOf_89 : decode cX0_shareOf 89 = .ok (.goto (-84), 3) := by decide +kernel
theorem dX0_shareOf_92 : decode cX0_shareOf 92 = .ok (.aload_n 0, 1) := by decide +kernel
theorem dX0_shareOf_93 : decode cX0_shareOf 93 = .ok (.invokevirtual 50, 3) := by decide +kernel
theorem dX0_shareOf_96 : decode cX0_shareOf 96 = .ok (.lconst 0, 1) := by decide +kernel
theorem dX0_shareOf_97 : decode cX0_shareOf 97 = .ok (.lcmp, 1) := by decide +kernel
theorem dX0_shareOf_98 : decode cX0_shareOf 98 = .ok (.ifCond .le 17, 3) := by decide +kernel
theorem dX0_shareOf_101 : decode cX0_shareOf 101 = .ok (.ldc2_w 54, 3) := by decide +kernel
theorem dX0_shareOf_104 : decode cX0_shareOf 104 = .ok (.lload_n 3, 1) := by decide +kernel
theorem dX0_shareOf_105 : decode cX0_shareOf 105 = .ok (.lmul, 1) := by decide +kernel
theorem dX0_shareOf_106 : decode cX0_shareOf 106 = .ok (.aload_n 0, 1) := by decide +kernel
theorem dX0_shareOf_107 : decode cX0_shareOf 107 = .ok (.invokevirtual 50, 3) := by decide +kernel
theorem dX0_shareOf_110 : decode cX0_shareOf 110 = .ok (.ldiv, 1) := by decide +kernel
theorem dX0_shareOf_111 : decode cX0_shareOf 111 = .ok (.l2i, 1) := by decide +kernel
theorem dX0_shareOf_112 : decode cX0_shareOf 112 = .ok (.goto 4, 3) := by decide +kernel
theorem dX0_shareOf_115 : decode cX0_shareOf 115 = .ok (.iconst 0, 1) := by decide +kernel
theorem dX0_shareOf_116 : decode cX0_shareOf 116 = .ok (.ireturn, 1) := by decide +kernel
theorem dX1_init_0 : decode cX1_init 0 = .ok (.aload_n 0, 1) := by decide +kernel
theorem dX1_init_1 : decode cX1_init 1 = .ok (.invokespecial 3, 3) := by decide +kernel
theorem dX1_init_4 : decode cX1_init 4 = .ok (.aload_n 0, 1) := by decide +kernel
theorem dX1_init_5 : decode cX1_init 5 = .ok (.bipush 13, 2) := by decide +kernel
theorem dX1_init_7 : decode cX1_init 7 = .ok (.newarray .long, 2) := by decide +kernel
theorem dX1_init_9 : decode cX1_init 9 = .ok (.putfield 9, 3) := by decide +kernel
theorem dX1_init_12 : decode cX1_init 12 = .ok (.aload_n 0, 1) := by decide +kernel
theorem dX1_init_13 : decode cX1_init 13 = .ok (.bipush 13, 2) := by decide +kernel
theorem dX1_init_15 : decode cX1_init 15 = .ok (.newarray .int, 2) := by decide +kernel
theorem dX1_init_17 : decode cX1_init 17 = .ok (.putfield 15, 3) := by decide +kernel
theorem dX1_init_20 : decode cX1_init 20 = .ok (.aload_n 0, 1) := by decide +kernel
theorem dX1_init_21 : decode cX1_init 21 = .ok (.bipush 13, 2) := by decide +kernel
theorem dX1_init_23 : decode cX1_init 23 = .ok (.newarray .int, 2) := by decide +kernel
theorem dX1_init_25 : decode cX1_init 25 = .ok (.putfield 19, 3) := by decide +kernel
theorem dX1_init_28 : decode cX1_init 28 = .ok (.aload_n 0, 1) := by decide +kernel
theorem dX1_init_29 : decode cX1_init 29 = .ok (.bipush 12, 2) := by decide +kernel
theorem dX1_init_31 : decode cX1_init 31 = .ok (.newarray .int, 2) := by decide +kernel
theorem dX1_init_33 : decode cX1_init 33 = .ok (.putfield 22, 3) := by decide +kernel
theorem dX1_init_36 : decode cX1_init 36 = .ok (.aload_n 0, 1) := by decide +kernel
theorem dX1_init_37 : decode cX1_init 37 = .ok (.bipush 12, 2) := by decide +kernel
theorem dX1_init_39 : decode cX1_init 39 = .ok (.newarray .int, 2) := by decide +kernel
theorem dX1_init_41 : decode cX1_init 41 = .ok (.putfield 25, 3) := by decide +kernel
theorem dX1_init_44 : decode cX1_init 44 = .ok (.aload_n 0, 1) := by decide +kernel
theorem dX1_init_45 : decode cX1_init 45 = .ok (.bipush 12, 2) := by decide +kernel
theorem dX1_init_47 : decode cX1_init 47 = .ok (.newarray .int, 2) := by decide +kernel
theorem dX1_init_49 : decode cX1_init 49 = .ok (.putfield 28, 3) := by decide +kernel
theorem dX1_init_52 : decode cX1_init 52 = .ok (.return_, 1) := by decide +kernel
set_option maxRecDepth 20000 in
theorem ggX1_find_X1_findFirst : GoodIn wsX1_find wsX1_findFirst := goodIn_r _ [8, 1, 3, 9, 10, 11, 12, 13, 14, 15, 16, 17, 18, 19, 20, 21, 22, 23, 24, 25, 26, 27, 28, 29, 30, 31, 32, 43, 44, 45, 46, 47, 48, 49, 50, 51, 52, 53, 54] (by decide +kernel) (by decide +kernel)
set_option maxRecDepth 20000 in
theorem gX1_find_X1_findFirst : GoodIn wsX1_find (wsV RX1 37 RX1 yX1_findFirst wsX1_findFirst) := goodIn_app (goodIn_of _ (by decide +kernel)) ggX1_find_X1_findFirst
set_option maxRecDepth 20000 in
theorem ggX1_find_X1_layOut : GoodIn wsX1_find wsX1_layOut := goodIn_r _ [36, 3, 37, 38, 9, 39, 40, 41, 42, 26, 27, 13, 28, 29, 30, 31, 32, 43, 44, 45, 46, 47, 48, 49, 50, 51, 52, 53, 54] (by decide +kernel) (by decide +kernel)
set_option maxRecDepth 20000 in
theorem gX1_find_X1_layOut : GoodIn wsX1_find (wsV RX1 41 RX1 yX1_layOut wsX1_layOut) := goodIn_app (goodIn_of _ (by decide +kernel)) ggX1_find_X1_layOut
theorem dX1_find_0 : decode cX1_find 0 = .ok (.aload_n 0, 1) := by decide +kernel
theorem dX1_find_1 : decode cX1_find 1 = .ok (.getfield 9, 3) := by decide +kernel
theorem dX1_find_4 : decode cX1_find 4 = .ok (.aload_n 1, 1) := by decide +kernel
theorem dX1_find_5 : decode cX1_find 5 = .ok (.getfield 31, 3) := by decide +kernel
theorem dX1_find_8 : decode cX1_find 8 = .ok (.lconst 1, 1) := by decide +kernel
theorem dX1_find_9 : decode cX1_find 9 = .ok (.lastore, 1) := by decide +kernel
theorem dX1_find_10 : decode cX1_find 10 = .ok (.aload_n 0, 1) := by decide +kernel
theorem dX1_find_11 : decode cX1_find 11 = .ok (.getfield 15, 3) := by decide +kernel
theorem dX1_find_14 : decode cX1_find 14 = .ok (.aload_n 1, 1) := by decide +kernel
theorem dX1_find_15 : decode cX1_find 15 = .ok (.getfield 31, 3) := by decide +kernel
theorem dX1_find_18 : decode cX1_find 18 = .ok (.iconst 0, 1) := by decide +kernel
theorem dX1_find_19 : decode cX1_find 19 = .ok (.iastore, 1) := by decide +kernel
theorem dX1_find_20 : decode cX1_find 20 = .ok (.aload_n 1, 1) := by decide +kernel
theorem dX1_find_21 : decode cX1_find 21 = .ok (.getfield 31, 3) := by decide +kernel
theorem dX1_find_24 : decode cX1_find 24 = .ok (.iconst 1, 1) := by decide +kernel
theorem dX1_find_25 : decode cX1_find 25 = .ok (.isub, 1) := by decide +kernel
theorem dX1_find_26 : decode cX1_find 26 = .ok (.istore_n 3, 1) := by decide +kernel
theorem dX1_find_27 : decode cX1_find 27 = .ok (.iload_n 3, 1) := by decide +kernel
theorem dX1_find_28 : decode cX1_find 28 = .ok (.ifCond .lt 16, 3) := by decide +kernel
theorem dX1_find_31 : decode cX1_find 31 = .ok (.aload_n 0, 1) := by decide +kernel
theorem dX1_find_32 : decode cX1_find 32 = .ok (.aload_n 1, 1) := by decide +kernel
theorem dX1_find_33 : decode cX1_find 33 = .ok (.iload_n 3, 1) := by decide +kernel
theorem dX1_find_34 : decode cX1_find 34 = .ok (.iload_n 2, 1) := by decide +kernel
theorem dX1_find_35 : decode cX1_find 35 = .ok (.invokevirtual 37, 3) := by decide +kernel
theorem dX1_find_38 : decode cX1_find 38 = .ok (.iinc 3 (-1), 3) := by decide +kernel
theorem dX1_find_41 : decode cX1_find 41 = .ok (.goto (-14), 3) := by decide +kernel
theorem dX1_find_44 : decode cX1_find 44 = .ok (.aload_n 0, 1) := by decide +kernel
theorem dX1_find_45 : decode cX1_find 45 = .ok (.aload_n 1, 1) := by decide +kernel
theorem dX1_find_46 : decode cX1_find 46 = .ok (.iload_n 2, 1) := by decide +kernel
theorem dX1_find_47 : decode cX1_find 47 = .ok (.invokevirtual 41, 3) := by decide +kernel
theorem dX1_find_50 : decode cX1_find 50 = .ok (.return_, 1) := by decide +kernel
set_option maxRecDepth 20000 in
theorem ggX1_findFirst_X4_mostLetters : GoodIn wsX1_findFirst wsX4_mostLetters := goodIn_r _ [8, 9, 10, 11, 12, 13, 35, 36, 37, 38] (by decide +kernel) (by decide +kernel)
set_option maxRecDepth 20000 in
theorem gX1_findFirst_X4_mostLetters : GoodIn wsX1_findFirst (wsV RX1 45 RX4 yX4_mostLetters wsX4_mostLetters) := goodIn_app (goodIn_of _ (by decide +kernel)) ggX1_findFirst_X4_mostLetters
set_option maxRecDepth 20000 in
theorem ggX1_findFirst_X4_weightAt : GoodIn wsX1_findFirst wsX4_weightAt := goodIn_r _ [17, 18, 19, 20, 21, 7, 22, 23, 24, 25, 26, 35, 36, 37, 38] (by decide +kernel) (by decide +kernel)
set_option maxRecDepth 20000 in
theorem gX1_findFirst_X4_weightAt : GoodIn wsX1_findFirst (wsV RX1 49 RX4 yX4_weightAt wsX4_weightAt) := goodIn_app (goodIn_of _ (by decide +kernel)) ggX1_findFirst_X4_weightAt
theorem dX1_findFirst_0 : decode cX1_findFirst 0 = .ok (.aload_n 0, 1) := by decide +kernel
theorem dX1_findFirst_1 : decode cX1_findFirst 1 = .ok (.getfield 9, 3) := by decide +kernel
theorem dX1_findFirst_4 : decode cX1_findFirst 4 = .ok (.iload_n 2, 1) := by decide +kernel
theorem dX1_findFirst_5 : decode cX1_findFirst 5 = .ok (.lconst 0, 1) := by decide +kernel
theorem dX1_findFirst_6 : decode cX1_findFirst 6 = .ok (.lastore, 1) := by decide +kernel
theorem dX1_findFirst_7 : decode cX1_findFirst 7 = .ok (.aload_n 0, 1) := by decide +kernel
theorem dX1_findFirst_8 : decode cX1_findFirst 8 = .ok (.getfield 15, 3) := by decide +kernel
theorem dX1_findFirst_11 : decode cX1_findFirst 11 = .ok (.iload_n 2, 1) := by decide +kernel
theorem dX1_findFirst_12 : decode cX1_findFirst 12 = .ok (.iconst 0, 1) := by decide +kernel
theorem dX1_findFirst_13 : decode cX1_findFirst 13 = .ok (.iastore, 1) := by decide +kernel
theorem dX1_findFirst_14 : decode cX1_findFirst 14 = .ok (.aload_n 1, 1) := by decide +kernel
theorem dX1_findFirst_15 : decode cX1_findFirst 15 = .ok (.iload_n 2, 1) := by decide +kernel
theorem dX1_findFirst_16 : decode cX1_findFirst 16 = .ok (.invokevirtual 45, 3) := by decide +kernel
theorem dX1_findFirst_19 : decode cX1_findFirst 19 = .ok (.istore 4, 2) := by decide +kernel
theorem dX1_findFirst_21 : decode cX1_findFirst 21 = .ok (.iconst 1, 1) := by decide +kernel
theorem dX1_findFirst_22 : decode cX1_findFirst 22 = .ok (.istore 5, 2) := by decide +kernel
theorem dX1_findFirst_24 : decode cX1_findFirst 24 = .ok (.iload 5, 2) := by decide +kernel
theorem dX1_findFirst_26 : decode cX1_findFirst 26 = .ok (.iload 4, 2) := by decide +kernel
theorem dX1_findFirst_28 : decode cX1_findFirst 28 = .ok (.if_icmp .gt 111, 3) := by decide +kernel
theorem dX1_findFirst_31 : decode cX1_findFirst 31 = .ok (.aload_n 1, 1) := by decide +kernel
theorem dX1_findFirst_32 : decode cX1_findFirst 32 = .ok (.iload_n 2, 1) := by decide +kernel
theorem dX1_findFirst_33 : decode cX1_findFirst 33 = .ok (.iload 5, 2) := by decide +kernel
theorem dX1_findFirst_35 : decode cX1_findFirst 35 = .ok (.iload_n 3, 1) := by decide +kernel
theorem dX1_findFirst_36 : decode cX1_findFirst 36 = .ok (.invokevirtual 49, 3) := by decide +kernel
theorem dX1_findFirst_39 : decode cX1_findFirst 39 = .ok (.istore 6, 2) := by decide +kernel
theorem dX1_findFirst_41 : decode cX1_findFirst 41 = .ok (.iload 6, 2) := by decide +kernel
theorem dX1_findFirst_43 : decode cX1_findFirst 43 = .ok (.i2l, 1) := by decide +kernel
theorem dX1_findFirst_44 : decode cX1_findFirst 44 = .ok (.aload_n 0, 1) := by decide +kernel
theorem dX1_findFirst_45 : decode cX1_findFirst 45 = .ok (.getfield 9, 3) := by decide +kernel
theorem dX1_findFirst_48 : decode cX1_findFirst 48 = .ok (.iload_n 2, 1) := by decide +kernel
theorem dX1_findFirst_49 : decode cX1_findFirst 49 = .ok (.iload 5, 2) := by decide +kernel
theorem dX1_findFirst_51 : decode cX1_findFirst 51 = .ok (.iadd, 1) := by decide +kernel
theorem dX1_findFirst_52 : decode cX1_findFirst 52 = .ok (.laload, 1) := by decide +kernel
theorem dX1_findFirst_53 : decode cX1_findFirst 53 = .ok (.lmul, 1) := by decide +kernel
theorem dX1_findFirst_54 : decode cX1_findFirst 54 = .ok (.lstore 7, 2) := by decide +kernel
theorem dX1_findFirst_56 : decode cX1_findFirst 56 = .ok (.iconst 1, 1) := by decide +kernel
theorem dX1_findFirst_57 : decode cX1_findFirst 57 = .ok (.aload_n 0, 1) := by decide +kernel
theorem dX1_findFirst_58 : decode cX1_findFirst 58 = .ok (.getfield 15, 3) := by decide +kernel
theorem dX1_findFirst_61 : decode cX1_findFirst 61 = .ok (.iload_n 2, 1) := by decide +kernel
theorem dX1_findFirst_62 : decode cX1_findFirst 62 = .ok (.iload 5, 2) := by decide +kernel
theorem dX1_findFirst_64 : decode cX1_findFirst 64 = .ok (.iadd, 1) := by decide +kernel
theorem dX1_findFirst_65 : decode cX1_findFirst 65 = .ok (.iaload, 1) := by decide +kernel
theorem dX1_findFirst_66 : decode cX1_findFirst 66 = .ok (.iadd, 1) := by decide +kernel
theorem dX1_findFirst_67 : decode cX1_findFirst 67 = .ok (.istore 9, 2) := by decide +kernel
theorem dX1_findFirst_69 : decode cX1_findFirst 69 = .ok (.iload 6, 2) := by decide +kernel
theorem dX1_findFirst_71 : decode cX1_findFirst 71 = .ok (.ifCond .le 62, 3) := by decide +kernel
theorem dX1_findFirst_74 : decode cX1_findFirst 74 = .ok (.lload 7, 2) := by decide +kernel
theorem dX1_findFirst_76 : decode cX1_findFirst 76 = .ok (.aload_n 0, 1) := by decide +kernel
theorem dX1_findFirst_77 : decode cX1_findFirst 77 = .ok (.getfield 9, 3) := by decide +kernel
theorem dX1_findFirst_80 : decode cX1_findFirst 80 = .ok (.iload_n 2, 1) := by decide +kernel
theorem dX1_findFirst_81 : decode cX1_findFirst 81 = .ok (.laload, 1) := by decide +kernel
theorem dX1_findFirst_82 : decode cX1_findFirst 82 = .ok (.lcmp, 1) := by decide +kernel
theorem dX1_findFirst_83 : decode cX1_findFirst 83 = .ok (.ifCond .gt 26, 3) := by decide +kernel
theorem dX1_findFirst_86 : decode cX1_findFirst 86 = .ok (.lload 7, 2) := by decide +kernel
theorem dX1_findFirst_88 : decode cX1_findFirst 88 = .ok (.aload_n 0, 1) := by decide +kernel
theorem dX1_findFirst_89 : decode cX1_findFirst 89 = .ok (.getfield 9, 3) := by decide +kernel
theorem dX1_findFirst_92 : decode cX1_findFirst 92 = .ok (.iload_n 2, 1) := by decide +kernel
theorem dX1_findFirst_93 : decode cX1_findFirst 93 = .ok (.laload, 1) := by decide +kernel
theorem dX1_findFirst_94 : decode cX1_findFirst 94 = .ok (.lcmp, 1) := by decide +kernel
theorem dX1_findFirst_95 : decode cX1_findFirst 95 = .ok (.ifCond .ne 38, 3) := by decide +kernel
theorem dX1_findFirst_98 : decode cX1_findFirst 98 = .ok (.iload 9, 2) := by decide +kernel
theorem dX1_findFirst_100 : decode cX1_findFirst 100 = .ok (.aload_n 0, 1) := by decide +kernel
theorem dX1_findFirst_101 : decode cX1_findFirst 101 = .ok (.getfield 15, 3) := by decide +kernel
theorem dX1_findFirst_104 : decode cX1_findFirst 104 = .ok (.iload_n 2, 1) := by decide +kernel
theorem dX1_findFirst_105 : decode cX1_findFirst 105 = .ok (.iaload, 1) := by decide +kernel
theorem dX1_findFirst_106 : decode cX1_findFirst 106 = .ok (.if_icmp .gt 27, 3) := by decide +kernel
theorem dX1_findFirst_109 : decode cX1_findFirst 109 = .ok (.aload_n 0, 1) := by decide +kernel
theorem dX1_findFirst_110 : decode cX1_findFirst 110 = .ok (.getfield 9, 3) := by decide +kernel
theorem dX1_findFirst_113 : decode cX1_findFirst 113 = .ok (.iload_n 2, 1) := by decide +kernel
theorem dX1_findFirst_114 : decode cX1_findFirst 114 = .ok (.lload 7, 2) := by decide +kernel
theorem dX1_findFirst_116 : decode cX1_findFirst 116 = .ok (.lastore, 1) := by decide +kernel
theorem dX1_findFirst_117 : decode cX1_findFirst 117 = .ok (.aload_n 0, 1) := by decide +kernel
theorem dX1_findFirst_118 : decode cX1_findFirst 118 = .ok (.getfield 15, 3) := by decide +kernel
theorem dX1_findFirst_121 : decode cX1_findFirst 121 = .ok (.iload_n 2, 1) := by decide +kernel
theorem dX1_findFirst_122 : decode cX1_findFirst 122 = .ok (.iload 9, 2) := by decide +kernel
theorem dX1_findFirst_124 : decode cX1_findFirst 124 = .ok (.iastore, 1) := by decide +kernel
theorem dX1_findFirst_125 : decode cX1_findFirst 125 = .ok (.aload_n 0, 1) := by decide +kernel
theorem dX1_findFirst_126 : decode cX1_findFirst 126 = .ok (.getfield 19, 3) := by decide +kernel
theorem dX1_findFirst_129 : decode cX1_findFirst 129 = .ok (.iload_n 2, 1) := by decide +kernel
theorem dX1_findFirst_130 : decode cX1_findFirst 130 = .ok (.iload 5, 2) := by decide +kernel
theorem dX1_findFirst_132 : decode cX1_findFirst 132 = .ok (.iastore, 1) := by decide +kernel
theorem dX1_findFirst_133 : decode cX1_findFirst 133 = .ok (.iinc 5 1, 3) := by decide +kernel
theorem dX1_findFirst_136 : decode cX1_findFirst 136 = .ok (.goto (-112), 3) := by decide +kernel
theorem dX1_findFirst_139 : decode cX1_findFirst 139 = .ok (.return_, 1) := by decide +kernel
set_option maxRecDepth 20000 in
theorem ggX1_layOut_X4_pieceAt : GoodIn wsX1_layOut wsX4_pieceAt := goodIn_r _ [12, 13, 14, 15, 11, 16, 25, 26, 27, 28] (by decide +kernel) (by decide +kernel)
set_option maxRecDepth 20000 in
theorem gX1_layOut_X4_pieceAt : GoodIn wsX1_layOut (wsV RX1 59 RX4 yX4_pieceAt wsX4_pieceAt) := goodIn_app (goodIn_of _ (by decide +kernel)) ggX1_layOut_X4_pieceAt
theorem dX1_layOut_0 : decode cX1_layOut 0 = .ok (.aload_n 0, 1) := by decide +kernel
theorem dX1_layOut_1 : decode cX1_layOut 1 = .ok (.aload_n 0, 1) := by decide +kernel
theorem dX1_layOut_2 : decode cX1_layOut 2 = .ok (.getfield 15, 3) := by decide +kernel
theorem dX1_layOut_5 : decode cX1_layOut 5 = .ok (.iconst 0, 1) := by decide +kernel
theorem dX1_layOut_6 : decode cX1_layOut 6 = .ok (.iaload, 1) := by decide +kernel
theorem dX1_layOut_7 : decode cX1_layOut 7 = .ok (.putfield 53, 3) := by decide +kernel
theorem dX1_layOut_10 : decode cX1_layOut 10 = .ok (.aload_n 0, 1) := by decide +kernel
theorem dX1_layOut_11 : decode cX1_layOut 11 = .ok (.iconst 0, 1) := by decide +kernel
theorem dX1_layOut_12 : decode cX1_layOut 12 = .ok (.putfield 56, 3) := by decide +kernel
theorem dX1_layOut_15 : decode cX1_layOut 15 = .ok (.iconst 0, 1) := by decide +kernel
theorem dX1_layOut_16 : decode cX1_layOut 16 = .ok (.istore_n 3, 1) := by decide +kernel
theorem dX1_layOut_17 : decode cX1_layOut 17 = .ok (.iconst 0, 1) := by decide +kernel
theorem dX1_layOut_18 : decode cX1_layOut 18 = .ok (.istore 4, 2) := by decide +kernel
theorem dX1_layOut_20 : decode cX1_layOut 20 = .ok (.iload 4, 2) := by decide +kernel
theorem dX1_layOut_22 : decode cX1_layOut 22 = .ok (.aload_n 0, 1) := by decide +kernel
theorem dX1_layOut_23 : decode cX1_layOut 23 = .ok (.getfield 53, 3) := by decide +kernel
theorem dX1_layOut_26 : decode cX1_layOut 26 = .ok (.if_icmp .ge 88, 3) := by decide +kernel
theorem dX1_layOut_29 : decode cX1_layOut 29 = .ok (.aload_n 0, 1) := by decide +kernel
theorem dX1_layOut_30 : decode cX1_layOut 30 = .ok (.getfield 19, 3) := by decide +kernel
theorem dX1_layOut_33 : decode cX1_layOut 33 = .ok (.iload_n 3, 1) := by decide +kernel
theorem dX1_layOut_34 : decode cX1_layOut 34 = .ok (.iaload, 1) := by decide +kernel
theorem dX1_layOut_35 : decode cX1_layOut 35 = .ok (.istore 5, 2) := by decide +kernel
theorem dX1_layOut_37 : decode cX1_layOut 37 = .ok (.aload_n 1, 1) := by decide +kernel
theorem dX1_layOut_38 : decode cX1_layOut 38 = .ok (.iload_n 3, 1) := by decide +kernel
theorem dX1_layOut_39 : decode cX1_layOut 39 = .ok (.iload 5, 2) := by decide +kernel
theorem dX1_layOut_41 : decode cX1_layOut 41 = .ok (.invokevirtual 59, 3) := by decide +kernel
theorem dX1_layOut_44 : decode cX1_layOut 44 = .ok (.istore 6, 2) := by decide +kernel
theorem dX1_layOut_46 : decode cX1_layOut 46 = .ok (.aload_n 0, 1) := by decide +kernel
theorem dX1_layOut_47 : decode cX1_layOut 47 = .ok (.getfield 22, 3) := by decide +kernel
theorem dX1_layOut_50 : decode cX1_layOut 50 = .ok (.iload 4, 2) := by decide +kernel
theorem dX1_layOut_52 : decode cX1_layOut 52 = .ok (.iload 6, 2) := by decide +kernel
theorem dX1_layOut_54 : decode cX1_layOut 54 = .ok (.iload_n 2, 1) := by decide +kernel
theorem dX1_layOut_55 : decode cX1_layOut 55 = .ok (.if_icmp .ne 7, 3) := by decide +kernel
theorem dX1_layOut_58 : decode cX1_layOut 58 = .ok (.iconst (-1), 1) := by decide +kernel
theorem dX1_layOut_59 : decode cX1_layOut 59 = .ok (.goto 5, 3) := by decide +kernel
theorem dX1_layOut_62 : decode cX1_layOut 62 = .ok (.iload 6, 2) := by decide +kernel
theorem dX1_layOut_64 : decode cX1_layOut 64 = .ok (.iastore, 1) := by decide +kernel
theorem dX1_layOut_65 : decode cX1_layOut 65 = .ok (.aload_n 0, 1) := by decide +kernel
theorem dX1_layOut_66 : decode cX1_layOut 66 = .ok (.getfield 25, 3) := by decide +kernel
theorem dX1_layOut_69 : decode cX1_layOut 69 = .ok (.iload 4, 2) := by decide +kernel
theorem dX1_layOut_71 : decode cX1_layOut 71 = .ok (.iload_n 3, 1) := by decide +kernel
theorem dX1_layOut_72 : decode cX1_layOut 72 = .ok (.iastore, 1) := by decide +kernel
theorem dX1_layOut_73 : decode cX1_layOut 73 = .ok (.aload_n 0, 1) := by decide +kernel
theorem dX1_layOut_74 : decode cX1_layOut 74 = .ok (.getfield 28, 3) := by decide +kernel
theorem dX1_layOut_77 : decode cX1_layOut 77 = .ok (.iload 4, 2) := by decide +kernel
theorem dX1_layOut_79 : decode cX1_layOut 79 = .ok (.iload 5, 2) := by decide +kernel
theorem dX1_layOut_81 : decode cX1_layOut 81 = .ok (.iastore, 1) := by decide +kernel
theorem dX1_layOut_82 : decode cX1_layOut 82 = .ok (.aload_n 0, 1) := by decide +kernel
theorem dX1_layOut_83 : decode cX1_layOut 83 = .ok (.getfield 22, 3) := by decide +kernel
theorem dX1_layOut_86 : decode cX1_layOut 86 = .ok (.iload 4, 2) := by decide +kernel
theorem dX1_layOut_88 : decode cX1_layOut 88 = .ok (.iaload, 1) := by decide +kernel
theorem dX1_layOut_89 : decode cX1_layOut 89 = .ok (.iconst (-1), 1) := by decide +kernel
theorem dX1_layOut_90 : decode cX1_layOut 90 = .ok (.if_icmp .ne 13, 3) := by decide +kernel
theorem dX1_layOut_93 : decode cX1_layOut 93 = .ok (.aload_n 0, 1) := by decide +kernel
theorem dX1_layOut_94 : decode cX1_layOut 94 = .ok (.dup, 1) := by decide +kernel
theorem dX1_layOut_95 : decode cX1_layOut 95 = .ok (.getfield 56, 3) := by decide +kernel
theorem dX1_layOut_98 : decode cX1_layOut 98 = .ok (.iconst 1, 1) := by decide +kernel
theorem dX1_layOut_99 : decode cX1_layOut 99 = .ok (.iadd, 1) := by decide +kernel
theorem dX1_layOut_100 : decode cX1_layOut 100 = .ok (.putfield 56, 3) := by decide +kernel
theorem dX1_layOut_103 : decode cX1_layOut 103 = .ok (.iload_n 3, 1) := by decide +kernel
theorem dX1_layOut_104 : decode cX1_layOut 104 = .ok (.iload 5, 2) := by decide +kernel
theorem dX1_layOut_106 : decode cX1_layOut 106 = .ok (.iadd, 1) := by decide +kernel
theorem dX1_layOut_107 : decode cX1_layOut 107 = .ok (.istore_n 3, 1) := by decide +kernel
theorem dX1_layOut_108 : decode cX1_layOut 108 = .ok (.iinc 4 1, 3) := by decide +kernel
theorem dX1_layOut_111 : decode cX1_layOut 111 = .ok (.goto (-91), 3) := by decide +kernel
theorem dX1_layOut_114 : decode cX1_layOut 114 = .ok (.return_, 1) := by decide +kernel
theorem dX1_greatestProduct_0 : decode cX1_greatestProduct 0 = .ok (.aload_n 0, 1) := by decide +kernel
theorem dX1_greatestProduct_1 : decode cX1_greatestProduct 1 = .ok (.getfield 9, 3) := by decide +kernel
theorem dX1_greatestProduct_4 : decode cX1_greatestProduct 4 = .ok (.iconst 0, 1) := by decide +kernel
theorem dX1_greatestProduct_5 : decode cX1_greatestProduct 5 = .ok (.laload, 1) := by decide +kernel
theorem dX1_greatestProduct_6 : decode cX1_greatestProduct 6 = .ok (.lreturn, 1) := by decide +kernel
theorem dX1_cost_0 : decode cX1_cost 0 = .ok (.aload_n 0, 1) := by decide +kernel
theorem dX1_cost_1 : decode cX1_cost 1 = .ok (.getfield 53, 3) := by decide +kernel
theorem dX1_cost_4 : decode cX1_cost 4 = .ok (.aload_n 0, 1) := by decide +kernel
theorem dX1_cost_5 : decode cX1_cost 5 = .ok (.getfield 56, 3) := by decide +kernel
theorem dX1_cost_8 : decode cX1_cost 8 = .ok (.iadd, 1) := by decide +kernel
theorem dX1_cost_9 : decode cX1_cost 9 = .ok (.ireturn, 1) := by decide +kernel
theorem dX2_init_0 : decode cX2_init 0 = .ok (.aload_n 0, 1) := by decide +kernel
theorem dX2_init_1 : decode cX2_init 1 = .ok (.invokespecial 3, 3) := by decide +kernel
theorem dX2_init_4 : decode cX2_init 4 = .ok (.aload_n 0, 1) := by decide +kernel
theorem dX2_init_5 : decode cX2_init 5 = .ok (.bipush 16, 2) := by decide +kernel
theorem dX2_init_7 : decode cX2_init 7 = .ok (.newarray .int, 2) := by decide +kernel
theorem dX2_init_9 : decode cX2_init 9 = .ok (.putfield 9, 3) := by decide +kernel
theorem dX2_init_12 : decode cX2_init 12 = .ok (.aload_n 0, 1) := by decide +kernel
theorem dX2_init_13 : decode cX2_init 13 = .ok (.bipush 16, 2) := by decide +kernel
theorem dX2_init_15 : decode cX2_init 15 = .ok (.newarray .int, 2) := by decide +kernel
theorem dX2_init_17 : decode cX2_init 17 = .ok (.putfield 15, 3) := by decide +kernel
theorem dX2_init_20 : decode cX2_init 20 = .ok (.aload_n 0, 1) := by decide +kernel
theorem dX2_init_21 : decode cX2_init 21 = .ok (.bipush 16, 2) := by decide +kernel
theorem dX2_init_23 : decode cX2_init 23 = .ok (.newarray .int, 2) := by decide +kernel
theorem dX2_init_25 : decode cX2_init 25 = .ok (.putfield 18, 3) := by decide +kernel
theorem dX2_init_28 : decode cX2_init 28 = .ok (.aload_n 0, 1) := by decide +kernel
theorem dX2_init_29 : decode cX2_init 29 = .ok (.bipush 8, 2) := by decide +kernel
theorem dX2_init_31 : decode cX2_init 31 = .ok (.newarray .int, 2) := by decide +kernel
theorem dX2_init_33 : decode cX2_init 33 = .ok (.putfield 21, 3) := by decide +kernel
theorem dX2_init_36 : decode cX2_init 36 = .ok (.aload_n 0, 1) := by decide +kernel
theorem dX2_init_37 : decode cX2_init 37 = .ok (.bipush 8, 2) := by decide +kernel
theorem dX2_init_39 : decode cX2_init 39 = .ok (.newarray .int, 2) := by decide +kernel
theorem dX2_init_41 : decode cX2_init 41 = .ok (.putfield 24, 3) := by decide +kernel
theorem dX2_init_44 : decode cX2_init 44 = .ok (.aload_n 0, 1) := by decide +kernel
theorem dX2_init_45 : decode cX2_init 45 = .ok (.bipush 96, 2) := by decide +kernel
theorem dX2_init_47 : decode cX2_init 47 = .ok (.newarray .int, 2) := by decide +kernel
theorem dX2_init_49 : decode cX2_init 49 = .ok (.putfield 27, 3) := by decide +kernel
theorem dX2_init_52 : decode cX2_init 52 = .ok (.return_, 1) := by decide +kernel
theorem dX2_copyFrom_0 : decode cX2_copyFrom 0 = .ok (.aload_n 0, 1) := by decide +kernel
theorem dX2_copyFrom_1 : decode cX2_copyFrom 1 = .ok (.aload_n 1, 1) := by decide +kernel
theorem dX2_copyFrom_2 : decode cX2_copyFrom 2 = .ok (.getfield 30, 3) := by decide +kernel
theorem dX2_copyFrom_5 : decode cX2_copyFrom 5 = .ok (.putfield 30, 3) := by decide +kernel
theorem dX2_copyFrom_8 : decode cX2_copyFrom 8 = .ok (.aload_n 1, 1) := by decide +kernel
theorem dX2_copyFrom_9 : decode cX2_copyFrom 9 = .ok (.getfield 9, 3) := by decide +kernel
theorem dX2_copyFrom_12 : decode cX2_copyFrom 12 = .ok (.iconst 0, 1) := by decide +kernel
theorem dX2_copyFrom_13 : decode cX2_copyFrom 13 = .ok (.aload_n 0, 1) := by decide +kernel
theorem dX2_copyFrom_14 : decode cX2_copyFrom 14 = .ok (.getfield 9, 3) := by decide +kernel
theorem dX2_copyFrom_17 : decode cX2_copyFrom 17 = .ok (.iconst 0, 1) := by decide +kernel
theorem dX2_copyFrom_18 : decode cX2_copyFrom 18 = .ok (.bipush 16, 2) := by decide +kernel
theorem dX2_copyFrom_20 : decode cX2_copyFrom 20 = .ok (.invokestatic 34, 3) := by decide +kernel
theorem dX2_copyFrom_23 : decode cX2_copyFrom 23 = .ok (.aload_n 1, 1) := by decide +kernel
theorem dX2_copyFrom_24 : decode cX2_copyFrom 24 = .ok (.getfield 15, 3) := by decide +kernel
theorem dX2_copyFrom_27 : decode cX2_copyFrom 27 = .ok (.iconst 0, 1) := by decide +kernel
theorem dX2_copyFrom_28 : decode cX2_copyFrom 28 = .ok (.aload_n 0, 1) := by decide +kernel
theorem dX2_copyFrom_29 : decode cX2_copyFrom 29 = .ok (.getfield 15, 3) := by decide +kernel
theorem dX2_copyFrom_32 : decode cX2_copyFrom 32 = .ok (.iconst 0, 1) := by decide +kernel
theorem dX2_copyFrom_33 : decode cX2_copyFrom 33 = .ok (.bipush 16, 2) := by decide +kernel
theorem dX2_copyFrom_35 : decode cX2_copyFrom 35 = .ok (.invokestatic 34, 3) := by decide +kernel
theorem dX2_copyFrom_38 : decode cX2_copyFrom 38 = .ok (.aload_n 1, 1) := by decide +kernel
theorem dX2_copyFrom_39 : decode cX2_copyFrom 39 = .ok (.getfield 18, 3) := by decide +kernel
theorem dX2_copyFrom_42 : decode cX2_copyFrom 42 = .ok (.iconst 0, 1) := by decide +kernel
theorem dX2_copyFrom_43 : decode cX2_copyFrom 43 = .ok (.aload_n 0, 1) := by decide +kernel
theorem dX2_copyFrom_44 : decode cX2_copyFrom 44 = .ok (.getfield 18, 3) := by decide +kernel
theorem dX2_copyFrom_47 : decode cX2_copyFrom 47 = .ok (.iconst 0, 1) := by decide +kernel
theorem dX2_copyFrom_48 : decode cX2_copyFrom 48 = .ok (.bipush 16, 2) := by decide +kernel
theorem dX2_copyFrom_50 : decode cX2_copyFrom 50 = .ok (.invokestatic 34, 3) := by decide +kernel
theorem dX2_copyFrom_53 : decode cX2_copyFrom 53 = .ok (.aload_n 0, 1) := by decide +kernel
theorem dX2_copyFrom_54 : decode cX2_copyFrom 54 = .ok (.aload_n 1, 1) := by decide +kernel
theorem dX2_copyFrom_55 : decode cX2_copyFrom 55 = .ok (.getfield 40, 3) := by decide +kernel
theorem dX2_copyFrom_58 : decode cX2_copyFrom 58 = .ok (.putfield 40, 3) := by decide +kernel
theorem dX2_copyFrom_61 : decode cX2_copyFrom 61 = .ok (.aload_n 1, 1) := by decide +kernel
theorem dX2_copyFrom_62 : decode cX2_copyFrom 62 = .ok (.getfield 21, 3) := by decide +kernel
theorem dX2_copyFrom_65 : decode cX2_copyFrom 65 = .ok (.iconst 0, 1) := by decide +kernel
theorem dX2_copyFrom_66 : decode cX2_copyFrom 66 = .ok (.aload_n 0, 1) := by decide +kernel
theorem dX2_copyFrom_67 : decode cX2_copyFrom 67 = .ok (.getfield 21, 3) := by decide +kernel
theorem dX2_copyFrom_70 : decode cX2_copyFrom 70 = .ok (.iconst 0, 1) := by decide +kernel
theorem dX2_copyFrom_71 : decode cX2_copyFrom 71 = .ok (.bipush 8, 2) := by decide +kernel
theorem dX2_copyFrom_73 : decode cX2_copyFrom 73 = .ok (.invokestatic 34, 3) := by decide +kernel
theorem dX2_copyFrom_76 : decode cX2_copyFrom 76 = .ok (.aload_n 1, 1) := by decide +kernel
theorem dX2_copyFrom_77 : decode cX2_copyFrom 77 = .ok (.getfield 24, 3) := by decide +kernel
theorem dX2_copyFrom_80 : decode cX2_copyFrom 80 = .ok (.iconst 0, 1) := by decide +kernel
theorem dX2_copyFrom_81 : decode cX2_copyFrom 81 = .ok (.aload_n 0, 1) := by decide +kernel
theorem dX2_copyFrom_82 : decode cX2_copyFrom 82 = .ok (.getfield 24, 3) := by decide +kernel
theorem dX2_copyFrom_85 : decode cX2_copyFrom 85 = .ok (.iconst 0, 1) := by decide +kernel
theorem dX2_copyFrom_86 : decode cX2_copyFrom 86 = .ok (.bipush 8, 2) := by decide +kernel
theorem dX2_copyFrom_88 : decode cX2_copyFrom 88 = .ok (.invokestatic 34, 3) := by decide +kernel
theorem dX2_copyFrom_91 : decode cX2_copyFrom 91 = .ok (.aload_n 1, 1) := by decide +kernel
theorem dX2_copyFrom_92 : decode cX2_copyFrom 92 = .ok (.getfield 27, 3) := by decide +kernel
theorem dX2_copyFrom_95 : decode cX2_copyFrom 95 = .ok (.iconst 0, 1) := by decide +kernel
theorem dX2_copyFrom_96 : decode cX2_copyFrom 96 = .ok (.aload_n 0, 1) := by decide +kernel
theorem dX2_copyFrom_97 : decode cX2_copyFrom 97 = .ok (.getfield 27, 3) := by decide +kernel
theorem dX2_copyFrom_100 : decode cX2_copyFrom 100 = .ok (.iconst 0, 1) := by decide +kernel
theorem dX2_copyFrom_101 : decode cX2_copyFrom 101 = .ok (.bipush 96, 2) := by decide +kernel
theorem dX2_copyFrom_103 : decode cX2_copyFrom 103 = .ok (.invokestatic 34, 3) := by decide +kernel
theorem dX2_copyFrom_106 : decode cX2_copyFrom 106 = .ok (.return_, 1) := by decide +kernel
theorem dX2_pieceWith_0 : decode cX2_pieceWith 0 = .ok (.iconst 0, 1) := by decide +kernel
theorem dX2_pieceWith_1 : decode cX2_pieceWith 1 = .ok (.istore_n 2, 1) := by decide +kernel
theorem dX2_pieceWith_2 : decode cX2_pieceWith 2 = .ok (.iload_n 2, 1) := by decide +kernel
theorem dX2_pieceWith_3 : decode cX2_pieceWith 3 = .ok (.aload_n 0, 1) := by decide +kernel
theorem dX2_pieceWith_4 : decode cX2_pieceWith 4 = .ok (.getfield 30, 3) := by decide +kernel
theorem dX2_pieceWith_7 : decode cX2_pieceWith 7 = .ok (.if_icmp .ge 21, 3) := by decide +kernel
theorem dX2_pieceWith_10 : decode cX2_pieceWith 10 = .ok (.aload_n 0, 1) := by decide +kernel
theorem dX2_pieceWith_11 : decode cX2_pieceWith 11 = .ok (.getfield 9, 3) := by decide +kernel
theorem dX2_pieceWith_14 : decode cX2_pieceWith 14 = .ok (.iload_n 2, 1) := by decide +kernel
theorem dX2_pieceWith_15 : decode cX2_pieceWith 15 = .ok (.iaload, 1) := by decide +kernel
theorem dX2_pieceWith_16 : decode cX2_pieceWith 16 = .ok (.iload_n 1, 1) := by decide +kernel
theorem dX2_pieceWith_17 : decode cX2_pieceWith 17 = .ok (.if_icmp .ne 5, 3) := by decide +kernel
theorem dX2_pieceWith_20 : decode cX2_pieceWith 20 = .ok (.iload_n 2, 1) := by decide +kernel
theorem dX2_pieceWith_21 : decode cX2_pieceWith 21 = .ok (.ireturn, 1) := by decide +kernel
theorem dX2_pieceWith_22 : decode cX2_pieceWith 22 = .ok (.iinc 2 1, 3) := by decide +kernel
theorem dX2_pieceWith_25 : decode cX2_pieceWith 25 = .ok (.goto (-23), 3) := by decide +kernel
theorem dX2_pieceWith_28 : decode cX2_pieceWith 28 = .ok (.iconst (-1), 1) := by decide +kernel
theorem dX2_pieceWith_29 : decode cX2_pieceWith 29 = .ok (.ireturn, 1) := by decide +kernel
theorem dX2_addPiece_0 : decode cX2_addPiece 0 = .ok (.aload_n 0, 1) := by decide +kernel
theorem dX2_addPiece_1 : decode cX2_addPiece 1 = .ok (.getfield 30, 3) := by decide +kernel
theorem dX2_addPiece_4 : decode cX2_addPiece 4 = .ok (.bipush 16, 2) := by decide +kernel
theorem dX2_addPiece_6 : decode cX2_addPiece 6 = .ok (.if_icmp .lt 4, 3) := by decide +kernel
theorem dX2_addPiece_9 : decode cX2_addPiece 9 = .ok (.return_, 1) := by decide +kernel
theorem dX2_addPiece_10 : decode cX2_addPiece 10 = .ok (.aload_n 0, 1) := by decide +kernel
theorem dX2_addPiece_11 : decode cX2_addPiece 11 = .ok (.getfield 9, 3) := by decide +kernel
theorem dX2_addPiece_14 : decode cX2_addPiece 14 = .ok (.aload_n 0, 1) := by decide +kernel
theorem dX2_addPiece_15 : decode cX2_addPiece 15 = .ok (.getfield 30, 3) := by decide +kernel
theorem dX2_addPiece_18 : decode cX2_addPiece 18 = .ok (.iload_n 1, 1) := by decide +kernel
theorem dX2_addPiece_19 : decode cX2_addPiece 19 = .ok (.iastore, 1) := by decide +kernel
theorem dX2_addPiece_20 : decode cX2_addPiece 20 = .ok (.aload_n 0, 1) := by decide +kernel
theorem dX2_addPiece_21 : decode cX2_addPiece 21 = .ok (.getfield 15, 3) := by decide +kernel
theorem dX2_addPiece_24 : decode cX2_addPiece 24 = .ok (.aload_n 0, 1) := by decide +kernel
theorem dX2_addPiece_25 : decode cX2_addPiece 25 = .ok (.getfield 30, 3) := by decide +kernel
theorem dX2_addPiece_28 : decode cX2_addPiece 28 = .ok (.iload_n 2, 1) := by decide +kernel
theorem dX2_addPiece_29 : decode cX2_addPiece 29 = .ok (.iastore, 1) := by decide +kernel
theorem dX2_addPiece_30 : decode cX2_addPiece 30 = .ok (.aload_n 0, 1) := by decide +kernel
theorem dX2_addPiece_31 : decode cX2_addPiece 31 = .ok (.getfield 18, 3) := by decide +kernel
theorem dX2_addPiece_34 : decode cX2_addPiece 34 = .ok (.aload_n 0, 1) := by decide +kernel
theorem dX2_addPiece_35 : decode cX2_addPiece 35 = .ok (.getfield 30, 3) := by decide +kernel
theorem dX2_addPiece_38 : decode cX2_addPiece 38 = .ok (.iload_n 3, 1) := by decide +kernel
theorem dX2_addPiece_39 : decode cX2_addPiece 39 = .ok (.iastore, 1) := by decide +kernel
theorem dX2_addPiece_40 : decode cX2_addPiece 40 = .ok (.aload_n 0, 1) := by decide +kernel
theorem dX2_addPiece_41 : decode cX2_addPiece 41 = .ok (.dup, 1) := by decide +kernel
theorem dX2_addPiece_42 : decode cX2_addPiece 42 = .ok (.getfield 30, 3) := by decide +kernel
theorem dX2_addPiece_45 : decode cX2_addPiece 45 = .ok (.iconst 1, 1) := by decide +kernel
theorem dX2_addPiece_46 : decode cX2_addPiece 46 = .ok (.iadd, 1) := by decide +kernel
theorem dX2_addPiece_47 : decode cX2_addPiece 47 = .ok (.putfield 30, 3) := by decide +kernel
theorem dX2_addPiece_50 : decode cX2_addPiece 50 = .ok (.return_, 1) := by decide +kernel
theorem dX2_removePiece_0 : decode cX2_removePiece 0 = .ok (.iload_n 1, 1) := by decide +kernel
theorem dX2_removePiece_1 : decode cX2_removePiece 1 = .ok (.ifCond .lt 11, 3) := by decide +kernel
theorem dX2_removePiece_4 : decode cX2_removePiece 4 = .ok (.iload_n 1, 1) := by decide +kernel
theorem dX2_removePiece_5 : decode cX2_removePiece 5 = .ok (.aload_n 0, 1) := by decide +kernel
theorem dX2_removePiece_6 : decode cX2_removePiece 6 = .ok (.getfield 30, 3) := by decide +kernel
theorem dX2_removePiece_9 : decode cX2_removePiece 9 = .ok (.if_icmp .lt 4, 3) := by decide +kernel
theorem dX2_removePiece_12 : decode cX2_removePiece 12 = .ok (.return_, 1) := by decide +kernel
theorem dX2_removePiece_13 : decode cX2_removePiece 13 = .ok (.aload_n 0, 1) := by decide +kernel
theorem dX2_removePiece_14 : decode cX2_removePiece 14 = .ok (.dup, 1) := by decide +kernel
theorem dX2_removePiece_15 : decode cX2_removePiece 15 = .ok (.getfield 30, 3) := by decide +kernel
theorem dX2_removePiece_18 : decode cX2_removePiece 18 = .ok (.iconst 1, 1) := by decide +kernel
theorem dX2_removePiece_19 : decode cX2_removePiece 19 = .ok (.isub, 1) := by decide +kernel
theorem dX2_removePiece_20 : decode cX2_removePiece 20 = .ok (.putfield 30, 3) := by decide +kernel
theorem dX2_removePiece_23 : decode cX2_removePiece 23 = .ok (.aload_n 0, 1) := by decide +kernel
theorem dX2_removePiece_24 : decode cX2_removePiece 24 = .ok (.getfield 9, 3) := by decide +kernel
theorem dX2_removePiece_27 : decode cX2_removePiece 27 = .ok (.iload_n 1, 1) := by decide +kernel
theorem dX2_removePiece_28 : decode cX2_removePiece 28 = .ok (.iconst 1, 1) := by decide +kernel
theorem dX2_removePiece_29 : decode cX2_removePiece 29 = .ok (.iadd, 1) := by decide +kernel
theorem dX2_removePiece_30 : decode cX2_removePiece 30 = .ok (.aload_n 0, 1) := by decide +kernel
theorem dX2_removePiece_31 : decode cX2_removePiece 31 = .ok (.getfield 9, 3) := by decide +kernel
theorem dX2_removePiece_34 : decode cX2_removePiece 34 = .ok (.iload_n 1, 1) := by decide +kernel
theorem dX2_removePiece_35 : decode cX2_removePiece 35 = .ok (.aload_n 0, 1) := by decide +kernel
theorem dX2_removePiece_36 : decode cX2_removePiece 36 = .ok (.getfield 30, 3) := by decide +kernel
theorem dX2_removePiece_39 : decode cX2_removePiece 39 = .ok (.iload_n 1, 1) := by decide +kernel
theorem dX2_removePiece_40 : decode cX2_removePiece 40 = .ok (.isub, 1) := by decide +kernel
theorem dX2_removePiece_41 : decode cX2_removePiece 41 = .ok (.invokestatic 34, 3) := by decide +kernel
theorem dX2_removePiece_44 : decode cX2_removePiece 44 = .ok (.aload_n 0, 1) := by decide +kernel
theorem dX2_removePiece_45 : decode cX2_removePiece 45 = .ok (.getfield 15, 3) := by decide +kernel
theorem dX2_removePiece_48 : decode cX2_removePiece 48 = .ok (.iload_n 1, 1) := by decide +kernel
theorem dX2_removePiece_49 : decode cX2_removePiece 49 = .ok (.iconst 1, 1) := by decide +kernel
theorem dX2_removePiece_50 : decode cX2_removePiece 50 = .ok (.iadd, 1) := by decide +kernel
theorem dX2_removePiece_51 : decode cX2_removePiece 51 = .ok (.aload_n 0, 1) := by decide +kernel
theorem dX2_removePiece_52 : decode cX2_removePiece 52 = .ok (.getfield 15, 3) := by decide +kernel
theorem dX2_removePiece_55 : decode cX2_removePiece 55 = .ok (.iload_n 1, 1) := by decide +kernel
theorem dX2_removePiece_56 : decode cX2_removePiece 56 = .ok (.aload_n 0, 1) := by decide +kernel
theorem dX2_removePiece_57 : decode cX2_removePiece 57 = .ok (.getfield 30, 3) := by decide +kernel
theorem dX2_removePiece_60 : decode cX2_removePiece 60 = .ok (.iload_n 1, 1) := by decide +kernel
theorem dX2_removePiece_61 : decode cX2_removePiece 61 = .ok (.isub, 1) := by decide +kernel
theorem dX2_removePiece_62 : decode cX2_removePiece 62 = .ok (.invokestatic 34, 3) := by decide +kernel
theorem dX2_removePiece_65 : decode cX2_removePiece 65 = .ok (.aload_n 0, 1) := by decide +kernel
theorem dX2_removePiece_66 : decode cX2_removePiece 66 = .ok (.getfield 18, 3) := by decide +kernel
theorem dX2_removePiece_69 : decode cX2_removePiece 69 = .ok (.iload_n 1, 1) := by decide +kernel
theorem dX2_removePiece_70 : decode cX2_removePiece 70 = .ok (.iconst 1, 1) := by decide +kernel
theorem dX2_removePiece_71 : decode cX2_removePiece 71 = .ok (.iadd, 1) := by decide +kernel
theorem dX2_removePiece_72 : decode cX2_removePiece 72 = .ok (.aload_n 0, 1) := by decide +kernel
theorem dX2_removePiece_73 : decode cX2_removePiece 73 = .ok (.getfield 18, 3) := by decide +kernel
theorem dX2_removePiece_76 : decode cX2_removePiece 76 = .ok (.iload_n 1, 1) := by decide +kernel
theorem dX2_removePiece_77 : decode cX2_removePiece 77 = .ok (.aload_n 0, 1) := by decide +kernel
theorem dX2_removePiece_78 : decode cX2_removePiece 78 = .ok (.getfield 30, 3) := by decide +kernel
theorem dX2_removePiece_81 : decode cX2_removePiece 81 = .ok (.iload_n 1, 1) := by decide +kernel
theorem dX2_removePiece_82 : decode cX2_removePiece 82 = .ok (.isub, 1) := by decide +kernel
theorem dX2_removePiece_83 : decode cX2_removePiece 83 = .ok (.invokestatic 34, 3) := by decide +kernel
theorem dX2_removePiece_86 : decode cX2_removePiece 86 = .ok (.return_, 1) := by decide +kernel
theorem dX2_letterAt_0 : decode cX2_letterAt 0 = .ok (.aload_n 0, 1) := by decide +kernel
theorem dX2_letterAt_1 : decode cX2_letterAt 1 = .ok (.getfield 27, 3) := by decide +kernel
theorem dX2_letterAt_4 : decode cX2_letterAt 4 = .ok (.iload_n 1, 1) := by decide +kernel
theorem dX2_letterAt_5 : decode cX2_letterAt 5 = .ok (.bipush 12, 2) := by decide +kernel
theorem dX2_letterAt_7 : decode cX2_letterAt 7 = .ok (.imul, 1) := by decide +kernel
theorem dX2_letterAt_8 : decode cX2_letterAt 8 = .ok (.iload_n 2, 1) := by decide +kernel
theorem dX2_letterAt_9 : decode cX2_letterAt 9 = .ok (.iadd, 1) := by decide +kernel
theorem dX2_letterAt_10 : decode cX2_letterAt 10 = .ok (.iaload, 1) := by decide +kernel
theorem dX2_letterAt_11 : decode cX2_letterAt 11 = .ok (.ireturn, 1) := by decide +kernel
set_option maxRecDepth 20000 in
theorem ggX2_addWord_X6_letterAt : GoodIn wsX2_addWord wsX6_letterAt := goodIn_r _ [10, 11, 20, 21] (by decide +kernel) (by decide +kernel)
set_option maxRecDepth 20000 in
theorem gX2_addWord_X6_letterAt : GoodIn wsX2_addWord (wsV RX2 48 RX6 yX6_letterAt wsX6_letterAt) := goodIn_app (goodIn_of _ (by decide +kernel)) ggX2_addWord_X6_letterAt
theorem dX2_addWord_0 : decode cX2_addWord 0 = .ok (.aload_n 0, 1) := by decide +kernel
theorem dX2_addWord_1 : decode cX2_addWord 1 = .ok (.getfield 40, 3) := by decide +kernel
theorem dX2_addWord_4 : decode cX2_addWord 4 = .ok (.bipush 8, 2) := by decide +kernel
theorem dX2_addWord_6 : decode cX2_addWord 6 = .ok (.if_icmp .ge 12, 3) := by decide +kernel
theorem dX2_addWord_9 : decode cX2_addWord 9 = .ok (.aload_n 1, 1) := by decide +kernel
theorem dX2_addWord_10 : decode cX2_addWord 10 = .ok (.getfield 43, 3) := by decide +kernel
theorem dX2_addWord_13 : decode cX2_addWord 13 = .ok (.bipush 12, 2) := by decide +kernel
theorem dX2_addWord_15 : decode cX2_addWord 15 = .ok (.if_icmp .le 4, 3) := by decide +kernel
theorem dX2_addWord_18 : decode cX2_addWord 18 = .ok (.return_, 1) := by decide +kernel
theorem dX2_addWord_19 : decode cX2_addWord 19 = .ok (.iconst 0, 1) := by decide +kernel
theorem dX2_addWord_20 : decode cX2_addWord 20 = .ok (.istore_n 3, 1) := by decide +kernel
theorem dX2_addWord_21 : decode cX2_addWord 21 = .ok (.iload_n 3, 1) := by decide +kernel
theorem dX2_addWord_22 : decode cX2_addWord 22 = .ok (.aload_n 1, 1) := by decide +kernel
theorem dX2_addWord_23 : decode cX2_addWord 23 = .ok (.getfield 43, 3) := by decide +kernel
theorem dX2_addWord_26 : decode cX2_addWord 26 = .ok (.if_icmp .ge 28, 3) := by decide +kernel
theorem dX2_addWord_29 : decode cX2_addWord 29 = .ok (.aload_n 0, 1) := by decide +kernel
theorem dX2_addWord_30 : decode cX2_addWord 30 = .ok (.getfield 27, 3) := by decide +kernel
theorem dX2_addWord_33 : decode cX2_addWord 33 = .ok (.aload_n 0, 1) := by decide +kernel
theorem dX2_addWord_34 : decode cX2_addWord 34 = .ok (.getfield 40, 3) := by decide +kernel
theorem dX2_addWord_37 : decode cX2_addWord 37 = .ok (.bipush 12, 2) := by decide +kernel
theorem dX2_addWord_39 : decode cX2_addWord 39 = .ok (.imul, 1) := by decide +kernel
theorem dX2_addWord_40 : decode cX2_addWord 40 = .ok (.iload_n 3, 1) := by decide +kernel
theorem dX2_addWord_41 : decode cX2_addWord 41 = .ok (.iadd, 1) := by decide +kernel
theorem dX2_addWord_42 : decode cX2_addWord 42 = .ok (.aload_n 1, 1) := by decide +kernel
theorem dX2_addWord_43 : decode cX2_addWord 43 = .ok (.iload_n 3, 1) := by decide +kernel
theorem dX2_addWord_44 : decode cX2_addWord 44 = .ok (.invokevirtual 48, 3) := by decide +kernel
