theorem dX2_addWord_47 : decode cX2_addWord 47 = .ok (.iastore, 1) := by decide +kernel
theorem dX2_addWord_48 : decode cX2_addWord 48 = .ok (.iinc 3 1, 3) := by decide +kernel
theorem dX2_addWord_51 : decode cX2_addWord 51 = .ok (.goto (-30), 3) := by decide +kernel
theorem dX2_addWord_54 : decode cX2_addWord 54 = .ok (.aload_n 0, 1) := by decide +kernel
theorem dX2_addWord_55 : decode cX2_addWord 55 = .ok (.getfield 21, 3) := by decide +kernel
theorem dX2_addWord_58 : decode cX2_addWord 58 = .ok (.aload_n 0, 1) := by decide +kernel
theorem dX2_addWord_59 : decode cX2_addWord 59 = .ok (.getfield 40, 3) := by decide +kernel
theorem dX2_addWord_62 : decode cX2_addWord 62 = .ok (.aload_n 1, 1) := by decide +kernel
theorem dX2_addWord_63 : decode cX2_addWord 63 = .ok (.getfield 43, 3) := by decide +kernel
theorem dX2_addWord_66 : decode cX2_addWord 66 = .ok (.iastore, 1) := by decide +kernel
theorem dX2_addWord_67 : decode cX2_addWord 67 = .ok (.aload_n 0, 1) := by decide +kernel
theorem dX2_addWord_68 : decode cX2_addWord 68 = .ok (.getfield 24, 3) := by decide +kernel
theorem dX2_addWord_71 : decode cX2_addWord 71 = .ok (.aload_n 0, 1) := by decide +kernel
theorem dX2_addWord_72 : decode cX2_addWord 72 = .ok (.getfield 40, 3) := by decide +kernel
theorem dX2_addWord_75 : decode cX2_addWord 75 = .ok (.iload_n 2, 1) := by decide +kernel
theorem dX2_addWord_76 : decode cX2_addWord 76 = .ok (.iastore, 1) := by decide +kernel
theorem dX2_addWord_77 : decode cX2_addWord 77 = .ok (.aload_n 0, 1) := by decide +kernel
theorem dX2_addWord_78 : decode cX2_addWord 78 = .ok (.dup, 1) := by decide +kernel
theorem dX2_addWord_79 : decode cX2_addWord 79 = .ok (.getfield 40, 3) := by decide +kernel
theorem dX2_addWord_82 : decode cX2_addWord 82 = .ok (.iconst 1, 1) := by decide +kernel
theorem dX2_addWord_83 : decode cX2_addWord 83 = .ok (.iadd, 1) := by decide +kernel
theorem dX2_addWord_84 : decode cX2_addWord 84 = .ok (.putfield 40, 3) := by decide +kernel
theorem dX2_addWord_87 : decode cX2_addWord 87 = .ok (.return_, 1) := by decide +kernel
theorem dX2_removeWord_0 : decode cX2_removeWord 0 = .ok (.iload_n 1, 1) := by decide +kernel
theorem dX2_removeWord_1 : decode cX2_removeWord 1 = .ok (.ifCond .lt 11, 3) := by decide +kernel
theorem dX2_removeWord_4 : decode cX2_removeWord 4 = .ok (.iload_n 1, 1) := by decide +kernel
theorem dX2_removeWord_5 : decode cX2_removeWord 5 = .ok (.aload_n 0, 1) := by decide +kernel
theorem dX2_removeWord_6 : decode cX2_removeWord 6 = .ok (.getfield 40, 3) := by decide +kernel
theorem dX2_removeWord_9 : decode cX2_removeWord 9 = .ok (.if_icmp .lt 4, 3) := by decide +kernel
theorem dX2_removeWord_12 : decode cX2_removeWord 12 = .ok (.return_, 1) := by decide +kernel
theorem dX2_removeWord_13 : decode cX2_removeWord 13 = .ok (.aload_n 0, 1) := by decide +kernel
theorem dX2_removeWord_14 : decode cX2_removeWord 14 = .ok (.dup, 1) := by decide +kernel
theorem dX2_removeWord_15 : decode cX2_removeWord 15 = .ok (.getfield 40, 3) := by decide +kernel
theorem dX2_removeWord_18 : decode cX2_removeWord 18 = .ok (.iconst 1, 1) := by decide +kernel
theorem dX2_removeWord_19 : decode cX2_removeWord 19 = .ok (.isub, 1) := by decide +kernel
theorem dX2_removeWord_20 : decode cX2_removeWord 20 = .ok (.putfield 40, 3) := by decide +kernel
theorem dX2_removeWord_23 : decode cX2_removeWord 23 = .ok (.aload_n 0, 1) := by decide +kernel
theorem dX2_removeWord_24 : decode cX2_removeWord 24 = .ok (.getfield 40, 3) := by decide +kernel
theorem dX2_removeWord_27 : decode cX2_removeWord 27 = .ok (.iload_n 1, 1) := by decide +kernel
theorem dX2_removeWord_28 : decode cX2_removeWord 28 = .ok (.isub, 1) := by decide +kernel
theorem dX2_removeWord_29 : decode cX2_removeWord 29 = .ok (.istore_n 2, 1) := by decide +kernel
theorem dX2_removeWord_30 : decode cX2_removeWord 30 = .ok (.aload_n 0, 1) := by decide +kernel
theorem dX2_removeWord_31 : decode cX2_removeWord 31 = .ok (.getfield 21, 3) := by decide +kernel
theorem dX2_removeWord_34 : decode cX2_removeWord 34 = .ok (.iload_n 1, 1) := by decide +kernel
theorem dX2_removeWord_35 : decode cX2_removeWord 35 = .ok (.iconst 1, 1) := by decide +kernel
theorem dX2_removeWord_36 : decode cX2_removeWord 36 = .ok (.iadd, 1) := by decide +kernel
theorem dX2_removeWord_37 : decode cX2_removeWord 37 = .ok (.aload_n 0, 1) := by decide +kernel
theorem dX2_removeWord_38 : decode cX2_removeWord 38 = .ok (.getfield 21, 3) := by decide +kernel
theorem dX2_removeWord_41 : decode cX2_removeWord 41 = .ok (.iload_n 1, 1) := by decide +kernel
theorem dX2_removeWord_42 : decode cX2_removeWord 42 = .ok (.iload_n 2, 1) := by decide +kernel
theorem dX2_removeWord_43 : decode cX2_removeWord 43 = .ok (.invokestatic 34, 3) := by decide +kernel
theorem dX2_removeWord_46 : decode cX2_removeWord 46 = .ok (.aload_n 0, 1) := by decide +kernel
theorem dX2_removeWord_47 : decode cX2_removeWord 47 = .ok (.getfield 24, 3) := by decide +kernel
theorem dX2_removeWord_50 : decode cX2_removeWord 50 = .ok (.iload_n 1, 1) := by decide +kernel
theorem dX2_removeWord_51 : decode cX2_removeWord 51 = .ok (.iconst 1, 1) := by decide +kernel
theorem dX2_removeWord_52 : decode cX2_removeWord 52 = .ok (.iadd, 1) := by decide +kernel
theorem dX2_removeWord_53 : decode cX2_removeWord 53 = .ok (.aload_n 0, 1) := by decide +kernel
theorem dX2_removeWord_54 : decode cX2_removeWord 54 = .ok (.getfield 24, 3) := by decide +kernel
theorem dX2_removeWord_57 : decode cX2_removeWord 57 = .ok (.iload_n 1, 1) := by decide +kernel
theorem dX2_removeWord_58 : decode cX2_removeWord 58 = .ok (.iload_n 2, 1) := by decide +kernel
theorem dX2_removeWord_59 : decode cX2_removeWord 59 = .ok (.invokestatic 34, 3) := by decide +kernel
theorem dX2_removeWord_62 : decode cX2_removeWord 62 = .ok (.aload_n 0, 1) := by decide +kernel
theorem dX2_removeWord_63 : decode cX2_removeWord 63 = .ok (.getfield 27, 3) := by decide +kernel
theorem dX2_removeWord_66 : decode cX2_removeWord 66 = .ok (.iload_n 1, 1) := by decide +kernel
theorem dX2_removeWord_67 : decode cX2_removeWord 67 = .ok (.iconst 1, 1) := by decide +kernel
theorem dX2_removeWord_68 : decode cX2_removeWord 68 = .ok (.iadd, 1) := by decide +kernel
theorem dX2_removeWord_69 : decode cX2_removeWord 69 = .ok (.bipush 12, 2) := by decide +kernel
theorem dX2_removeWord_71 : decode cX2_removeWord 71 = .ok (.imul, 1) := by decide +kernel
theorem dX2_removeWord_72 : decode cX2_removeWord 72 = .ok (.aload_n 0, 1) := by decide +kernel
theorem dX2_removeWord_73 : decode cX2_removeWord 73 = .ok (.getfield 27, 3) := by decide +kernel
theorem dX2_removeWord_76 : decode cX2_removeWord 76 = .ok (.iload_n 1, 1) := by decide +kernel
theorem dX2_removeWord_77 : decode cX2_removeWord 77 = .ok (.bipush 12, 2) := by decide +kernel
theorem dX2_removeWord_79 : decode cX2_removeWord 79 = .ok (.imul, 1) := by decide +kernel
theorem dX2_removeWord_80 : decode cX2_removeWord 80 = .ok (.iload_n 2, 1) := by decide +kernel
theorem dX2_removeWord_81 : decode cX2_removeWord 81 = .ok (.bipush 12, 2) := by decide +kernel
theorem dX2_removeWord_83 : decode cX2_removeWord 83 = .ok (.imul, 1) := by decide +kernel
theorem dX2_removeWord_84 : decode cX2_removeWord 84 = .ok (.invokestatic 34, 3) := by decide +kernel
theorem dX2_removeWord_87 : decode cX2_removeWord 87 = .ok (.return_, 1) := by decide +kernel
set_option maxRecDepth 20000 in
theorem ggX3_init_X2_init : GoodIn wsX3_init wsX2_init := goodIn_r _ [9, 10, 2, 3, 11, 12, 13, 14, 15, 16, 17, 20, 21, 22, 23, 24, 25, 26, 27] (by decide +kernel) (by decide +kernel)
set_option maxRecDepth 20000 in
theorem gX3_init_X2_init_n17 : GoodIn wsX3_init (wsX2_init) := ggX3_init_X2_init
theorem dX3_init_0 : decode cX3_init 0 = .ok (.aload_n 0, 1) := by decide +kernel
theorem dX3_init_1 : decode cX3_init 1 = .ok (.invokespecial 3, 3) := by decide +kernel
theorem dX3_init_4 : decode cX3_init 4 = .ok (.aload_n 0, 1) := by decide +kernel
theorem dX3_init_5 : decode cX3_init 5 = .ok (.bipush 6, 2) := by decide +kernel
theorem dX3_init_7 : decode cX3_init 7 = .ok (.anewarray 9, 3) := by decide +kernel
theorem dX3_init_10 : decode cX3_init 10 = .ok (.putfield 11, 3) := by decide +kernel
theorem dX3_init_13 : decode cX3_init 13 = .ok (.iconst 0, 1) := by decide +kernel
theorem dX3_init_14 : decode cX3_init 14 = .ok (.istore_n 1, 1) := by decide +kernel
theorem dX3_init_15 : decode cX3_init 15 = .ok (.iload_n 1, 1) := by decide +kernel
theorem dX3_init_16 : decode cX3_init 16 = .ok (.bipush 6, 2) := by decide +kernel
theorem dX3_init_18 : decode cX3_init 18 = .ok (.if_icmp .ge 22, 3) := by decide +kernel
theorem dX3_init_21 : decode cX3_init 21 = .ok (.aload_n 0, 1) := by decide +kernel
theorem dX3_init_22 : decode cX3_init 22 = .ok (.getfield 11, 3) := by decide +kernel
theorem dX3_init_25 : decode cX3_init 25 = .ok (.iload_n 1, 1) := by decide +kernel
theorem dX3_init_26 : decode cX3_init 26 = .ok (.new 9, 3) := by decide +kernel
theorem dX3_init_29 : decode cX3_init 29 = .ok (.dup, 1) := by decide +kernel
theorem dX3_init_30 : decode cX3_init 30 = .ok (.invokespecial 17, 3) := by decide +kernel
theorem dX3_init_33 : decode cX3_init 33 = .ok (.aastore, 1) := by decide +kernel
theorem dX3_init_34 : decode cX3_init 34 = .ok (.iinc 1 1, 3) := by decide +kernel
theorem dX3_init_37 : decode cX3_init 37 = .ok (.goto (-22), 3) := by decide +kernel
theorem dX3_init_40 : decode cX3_init 40 = .ok (.return_, 1) := by decide +kernel
set_option maxRecDepth 20000 in
theorem ggX3_record_X3_dropOldest : GoodIn wsX3_record wsX3_dropOldest := goodIn_r _ [7, 2, 1, 25, 26] (by decide +kernel) (by decide +kernel)
set_option maxRecDepth 20000 in
theorem gX3_record_X3_dropOldest : GoodIn wsX3_record (wsV RX3 22 RX3 yX3_dropOldest wsX3_dropOldest) := goodIn_app (goodIn_of _ (by decide +kernel)) ggX3_record_X3_dropOldest
set_option maxRecDepth 20000 in
theorem ggX3_record_X2_copyFrom : GoodIn wsX3_record wsX2_copyFrom := goodIn_r _ [12, 13, 14, 15, 16, 17, 18, 19, 20, 21, 22, 23, 24, 27, 28, 29, 30, 31, 32, 33, 34] (by decide +kernel) (by decide +kernel)
set_option maxRecDepth 20000 in
theorem gX3_record_X2_copyFrom : GoodIn wsX3_record (wsV RX3 25 RX2 yX2_copyFrom wsX2_copyFrom) := goodIn_app (goodIn_of _ (by decide +kernel)) ggX3_record_X2_copyFrom
theorem dX3_record_0 : decode cX3_record 0 = .ok (.aload_n 0, 1) := by decide +kernel
theorem dX3_record_1 : decode cX3_record 1 = .ok (.getfield 18, 3) := by decide +kernel
theorem dX3_record_4 : decode cX3_record 4 = .ok (.bipush 6, 2) := by decide +kernel
theorem dX3_record_6 : decode cX3_record 6 = .ok (.if_icmp .lt 7, 3) := by decide +kernel
theorem dX3_record_9 : decode cX3_record 9 = .ok (.aload_n 0, 1) := by decide +kernel
theorem dX3_record_10 : decode cX3_record 10 = .ok (.invokevirtual 22, 3) := by decide +kernel
theorem dX3_record_13 : decode cX3_record 13 = .ok (.aload_n 0, 1) := by decide +kernel
theorem dX3_record_14 : decode cX3_record 14 = .ok (.getfield 11, 3) := by decide +kernel
theorem dX3_record_17 : decode cX3_record 17 = .ok (.aload_n 0, 1) := by decide +kernel
theorem dX3_record_18 : decode cX3_record 18 = .ok (.getfield 18, 3) := by decide +kernel
theorem dX3_record_21 : decode cX3_record 21 = .ok (.aaload, 1) := by decide +kernel
theorem dX3_record_22 : decode cX3_record 22 = .ok (.aload_n 1, 1) := by decide +kernel
theorem dX3_record_23 : decode cX3_record 23 = .ok (.invokevirtual 25, 3) := by decide +kernel
theorem dX3_record_26 : decode cX3_record 26 = .ok (.aload_n 0, 1) := by decide +kernel
theorem dX3_record_27 : decode cX3_record 27 = .ok (.dup, 1) := by decide +kernel
theorem dX3_record_28 : decode cX3_record 28 = .ok (.getfield 18, 3) := by decide +kernel
theorem dX3_record_31 : decode cX3_record 31 = .ok (.iconst 1, 1) := by decide +kernel
theorem dX3_record_32 : decode cX3_record 32 = .ok (.iadd, 1) := by decide +kernel
theorem dX3_record_33 : decode cX3_record 33 = .ok (.putfield 18, 3) := by decide +kernel
theorem dX3_record_36 : decode cX3_record 36 = .ok (.return_, 1) := by decide +kernel
theorem dX3_dropOldest_0 : decode cX3_dropOldest 0 = .ok (.aload_n 0, 1) := by decide +kernel
theorem dX3_dropOldest_1 : decode cX3_dropOldest 1 = .ok (.getfield 11, 3) := by decide +kernel
theorem dX3_dropOldest_4 : decode cX3_dropOldest 4 = .ok (.iconst 0, 1) := by decide +kernel
theorem dX3_dropOldest_5 : decode cX3_dropOldest 5 = .ok (.aaload, 1) := by decide +kernel
theorem dX3_dropOldest_6 : decode cX3_dropOldest 6 = .ok (.astore_n 1, 1) := by decide +kernel
theorem dX3_dropOldest_7 : decode cX3_dropOldest 7 = .ok (.iconst 1, 1) := by decide +kernel
theorem dX3_dropOldest_8 : decode cX3_dropOldest 8 = .ok (.istore_n 2, 1) := by decide +kernel
theorem dX3_dropOldest_9 : decode cX3_dropOldest 9 = .ok (.iload_n 2, 1) := by decide +kernel
theorem dX3_dropOldest_10 : decode cX3_dropOldest 10 = .ok (.bipush 6, 2) := by decide +kernel
theorem dX3_dropOldest_12 : decode cX3_dropOldest 12 = .ok (.if_icmp .ge 23, 3) := by decide +kernel
theorem dX3_dropOldest_15 : decode cX3_dropOldest 15 = .ok (.aload_n 0, 1) := by decide +kernel
theorem dX3_dropOldest_16 : decode cX3_dropOldest 16 = .ok (.getfield 11, 3) := by decide +kernel
theorem dX3_dropOldest_19 : decode cX3_dropOldest 19 = .ok (.iload_n 2, 1) := by decide +kernel
theorem dX3_dropOldest_20 : decode cX3_dropOldest 20 = .ok (.iconst 1, 1) := by decide +kernel
theorem dX3_dropOldest_21 : decode cX3_dropOldest 21 = .ok (.isub, 1) := by decide +kernel
theorem dX3_dropOldest_22 : decode cX3_dropOldest 22 = .ok (.aload_n 0, 1) := by decide +kernel
theorem dX3_dropOldest_23 : decode cX3_dropOldest 23 = .ok (.getfield 11, 3) := by decide +kernel
theorem dX3_dropOldest_26 : decode cX3_dropOldest 26 = .ok (.iload_n 2, 1) := by decide +kernel
theorem dX3_dropOldest_27 : decode cX3_dropOldest 27 = .ok (.aaload, 1) := by decide +kernel
theorem dX3_dropOldest_28 : decode cX3_dropOldest 28 = .ok (.aastore, 1) := by decide +kernel
theorem dX3_dropOldest_29 : decode cX3_dropOldest 29 = .ok (.iinc 2 1, 3) := by decide +kernel
theorem dX3_dropOldest_32 : decode cX3_dropOldest 32 = .ok (.goto (-23), 3) := by decide +kernel
theorem dX3_dropOldest_35 : decode cX3_dropOldest 35 = .ok (.aload_n 0, 1) := by decide +kernel
theorem dX3_dropOldest_36 : decode cX3_dropOldest 36 = .ok (.getfield 11, 3) := by decide +kernel
theorem dX3_dropOldest_39 : decode cX3_dropOldest 39 = .ok (.iconst 5, 1) := by decide +kernel
theorem dX3_dropOldest_40 : decode cX3_dropOldest 40 = .ok (.aload_n 1, 1) := by decide +kernel
theorem dX3_dropOldest_41 : decode cX3_dropOldest 41 = .ok (.aastore, 1) := by decide +kernel
theorem dX3_dropOldest_42 : decode cX3_dropOldest 42 = .ok (.aload_n 0, 1) := by decide +kernel
theorem dX3_dropOldest_43 : decode cX3_dropOldest 43 = .ok (.iconst 5, 1) := by decide +kernel
theorem dX3_dropOldest_44 : decode cX3_dropOldest 44 = .ok (.putfield 18, 3) := by decide +kernel
theorem dX3_dropOldest_47 : decode cX3_dropOldest 47 = .ok (.return_, 1) := by decide +kernel
theorem dX4_init_0 : decode cX4_init 0 = .ok (.aload_n 0, 1) := by decide +kernel
theorem dX4_init_1 : decode cX4_init 1 = .ok (.invokespecial 3, 3) := by decide +kernel
theorem dX4_init_4 : decode cX4_init 4 = .ok (.aload_n 0, 1) := by decide +kernel
theorem dX4_init_5 : decode cX4_init 5 = .ok (.bipush 48, 2) := by decide +kernel
theorem dX4_init_7 : decode cX4_init 7 = .ok (.newarray .int, 2) := by decide +kernel
theorem dX4_init_9 : decode cX4_init 9 = .ok (.putfield 9, 3) := by decide +kernel
theorem dX4_init_12 : decode cX4_init 12 = .ok (.aload_n 0, 1) := by decide +kernel
theorem dX4_init_13 : decode cX4_init 13 = .ok (.bipush 48, 2) := by decide +kernel
theorem dX4_init_15 : decode cX4_init 15 = .ok (.newarray .int, 2) := by decide +kernel
theorem dX4_init_17 : decode cX4_init 17 = .ok (.putfield 15, 3) := by decide +kernel
theorem dX4_init_20 : decode cX4_init 20 = .ok (.aload_n 0, 1) := by decide +kernel
theorem dX4_init_21 : decode cX4_init 21 = .ok (.bipush 16, 2) := by decide +kernel
theorem dX4_init_23 : decode cX4_init 23 = .ok (.newarray .int, 2) := by decide +kernel
theorem dX4_init_25 : decode cX4_init 25 = .ok (.putfield 18, 3) := by decide +kernel
theorem dX4_init_28 : decode cX4_init 28 = .ok (.return_, 1) := by decide +kernel
set_option maxRecDepth 20000 in
theorem ggX4_read_X4_mostLetters : GoodIn wsX4_read wsX4_mostLetters := goodIn_r _ [15, 2, 16, 17, 18, 19, 43, 44, 45, 46] (by decide +kernel) (by decide +kernel)
set_option maxRecDepth 20000 in
theorem gX4_read_X4_mostLetters : GoodIn wsX4_read (wsV RX4 39 RX4 yX4_mostLetters wsX4_mostLetters) := goodIn_app (goodIn_of _ (by decide +kernel)) ggX4_read_X4_mostLetters
set_option maxRecDepth 20000 in
theorem ggX4_read_X2_letterAt : GoodIn wsX4_read wsX2_letterAt := goodIn_r _ [24, 25, 35, 36, 37, 38, 39, 40, 41, 42] (by decide +kernel) (by decide +kernel)
set_option maxRecDepth 20000 in
theorem gX4_read_X2_letterAt : GoodIn wsX4_read (wsV RX4 43 RX2 yX2_letterAt wsX2_letterAt) := goodIn_app (goodIn_of _ (by decide +kernel)) ggX4_read_X2_letterAt
set_option maxRecDepth 20000 in
theorem ggX4_read_X4_index : GoodIn wsX4_read wsX4_index := goodIn_r _ [28] (by decide +kernel) (by decide +kernel)
set_option maxRecDepth 20000 in
theorem gX4_read_X4_index : GoodIn wsX4_read (va_wsS RX4 47 yX4_index wsX4_index) := goodIn_app (goodIn_of _ (by decide +kernel)) ggX4_read_X4_index
set_option maxRecDepth 20000 in
theorem ggX4_read_X2_pieceWith : GoodIn wsX4_read wsX2_pieceWith := goodIn_r _ [32, 33, 34, 35, 36, 37, 38, 39, 40, 41, 42] (by decide +kernel) (by decide +kernel)
set_option maxRecDepth 20000 in
theorem gX4_read_X2_pieceWith : GoodIn wsX4_read (wsV RX4 50 RX2 yX2_pieceWith wsX2_pieceWith) := goodIn_app (goodIn_of _ (by decide +kernel)) ggX4_read_X2_pieceWith
theorem dX4_read_0 : decode cX4_read 0 = .ok (.aload_n 0, 1) := by decide +kernel
theorem dX4_read_1 : decode cX4_read 1 = .ok (.aload_n 1, 1) := by decide +kernel
theorem dX4_read_2 : decode cX4_read 2 = .ok (.getfield 21, 3) := by decide +kernel
theorem dX4_read_5 : decode cX4_read 5 = .ok (.iload_n 2, 1) := by decide +kernel
theorem dX4_read_6 : decode cX4_read 6 = .ok (.iaload, 1) := by decide +kernel
theorem dX4_read_7 : decode cX4_read 7 = .ok (.putfield 26, 3) := by decide +kernel
theorem dX4_read_10 : decode cX4_read 10 = .ok (.aload_n 1, 1) := by decide +kernel
theorem dX4_read_11 : decode cX4_read 11 = .ok (.getfield 30, 3) := by decide +kernel
theorem dX4_read_14 : decode cX4_read 14 = .ok (.iconst 0, 1) := by decide +kernel
theorem dX4_read_15 : decode cX4_read 15 = .ok (.aload_n 0, 1) := by decide +kernel
theorem dX4_read_16 : decode cX4_read 16 = .ok (.getfield 18, 3) := by decide +kernel
theorem dX4_read_19 : decode cX4_read 19 = .ok (.iconst 0, 1) := by decide +kernel
theorem dX4_read_20 : decode cX4_read 20 = .ok (.bipush 16, 2) := by decide +kernel
theorem dX4_read_22 : decode cX4_read 22 = .ok (.invokestatic 33, 3) := by decide +kernel
theorem dX4_read_25 : decode cX4_read 25 = .ok (.iconst 0, 1) := by decide +kernel
theorem dX4_read_26 : decode cX4_read 26 = .ok (.istore_n 3, 1) := by decide +kernel
theorem dX4_read_27 : decode cX4_read 27 = .ok (.iload_n 3, 1) := by decide +kernel
theorem dX4_read_28 : decode cX4_read 28 = .ok (.aload_n 0, 1) := by decide +kernel
theorem dX4_read_29 : decode cX4_read 29 = .ok (.getfield 26, 3) := by decide +kernel
theorem dX4_read_32 : decode cX4_read 32 = .ok (.if_icmp .ge 85, 3) := by decide +kernel
theorem dX4_read_35 : decode cX4_read 35 = .ok (.aload_n 0, 1) := by decide +kernel
theorem dX4_read_36 : decode cX4_read 36 = .ok (.iload_n 3, 1) := by decide +kernel
theorem dX4_read_37 : decode cX4_read 37 = .ok (.invokevirtual 39, 3) := by decide +kernel
theorem dX4_read_40 : decode cX4_read 40 = .ok (.istore 4, 2) := by decide +kernel
theorem dX4_read_42 : decode cX4_read 42 = .ok (.iconst 0, 1) := by decide +kernel
theorem dX4_read_43 : decode cX4_read 43 = .ok (.istore 5, 2) := by decide +kernel
theorem dX4_read_45 : decode cX4_read 45 = .ok (.iconst 1, 1) := by decide +kernel
theorem dX4_read_46 : decode cX4_read 46 = .ok (.istore 6, 2) := by decide +kernel
theorem dX4_read_48 : decode cX4_read 48 = .ok (.iload 6, 2) := by decide +kernel
theorem dX4_read_50 : decode cX4_read 50 = .ok (.iload 4, 2) := by decide +kernel
theorem dX4_read_52 : decode cX4_read 52 = .ok (.if_icmp .gt 59, 3) := by decide +kernel
theorem dX4_read_55 : decode cX4_read 55 = .ok (.iload 5, 2) := by decide +kernel
theorem dX4_read_57 : decode cX4_read 57 = .ok (.iconst 3, 1) := by decide +kernel
theorem dX4_read_58 : decode cX4_read 58 = .ok (.ishl, 1) := by decide +kernel
theorem dX4_read_59 : decode cX4_read 59 = .ok (.aload_n 1, 1) := by decide +kernel
theorem dX4_read_60 : decode cX4_read 60 = .ok (.iload_n 2, 1) := by decide +kernel
theorem dX4_read_61 : decode cX4_read 61 = .ok (.iload_n 3, 1) := by decide +kernel
theorem dX4_read_62 : decode cX4_read 62 = .ok (.iload 6, 2) := by decide +kernel
theorem dX4_read_64 : decode cX4_read 64 = .ok (.iadd, 1) := by decide +kernel
theorem dX4_read_65 : decode cX4_read 65 = .ok (.iconst 1, 1) := by decide +kernel
theorem dX4_read_66 : decode cX4_read 66 = .ok (.isub, 1) := by decide +kernel
theorem dX4_read_67 : decode cX4_read 67 = .ok (.invokevirtual 43, 3) := by decide +kernel
theorem dX4_read_70 : decode cX4_read 70 = .ok (.iconst 1, 1) := by decide +kernel
theorem dX4_read_71 : decode cX4_read 71 = .ok (.iadd, 1) := by decide +kernel
theorem dX4_read_72 : decode cX4_read 72 = .ok (.ior, 1) := by decide +kernel
theorem dX4_read_73 : decode cX4_read 73 = .ok (.istore 5, 2) := by decide +kernel
theorem dX4_read_75 : decode cX4_read 75 = .ok (.aload_n 0, 1) := by decide +kernel
theorem dX4_read_76 : decode cX4_read 76 = .ok (.getfield 9, 3) := by decide +kernel
theorem dX4_read_79 : decode cX4_read 79 = .ok (.iload_n 3, 1) := by decide +kernel
theorem dX4_read_80 : decode cX4_read 80 = .ok (.iload 6, 2) := by decide +kernel
theorem dX4_read_82 : decode cX4_read 82 = .ok (.invokestatic 47, 3) := by decide +kernel
theorem dX4_read_85 : decode cX4_read 85 = .ok (.iload 5, 2) := by decide +kernel
theorem dX4_read_87 : decode cX4_read 87 = .ok (.iastore, 1) := by decide +kernel
theorem dX4_read_88 : decode cX4_read 88 = .ok (.aload_n 0, 1) := by decide +kernel
theorem dX4_read_89 : decode cX4_read 89 = .ok (.getfield 15, 3) := by decide +kernel
theorem dX4_read_92 : decode cX4_read 92 = .ok (.iload_n 3, 1) := by decide +kernel
theorem dX4_read_93 : decode cX4_read 93 = .ok (.iload 6, 2) := by decide +kernel
theorem dX4_read_95 : decode cX4_read 95 = .ok (.invokestatic 47, 3) := by decide +kernel
theorem dX4_read_98 : decode cX4_read 98 = .ok (.aload_n 1, 1) := by decide +kernel
theorem dX4_read_99 : decode cX4_read 99 = .ok (.iload 5, 2) := by decide +kernel
theorem dX4_read_101 : decode cX4_read 101 = .ok (.invokevirtual 50, 3) := by decide +kernel
theorem dX4_read_104 : decode cX4_read 104 = .ok (.iastore, 1) := by decide +kernel
theorem dX4_read_105 : decode cX4_read 105 = .ok (.iinc 6 1, 3) := by decide +kernel
theorem dX4_read_108 : decode cX4_read 108 = .ok (.goto (-60), 3) := by decide +kernel
theorem dX4_read_111 : decode cX4_read 111 = .ok (.iinc 3 1, 3) := by decide +kernel
theorem dX4_read_114 : decode cX4_read 114 = .ok (.goto (-87), 3) := by decide +kernel
theorem dX4_read_117 : decode cX4_read 117 = .ok (.return_, 1) := by decide +kernel
theorem dX4_mostLetters_0 : decode cX4_mostLetters 0 = .ok (.iconst 4, 1) := by decide +kernel
theorem dX4_mostLetters_1 : decode cX4_mostLetters 1 = .ok (.aload_n 0, 1) := by decide +kernel
theorem dX4_mostLetters_2 : decode cX4_mostLetters 2 = .ok (.getfield 26, 3) := by decide +kernel
theorem dX4_mostLetters_5 : decode cX4_mostLetters 5 = .ok (.iload_n 1, 1) := by decide +kernel
theorem dX4_mostLetters_6 : decode cX4_mostLetters 6 = .ok (.isub, 1) := by decide +kernel
theorem dX4_mostLetters_7 : decode cX4_mostLetters 7 = .ok (.invokestatic 53, 3) := by decide +kernel
theorem dX4_mostLetters_10 : decode cX4_mostLetters 10 = .ok (.ireturn, 1) := by decide +kernel
theorem dX4_index_0 : decode cX4_index 0 = .ok (.iload_n 0, 1) := by decide +kernel
theorem dX4_index_1 : decode cX4_index 1 = .ok (.iconst 4, 1) := by decide +kernel
theorem dX4_index_2 : decode cX4_index 2 = .ok (.imul, 1) := by decide +kernel
theorem dX4_index_3 : decode cX4_index 3 = .ok (.iload_n 1, 1) := by decide +kernel
theorem dX4_index_4 : decode cX4_index 4 = .ok (.iadd, 1) := by decide +kernel
theorem dX4_index_5 : decode cX4_index 5 = .ok (.iconst 1, 1) := by decide +kernel
theorem dX4_index_6 : decode cX4_index 6 = .ok (.isub, 1) := by decide +kernel
theorem dX4_index_7 : decode cX4_index 7 = .ok (.ireturn, 1) := by decide +kernel
set_option maxRecDepth 20000 in
theorem ggX4_pieceAt_X4_index : GoodIn wsX4_pieceAt wsX4_index := goodIn_r _ [5] (by decide +kernel) (by decide +kernel)
set_option maxRecDepth 20000 in
theorem gX4_pieceAt_X4_index : GoodIn wsX4_pieceAt (va_wsS RX4 47 yX4_index wsX4_index) := goodIn_app (goodIn_of _ (by decide +kernel)) ggX4_pieceAt_X4_index
theorem dX4_pieceAt_0 : decode cX4_pieceAt 0 = .ok (.aload_n 0, 1) := by decide +kernel
theorem dX4_pieceAt_1 : decode cX4_pieceAt 1 = .ok (.getfield 15, 3) := by decide +kernel
theorem dX4_pieceAt_4 : decode cX4_pieceAt 4 = .ok (.iload_n 1, 1) := by decide +kernel
theorem dX4_pieceAt_5 : decode cX4_pieceAt 5 = .ok (.iload_n 2, 1) := by decide +kernel
theorem dX4_pieceAt_6 : decode cX4_pieceAt 6 = .ok (.invokestatic 47, 3) := by decide +kernel
theorem dX4_pieceAt_9 : decode cX4_pieceAt 9 = .ok (.iaload, 1) := by decide +kernel
theorem dX4_pieceAt_10 : decode cX4_pieceAt 10 = .ok (.ireturn, 1) := by decide +kernel
set_option maxRecDepth 20000 in
theorem ggX4_weightAt_X4_pieceAt : GoodIn wsX4_weightAt wsX4_pieceAt := goodIn_r _ [6, 7, 8, 9, 5, 10, 11, 12, 13, 14] (by decide +kernel) (by decide +kernel)
set_option maxRecDepth 20000 in
theorem gX4_weightAt_X4_pieceAt : GoodIn wsX4_weightAt (wsV RX4 58 RX4 yX4_pieceAt wsX4_pieceAt) := goodIn_app (goodIn_of _ (by decide +kernel)) ggX4_weightAt_X4_pieceAt
theorem dX4_weightAt_0 : decode cX4_weightAt 0 = .ok (.aload_n 0, 1) := by decide +kernel
theorem dX4_weightAt_1 : decode cX4_weightAt 1 = .ok (.iload_n 1, 1) := by decide +kernel
theorem dX4_weightAt_2 : decode cX4_weightAt 2 = .ok (.iload_n 2, 1) := by decide +kernel
theorem dX4_weightAt_3 : decode cX4_weightAt 3 = .ok (.invokevirtual 58, 3) := by decide +kernel
theorem dX4_weightAt_6 : decode cX4_weightAt 6 = .ok (.istore 4, 2) := by decide +kernel
theorem dX4_weightAt_8 : decode cX4_weightAt 8 = .ok (.iload 4, 2) := by decide +kernel
theorem dX4_weightAt_10 : decode cX4_weightAt 10 = .ok (.iconst (-1), 1) := by decide +kernel
theorem dX4_weightAt_11 : decode cX4_weightAt 11 = .ok (.if_icmp .eq 9, 3) := by decide +kernel
theorem dX4_weightAt_14 : decode cX4_weightAt 14 = .ok (.iload 4, 2) := by decide +kernel
theorem dX4_weightAt_16 : decode cX4_weightAt 16 = .ok (.iload_n 3, 1) := by decide +kernel
theorem dX4_weightAt_17 : decode cX4_weightAt 17 = .ok (.if_icmp .ne 14, 3) := by decide +kernel
theorem dX4_weightAt_20 : decode cX4_weightAt 20 = .ok (.iload_n 2, 1) := by decide +kernel
theorem dX4_weightAt_21 : decode cX4_weightAt 21 = .ok (.iconst 1, 1) := by decide +kernel
theorem dX4_weightAt_22 : decode cX4_weightAt 22 = .ok (.if_icmp .ne 7, 3) := by decide +kernel
theorem dX4_weightAt_25 : decode cX4_weightAt 25 = .ok (.iconst 1, 1) := by decide +kernel
theorem dX4_weightAt_26 : decode cX4_weightAt 26 = .ok (.goto 4, 3) := by decide +kernel
theorem dX4_weightAt_29 : decode cX4_weightAt 29 = .ok (.iconst 0, 1) := by decide +kernel
theorem dX4_weightAt_30 : decode cX4_weightAt 30 = .ok (.ireturn, 1) := by decide +kernel
theorem dX4_weightAt_31 : decode cX4_weightAt 31 = .ok (.aload_n 0, 1) := by decide +kernel
theorem dX4_weightAt_32 : decode cX4_weightAt 32 = .ok (.getfield 18, 3) := by decide +kernel
theorem dX4_weightAt_35 : decode cX4_weightAt 35 = .ok (.iload 4, 2) := by decide +kernel
theorem dX4_weightAt_37 : decode cX4_weightAt 37 = .ok (.iaload, 1) := by decide +kernel
theorem dX4_weightAt_38 : decode cX4_weightAt 38 = .ok (.ireturn, 1) := by decide +kernel
theorem dX5_init_0 : decode cX5_init 0 = .ok (.aload_n 0, 1) := by decide +kernel
theorem dX5_init_1 : decode cX5_init 1 = .ok (.invokespecial 3, 3) := by decide +kernel
theorem dX5_init_4 : decode cX5_init 4 = .ok (.aload_n 0, 1) := by decide +kernel
theorem dX5_init_5 : decode cX5_init 5 = .ok (.bipush 88, 2) := by decide +kernel
theorem dX5_init_7 : decode cX5_init 7 = .ok (.newarray .int, 2) := by decide +kernel
theorem dX5_init_9 : decode cX5_init 9 = .ok (.putfield 11, 3) := by decide +kernel
theorem dX5_init_12 : decode cX5_init 12 = .ok (.aload_n 0, 1) := by decide +kernel
theorem dX5_init_13 : decode cX5_init 13 = .ok (.bipush 88, 2) := by decide +kernel
theorem dX5_init_15 : decode cX5_init 15 = .ok (.newarray .int, 2) := by decide +kernel
theorem dX5_init_17 : decode cX5_init 17 = .ok (.putfield 15, 3) := by decide +kernel
theorem dX5_init_20 : decode cX5_init 20 = .ok (.aload_n 0, 1) := by decide +kernel
theorem dX5_init_21 : decode cX5_init 21 = .ok (.bipush 88, 2) := by decide +kernel
theorem dX5_init_23 : decode cX5_init 23 = .ok (.newarray .int, 2) := by decide +kernel
theorem dX5_init_25 : decode cX5_init 25 = .ok (.putfield 18, 3) := by decide +kernel
theorem dX5_init_28 : decode cX5_init 28 = .ok (.aload_n 0, 1) := by decide +kernel
theorem dX5_init_29 : decode cX5_init 29 = .ok (.bipush 88, 2) := by decide +kernel
theorem dX5_init_31 : decode cX5_init 31 = .ok (.newarray .int, 2) := by decide +kernel
theorem dX5_init_33 : decode cX5_init 33 = .ok (.putfield 21, 3) := by decide +kernel
theorem dX5_init_36 : decode cX5_init 36 = .ok (.return_, 1) := by decide +kernel
theorem dX6_init_0 : decode cX6_init 0 = .ok (.aload_n 0, 1) := by decide +kernel
theorem dX6_init_1 : decode cX6_init 1 = .ok (.invokespecial 3, 3) := by decide +kernel
theorem dX6_init_4 : decode cX6_init 4 = .ok (.aload_n 0, 1) := by decide +kernel
theorem dX6_init_5 : decode cX6_init 5 = .ok (.bipush 16, 2) := by decide +kernel
theorem dX6_init_7 : decode cX6_init 7 = .ok (.newarray .int, 2) := by decide +kernel
theorem dX6_init_9 : decode cX6_init 9 = .ok (.putfield 9, 3) := by decide +kernel
theorem dX6_init_12 : decode cX6_init 12 = .ok (.return_, 1) := by decide +kernel
theorem dX6_append_0 : decode cX6_append 0 = .ok (.aload_n 0, 1) := by decide +kernel
theorem dX6_append_1 : decode cX6_append 1 = .ok (.getfield 15, 3) := by decide +kernel
theorem dX6_append_4 : decode cX6_append 4 = .ok (.bipush 16, 2) := by decide +kernel
theorem dX6_append_6 : decode cX6_append 6 = .ok (.if_icmp .lt 4, 3) := by decide +kernel
theorem dX6_append_9 : decode cX6_append 9 = .ok (.return_, 1) := by decide +kernel
theorem dX6_append_10 : decode cX6_append 10 = .ok (.aload_n 0, 1) := by decide +kernel
theorem dX6_append_11 : decode cX6_append 11 = .ok (.getfield 9, 3) := by decide +kernel
theorem dX6_append_14 : decode cX6_append 14 = .ok (.aload_n 0, 1) := by decide +kernel
theorem dX6_append_15 : decode cX6_append 15 = .ok (.getfield 15, 3) := by decide +kernel
theorem dX6_append_18 : decode cX6_append 18 = .ok (.iload_n 1, 1) := by decide +kernel
theorem dX6_append_19 : decode cX6_append 19 = .ok (.iastore, 1) := by decide +kernel
theorem dX6_append_20 : decode cX6_append 20 = .ok (.aload_n 0, 1) := by decide +kernel
theorem dX6_append_21 : decode cX6_append 21 = .ok (.dup, 1) := by decide +kernel
theorem dX6_append_22 : decode cX6_append 22 = .ok (.getfield 15, 3) := by decide +kernel
theorem dX6_append_25 : decode cX6_append 25 = .ok (.iconst 1, 1) := by decide +kernel
theorem dX6_append_26 : decode cX6_append 26 = .ok (.iadd, 1) := by decide +kernel
theorem dX6_append_27 : decode cX6_append 27 = .ok (.putfield 15, 3) := by decide +kernel
theorem dX6_append_30 : decode cX6_append 30 = .ok (.return_, 1) := by decide +kernel
theorem dX6_letterAt_0 : decode cX6_letterAt 0 = .ok (.aload_n 0, 1) := by decide +kernel
theorem dX6_letterAt_1 : decode cX6_letterAt 1 = .ok (.getfield 9, 3) := by decide +kernel
theorem dX6_letterAt_4 : decode cX6_letterAt 4 = .ok (.iload_n 1, 1) := by decide +kernel
theorem dX6_letterAt_5 : decode cX6_letterAt 5 = .ok (.iaload, 1) := by decide +kernel
theorem dX6_letterAt_6 : decode cX6_letterAt 6 = .ok (.bipush 97, 2) := by decide +kernel
theorem dX6_letterAt_8 : decode cX6_letterAt 8 = .ok (.isub, 1) := by decide +kernel
theorem dX6_letterAt_9 : decode cX6_letterAt 9 = .ok (.ireturn, 1) := by decide +kernel
set_option maxRecDepth 20000 in
theorem ggX6_firstNoLetter_X6_letterAt : GoodIn wsX6_firstNoLetter wsX6_letterAt := goodIn_r _ [6, 7, 8, 9] (by decide +kernel) (by decide +kernel)
set_option maxRecDepth 20000 in
theorem gX6_firstNoLetter_X6_letterAt : GoodIn wsX6_firstNoLetter (wsV RX6 19 RX6 yX6_letterAt wsX6_letterAt) := goodIn_app (goodIn_of _ (by decide +kernel)) ggX6_firstNoLetter_X6_letterAt
theorem dX6_firstNoLetter_0 : decode cX6_firstNoLetter 0 = .ok (.iconst 0, 1) := by decide +kernel
theorem dX6_firstNoLetter_1 : decode cX6_firstNoLetter 1 = .ok (.istore_n 1, 1) := by decide +kernel
theorem dX6_firstNoLetter_2 : decode cX6_firstNoLetter 2 = .ok (.iload_n 1, 1) := by decide +kernel
theorem dX6_firstNoLetter_3 : decode cX6_firstNoLetter 3 = .ok (.aload_n 0, 1) := by decide +kernel
theorem dX6_firstNoLetter_4 : decode cX6_firstNoLetter 4 = .ok (.getfield 15, 3) := by decide +kernel
theorem dX6_firstNoLetter_7 : decode cX6_firstNoLetter 7 = .ok (.if_icmp .ge 27, 3) := by decide +kernel
theorem dX6_firstNoLetter_10 : decode cX6_firstNoLetter 10 = .ok (.aload_n 0, 1) := by decide +kernel
theorem dX6_firstNoLetter_11 : decode cX6_firstNoLetter 11 = .ok (.iload_n 1, 1) := by decide +kernel
theorem dX6_firstNoLetter_12 : decode cX6_firstNoLetter 12 = .ok (.invokevirtual 19, 3) := by decide +kernel
theorem dX6_firstNoLetter_15 : decode cX6_firstNoLetter 15 = .ok (.ifCond .lt 19, 3) := by decide +kernel
theorem dX6_firstNoLetter_18 : decode cX6_firstNoLetter 18 = .ok (.aload_n 0, 1) := by decide +kernel
theorem dX6_firstNoLetter_19 : decode cX6_firstNoLetter 19 = .ok (.iload_n 1, 1) := by decide +kernel
theorem dX6_firstNoLetter_20 : decode cX6_firstNoLetter 20 = .ok (.invokevirtual 19, 3) := by decide +kernel
theorem dX6_firstNoLetter_23 : decode cX6_firstNoLetter 23 = .ok (.bipush 6, 2) := by decide +kernel
theorem dX6_firstNoLetter_25 : decode cX6_firstNoLetter 25 = .ok (.if_icmp .ge 9, 3) := by decide +kernel
theorem dX6_firstNoLetter_28 : decode cX6_firstNoLetter 28 = .ok (.iinc 1 1, 3) := by decide +kernel
theorem dX6_firstNoLetter_31 : decode cX6_firstNoLetter 31 = .ok (.goto (-29), 3) := by decide +kernel
theorem dX6_firstNoLetter_34 : decode cX6_firstNoLetter 34 = .ok (.iload_n 1, 1) := by decide +kernel
theorem dX6_firstNoLetter_35 : decode cX6_firstNoLetter 35 = .ok (.ireturn, 1) := by decide +kernel
set_option maxRecDepth 20000 in
theorem ggX6_holdsLetters_X6_firstNoLetter : GoodIn wsX6_holdsLetters wsX6_firstNoLetter := goodIn_r _ [6, 1, 7, 8, 9, 5, 10, 11, 12, 13] (by decide +kernel) (by decide +kernel)
set_option maxRecDepth 20000 in
theorem gX6_holdsLetters_X6_firstNoLetter : GoodIn wsX6_holdsLetters (wsV RX6 23 RX6 yX6_firstNoLetter wsX6_firstNoLetter) := goodIn_app (goodIn_of _ (by decide +kernel)) ggX6_holdsLetters_X6_firstNoLetter
theorem dX6_holdsLetters_0 : decode cX6_holdsLetters 0 = .ok (.aload_n 0, 1) := by decide +kernel
theorem dX6_holdsLetters_1 : decode cX6_holdsLetters 1 = .ok (.getfield 15, 3) := by decide +kernel
theorem dX6_holdsLetters_4 : decode cX6_holdsLetters 4 = .ok (.iconst 1, 1) := by decide +kernel
theorem dX6_holdsLetters_5 : decode cX6_holdsLetters 5 = .ok (.if_icmp .lt 26, 3) := by decide +kernel
theorem dX6_holdsLetters_8 : decode cX6_holdsLetters 8 = .ok (.aload_n 0, 1) := by decide +kernel
theorem dX6_holdsLetters_9 : decode cX6_holdsLetters 9 = .ok (.getfield 15, 3) := by decide +kernel
theorem dX6_holdsLetters_12 : decode cX6_holdsLetters 12 = .ok (.iload_n 1, 1) := by decide +kernel
theorem dX6_holdsLetters_13 : decode cX6_holdsLetters 13 = .ok (.if_icmp .gt 18, 3) := by decide +kernel
theorem dX6_holdsLetters_16 : decode cX6_holdsLetters 16 = .ok (.aload_n 0, 1) := by decide +kernel
theorem dX6_holdsLetters_17 : decode cX6_holdsLetters 17 = .ok (.invokevirtual 23, 3) := by decide +kernel
theorem dX6_holdsLetters_20 : decode cX6_holdsLetters 20 = .ok (.aload_n 0, 1) := by decide +kernel
theorem dX6_holdsLetters_21 : decode cX6_holdsLetters 21 = .ok (.getfield 15, 3) := by decide +kernel
theorem dX6_holdsLetters_24 : decode cX6_holdsLetters 24 = .ok (.if_icmp .ne 7, 3) := by decide +kernel
theorem dX6_holdsLetters_27 : decode cX6_holdsLetters 27 = .ok (.iconst 1, 1) := by decide +kernel
theorem dX6_holdsLetters_28 : decode cX6_holdsLetters 28 = .ok (.goto 4, 3) := by decide +kernel
theorem dX6_holdsLetters_31 : decode cX6_holdsLetters 31 = .ok (.iconst 0, 1) := by decide +kernel
theorem dX6_holdsLetters_32 : decode cX6_holdsLetters 32 = .ok (.ireturn, 1) := by decide +kernel
set_option maxRecDepth 20000 in
theorem ggX6_text_X6_letterAt : GoodIn wsX6_text wsX6_letterAt := goodIn_r _ [6, 7, 8, 9] (by decide +kernel) (by decide +kernel)
set_option maxRecDepth 20000 in
theorem gX6_text_X6_letterAt : GoodIn wsX6_text (wsV RX6 19 RX6 yX6_letterAt wsX6_letterAt) := goodIn_app (goodIn_of _ (by decide +kernel)) ggX6_text_X6_letterAt
theorem dX6_text_0 : decode cX6_text 0 = .ok (.iconst 0, 1) := by decide +kernel
theorem dX6_text_1 : decode cX6_text 1 = .ok (.istore_n 1, 1) := by decide +kernel
theorem dX6_text_2 : decode cX6_text 2 = .ok (.iconst 0, 1) := by decide +kernel
theorem dX6_text_3 : decode cX6_text 3 = .ok (.istore_n 2, 1) := by decide +kernel
theorem dX6_text_4 : decode cX6_text 4 = .ok (.iload_n 2, 1) := by decide +kernel
theorem dX6_text_5 : decode cX6_text 5 = .ok (.aload_n 0, 1) := by decide +kernel
theorem dX6_text_6 : decode cX6_text 6 = .ok (.getfield 15, 3) := by decide +kernel
theorem dX6_text_9 : decode cX6_text 9 = .ok (.if_icmp .ge 21, 3) := by decide +kernel
theorem dX6_text_12 : decode cX6_text 12 = .ok (.iload_n 1, 1) := by decide +kernel
theorem dX6_text_13 : decode cX6_text 13 = .ok (.iconst 3, 1) := by decide +kernel
theorem dX6_text_14 : decode cX6_text 14 = .ok (.ishl, 1) := by decide +kernel
theorem dX6_text_15 : decode cX6_text 15 = .ok (.aload_n 0, 1) := by decide +kernel
theorem dX6_text_16 : decode cX6_text 16 = .ok (.iload_n 2, 1) := by decide +kernel
theorem dX6_text_17 : decode cX6_text 17 = .ok (.invokevirtual 19, 3) := by decide +kernel
theorem dX6_text_20 : decode cX6_text 20 = .ok (.iconst 1, 1) := by decide +kernel
theorem dX6_text_21 : decode cX6_text 21 = .ok (.iadd, 1) := by decide +kernel
theorem dX6_text_22 : decode cX6_text 22 = .ok (.ior, 1) := by decide +kernel
theorem dX6_text_23 : decode cX6_text 23 = .ok (.istore_n 1, 1) := by decide +kernel
theorem dX6_text_24 : decode cX6_text 24 = .ok (.iinc 2 1, 3) := by decide +kernel
theorem dX6_text_27 : decode cX6_text 27 = .ok (.goto (-23), 3) := by decide +kernel
theorem dX6_text_30 : decode cX6_text 30 = .ok (.iload_n 1, 1) := by decide +kernel
theorem dX6_text_31 : decode cX6_text 31 = .ok (.ireturn, 1) := by decide +kernel
set_option maxRecDepth 20000 in
theorem ggX7_init_X2_init : GoodIn wsX7_init wsX2_init := goodIn_r _ [40, 41, 2, 3, 36, 42, 43, 44, 45, 46, 47, 87, 88, 89, 90, 91, 92, 93, 94] (by decide +kernel) (by decide +kernel)
set_option maxRecDepth 20000 in
theorem gX7_init_X2_init_n9 : GoodIn wsX7_init (wsX2_init) := ggX7_init_X2_init
set_option maxRecDepth 20000 in
theorem ggX7_init_X3_init : GoodIn wsX7_init wsX3_init := goodIn_r _ [50, 51, 2, 3, 52, 53, 5, 6, 39, 40, 41, 36, 42, 43, 44, 45, 46, 47, 107, 108, 87, 88, 89, 90, 91, 92, 93, 94] (by decide +kernel) (by decide +kernel)
set_option maxRecDepth 20000 in
theorem gX7_init_X3_init : GoodIn wsX7_init (wsX3_init) := ggX7_init_X3_init
set_option maxRecDepth 20000 in
theorem ggX7_init_X6_init : GoodIn wsX7_init wsX6_init := goodIn_r _ [55, 56, 2, 3, 36, 57, 109, 110] (by decide +kernel) (by decide +kernel)
set_option maxRecDepth 20000 in
theorem gX7_init_X6_init_n36 : GoodIn wsX7_init (wsX6_init) := ggX7_init_X6_init
set_option maxRecDepth 20000 in
theorem ggX7_init_X4_init : GoodIn wsX7_init wsX4_init := goodIn_r _ [59, 60, 2, 3, 36, 61, 62, 63, 111, 112, 113, 114] (by decide +kernel) (by decide +kernel)
set_option maxRecDepth 20000 in
theorem gX7_init_X4_init_n43 : GoodIn wsX7_init (wsX4_init) := ggX7_init_X4_init
set_option maxRecDepth 20000 in
theorem ggX7_init_X1_init : GoodIn wsX7_init wsX1_init := goodIn_r _ [65, 66, 2, 3, 67, 68, 36, 69, 70, 71, 72, 73, 115, 116, 117, 118, 119, 120, 121, 122] (by decide +kernel) (by decide +kernel)
set_option maxRecDepth 20000 in
theorem gX7_init_X1_init_n50 : GoodIn wsX7_init (wsX1_init) := ggX7_init_X1_init
set_option maxRecDepth 20000 in
theorem ggX7_init_X0_init : GoodIn wsX7_init wsX0_init := goodIn_r _ [75, 76, 2, 3, 67, 77, 78, 36, 79, 123, 124, 125] (by decide +kernel) (by decide +kernel)
set_option maxRecDepth 20000 in
theorem gX7_init_X0_init_n57 : GoodIn wsX7_init (wsX0_init) := ggX7_init_X0_init
set_option maxRecDepth 20000 in
theorem ggX7_init_X5_init : GoodIn wsX7_init wsX5_init := goodIn_r _ [81, 82, 2, 3, 36, 83, 84, 85, 86, 126, 127, 128, 129, 130] (by decide +kernel) (by decide +kernel)
set_option maxRecDepth 20000 in
theorem gX7_init_X5_init_n64 : GoodIn wsX7_init (wsX5_init) := ggX7_init_X5_init
theorem dX7_init_0 : decode cX7_init 0 = .ok (.aload_n 0, 1) := by decide +kernel
theorem dX7_init_1 : decode cX7_init 1 = .ok (.invokespecial 1, 3) := by decide +kernel
theorem dX7_init_4 : decode cX7_init 4 = .ok (.aload_n 0, 1) := by decide +kernel
theorem dX7_init_5 : decode cX7_init 5 = .ok (.new 7, 3) := by decide +kernel
theorem dX7_init_8 : decode cX7_init 8 = .ok (.dup, 1) := by decide +kernel
theorem dX7_init_9 : decode cX7_init 9 = .ok (.invokespecial 9, 3) := by decide +kernel
theorem dX7_init_12 : decode cX7_init 12 = .ok (.putfield 10, 3) := by decide +kernel
theorem dX7_init_15 : decode cX7_init 15 = .ok (.aload_n 0, 1) := by decide +kernel
theorem dX7_init_16 : decode cX7_init 16 = .ok (.new 7, 3) := by decide +kernel
theorem dX7_init_19 : decode cX7_init 19 = .ok (.dup, 1) := by decide +kernel
theorem dX7_init_20 : decode cX7_init 20 = .ok (.invokespecial 9, 3) := by decide +kernel
theorem dX7_init_23 : decode cX7_init 23 = .ok (.putfield 16, 3) := by decide +kernel
theorem dX7_init_26 : decode cX7_init 26 = .ok (.aload_n 0, 1) := by decide +kernel
theorem dX7_init_27 : decode cX7_init 27 = .ok (.iconst 2, 1) := by decide +kernel
theorem dX7_init_28 : decode cX7_init 28 = .ok (.anewarray 7, 3) := by decide +kernel
theorem dX7_init_31 : decode cX7_init 31 = .ok (.putfield 19, 3) := by decide +kernel
theorem dX7_init_34 : decode cX7_init 34 = .ok (.aload_n 0, 1) := by decide +kernel
theorem dX7_init_35 : decode cX7_init 35 = .ok (.iconst 2, 1) := by decide +kernel
theorem dX7_init_36 : decode cX7_init 36 = .ok (.newarray .boolean, 2) := by decide +kernel
theorem dX7_init_38 : decode cX7_init 38 = .ok (.putfield 23, 3) := by decide +kernel
theorem dX7_init_41 : decode cX7_init 41 = .ok (.aload_n 0, 1) := by decide +kernel
theorem dX7_init_42 : decode cX7_init 42 = .ok (.new 27, 3) := by decide +kernel
theorem dX7_init_45 : decode cX7_init 45 = .ok (.dup, 1) := by decide +kernel
theorem dX7_init_46 : decode cX7_init 46 = .ok (.invokespecial 29, 3) := by decide +kernel
theorem dX7_init_49 : decode cX7_init 49 = .ok (.putfield 30, 3) := by decide +kernel
theorem dX7_init_52 : decode cX7_init 52 = .ok (.aload_n 0, 1) := by decide +kernel
theorem dX7_init_53 : decode cX7_init 53 = .ok (.new 34, 3) := by decide +kernel
theorem dX7_init_56 : decode cX7_init 56 = .ok (.dup, 1) := by decide +kernel
theorem dX7_init_57 : decode cX7_init 57 = .ok (.invokespecial 36, 3) := by decide +kernel
theorem dX7_init_60 : decode cX7_init 60 = .ok (.putfield 37, 3) := by decide +kernel
theorem dX7_init_63 : decode cX7_init 63 = .ok (.aload_n 0, 1) := by decide +kernel
theorem dX7_init_64 : decode cX7_init 64 = .ok (.new 41, 3) := by decide +kernel
theorem dX7_init_67 : decode cX7_init 67 = .ok (.dup, 1) := by decide +kernel
theorem dX7_init_68 : decode cX7_init 68 = .ok (.invokespecial 43, 3) := by decide +kernel
theorem dX7_init_71 : decode cX7_init 71 = .ok (.putfield 44, 3) := by decide +kernel
theorem dX7_init_74 : decode cX7_init 74 = .ok (.aload_n 0, 1) := by decide +kernel
theorem dX7_init_75 : decode cX7_init 75 = .ok (.new 48, 3) := by decide +kernel
theorem dX7_init_78 : decode cX7_init 78 = .ok (.dup, 1) := by decide +kernel
theorem dX7_init_79 : decode cX7_init 79 = .ok (.invokespecial 50, 3) := by decide +kernel
theorem dX7_init_82 : decode cX7_init 82 = .ok (.putfield 51, 3) := by decide +kernel
theorem dX7_init_85 : decode cX7_init 85 = .ok (.aload_n 0, 1) := by decide +kernel
theorem dX7_init_86 : decode cX7_init 86 = .ok (.new 55, 3) := by decide +kernel
theorem dX7_init_89 : decode cX7_init 89 = .ok (.dup, 1) := by decide +kernel
theorem dX7_init_90 : decode cX7_init 90 = .ok (.invokespecial 57, 3) := by decide +kernel
theorem dX7_init_93 : decode cX7_init 93 = .ok (.putfield 58, 3) := by decide +kernel
theorem dX7_init_96 : decode cX7_init 96 = .ok (.aload_n 0, 1) := by decide +kernel
theorem dX7_init_97 : decode cX7_init 97 = .ok (.new 62, 3) := by decide +kernel
theorem dX7_init_100 : decode cX7_init 100 = .ok (.dup, 1) := by decide +kernel
theorem dX7_init_101 : decode cX7_init 101 = .ok (.invokespecial 64, 3) := by decide +kernel
theorem dX7_init_104 : decode cX7_init 104 = .ok (.putfield 65, 3) := by decide +kernel
theorem dX7_init_107 : decode cX7_init 107 = .ok (.aload_n 0, 1) := by decide +kernel
theorem dX7_init_108 : decode cX7_init 108 = .ok (.bipush 16, 2) := by decide +kernel
theorem dX7_init_110 : decode cX7_init 110 = .ok (.newarray .int, 2) := by decide +kernel
theorem dX7_init_112 : decode cX7_init 112 = .ok (.putfield 69, 3) := by decide +kernel
theorem dX7_init_115 : decode cX7_init 115 = .ok (.aload_n 0, 1) := by decide +kernel
theorem dX7_init_116 : decode cX7_init 116 = .ok (.bipush 16, 2) := by decide +kernel
theorem dX7_init_118 : decode cX7_init 118 = .ok (.newarray .int, 2) := by decide +kernel
theorem dX7_init_120 : decode cX7_init 120 = .ok (.putfield 73, 3) := by decide +kernel
theorem dX7_init_123 : decode cX7_init 123 = .ok (.iconst 0, 1) := by decide +kernel
theorem dX7_init_124 : decode cX7_init 124 = .ok (.istore_n 1, 1) := by decide +kernel
theorem dX7_init_125 : decode cX7_init 125 = .ok (.iload_n 1, 1) := by decide +kernel
theorem dX7_init_126 : decode cX7_init 126 = .ok (.iconst 2, 1) := by decide +kernel
theorem dX7_init_127 : decode cX7_init 127 = .ok (.if_icmp .ge 22, 3) := by decide +kernel
theorem dX7_init_130 : decode cX7_init 130 = .ok (.aload_n 0, 1) := by decide +kernel
theorem dX7_init_131 : decode cX7_init 131 = .ok (.getfield 19, 3) := by decide +kernel
theorem dX7_init_134 : decode cX7_init 134 = .ok (.iload_n 1, 1) := by decide +kernel
theorem dX7_init_135 : decode cX7_init 135 = .ok (.new 7, 3) := by decide +kernel
theorem dX7_init_138 : decode cX7_init 138 = .ok (.dup, 1) := by decide +kernel
theorem dX7_init_139 : decode cX7_init 139 = .ok (.invokespecial 9, 3) := by decide +kernel
theorem dX7_init_142 : decode cX7_init 142 = .ok (.aastore, 1) := by decide +kernel
theorem dX7_init_143 : decode cX7_init 143 = .ok (.iinc 1 1, 3) := by decide +kernel
theorem dX7_init_146 : decode cX7_init 146 = .ok (.goto (-21), 3) := by decide +kernel
theorem dX7_init_149 : decode cX7_init 149 = .ok (.return_, 1) := by decide +kernel
set_option maxRecDepth 20000 in
theorem ggX7_piece_X7_newPieceError : GoodIn wsX7_piece wsX7_newPieceError := goodIn_r _ [10, 3, 2, 5, 11, 12, 13, 14, 15, 16, 17, 18, 19, 20, 21, 22, 23, 24, 25, 26, 27, 28, 29, 30, 31, 32, 33, 34, 35, 36, 66, 67, 68, 69, 70, 71, 72, 73, 74, 75, 76, 77, 80, 81, 82, 83, 84, 85, 86, 87, 78, 79] (by decide +kernel) (by decide +kernel)
set_option maxRecDepth 20000 in
theorem gX7_piece_X7_newPieceError : GoodIn wsX7_piece (wsV RX7 76 RX7 yX7_newPieceError wsX7_newPieceError) := goodIn_app (goodIn_of _ (by decide +kernel)) ggX7_piece_X7_newPieceError
set_option maxRecDepth 20000 in
theorem ggX7_piece_X3_record : GoodIn wsX7_piece wsX3_record := goodIn_r _ [41, 42, 43, 44, 45, 46, 40, 47, 48, 49, 50, 33, 51, 35, 36, 52, 53, 54, 55, 56, 57, 58, 59, 60, 61, 88, 89, 80, 81, 82, 83, 84, 85, 86, 87] (by decide +kernel) (by decide +kernel)
set_option maxRecDepth 20000 in
theorem gX7_piece_X3_record : GoodIn wsX7_piece (wsV RX7 80 RX3 yX3_record wsX3_record) := goodIn_app (goodIn_of _ (by decide +kernel)) ggX7_piece_X3_record
set_option maxRecDepth 20000 in
theorem ggX7_piece_X6_text : GoodIn wsX7_piece wsX6_text := goodIn_r _ [29, 16, 21, 22, 23, 14, 24, 25, 78, 79] (by decide +kernel) (by decide +kernel)
set_option maxRecDepth 20000 in
theorem gX7_piece_X6_text : GoodIn wsX7_piece (wsV RX7 84 RX6 yX6_text wsX6_text) := goodIn_app (goodIn_of _ (by decide +kernel)) ggX7_piece_X6_text
set_option maxRecDepth 20000 in
theorem ggX7_piece_X2_addPiece : GoodIn wsX7_piece wsX2_addPiece := goodIn_r _ [65, 35, 36, 56, 57, 80, 81, 82, 83, 84, 85, 86, 87] (by decide +kernel) (by decide +kernel)
set_option maxRecDepth 20000 in
theorem gX7_piece_X2_addPiece : GoodIn wsX7_piece (wsV RX7 92 RX2 yX2_addPiece wsX2_addPiece) := goodIn_app (goodIn_of _ (by decide +kernel)) ggX7_piece_X2_addPiece
theorem dX7_piece_0 : decode cX7_piece 0 = .ok (.aload_n 0, 1) := by decide +kernel
theorem dX7_piece_1 : decode cX7_piece 1 = .ok (.iload_n 1, 1) := by decide +kernel
theorem dX7_piece_2 : decode cX7_piece 2 = .ok (.invokevirtual 76, 3) := by decide +kernel
theorem dX7_piece_5 : decode cX7_piece 5 = .ok (.istore_n 2, 1) := by decide +kernel
theorem dX7_piece_6 : decode cX7_piece 6 = .ok (.iload_n 2, 1) := by decide +kernel
theorem dX7_piece_7 : decode cX7_piece 7 = .ok (.ifCond .eq 5, 3) := by decide +kernel
theorem dX7_piece_10 : decode cX7_piece 10 = .ok (.iload_n 2, 1) := by decide +kernel
theorem dX7_piece_11 : decode cX7_piece 11 = .ok (.ireturn, 1) := by decide +kernel
theorem dX7_piece_12 : decode cX7_piece 12 = .ok (.aload_n 0, 1) := by decide +kernel
theorem dX7_piece_13 : decode cX7_piece 13 = .ok (.getfield 30, 3) := by decide +kernel
theorem dX7_piece_16 : decode cX7_piece 16 = .ok (.aload_n 0, 1) := by decide +kernel
theorem dX7_piece_17 : decode cX7_piece 17 = .ok (.getfield 10, 3) := by decide +kernel
theorem dX7_piece_20 : decode cX7_piece 20 = .ok (.invokevirtual 80, 3) := by decide +kernel
theorem dX7_piece_23 : decode cX7_piece 23 = .ok (.aload_n 0, 1) := by decide +kernel
theorem dX7_piece_24 : decode cX7_piece 24 = .ok (.getfield 10, 3) := by decide +kernel
theorem dX7_piece_27 : decode cX7_piece 27 = .ok (.aload_n 0, 1) := by decide +kernel
theorem dX7_piece_28 : decode cX7_piece 28 = .ok (.getfield 37, 3) := by decide +kernel
theorem dX7_piece_31 : decode cX7_piece 31 = .ok (.invokevirtual 84, 3) := by decide +kernel
theorem dX7_piece_34 : decode cX7_piece 34 = .ok (.aload_n 0, 1) := by decide +kernel
theorem dX7_piece_35 : decode cX7_piece 35 = .ok (.getfield 37, 3) := by decide +kernel
theorem dX7_piece_38 : decode cX7_piece 38 = .ok (.getfield 88, 3) := by decide +kernel
theorem dX7_piece_41 : decode cX7_piece 41 = .ok (.iload_n 1, 1) := by decide +kernel
theorem dX7_piece_42 : decode cX7_piece 42 = .ok (.invokevirtual 92, 3) := by decide +kernel
theorem dX7_piece_45 : decode cX7_piece 45 = .ok (.aload_n 0, 1) := by decide +kernel
theorem dX7_piece_46 : decode cX7_piece 46 = .ok (.getfield 37, 3) := by decide +kernel
theorem dX7_piece_49 : decode cX7_piece 49 = .ok (.iconst 0, 1) := by decide +kernel
theorem dX7_piece_50 : decode cX7_piece 50 = .ok (.putfield 88, 3) := by decide +kernel
theorem dX7_piece_53 : decode cX7_piece 53 = .ok (.aload_n 0, 1) := by decide +kernel
theorem dX7_piece_54 : decode cX7_piece 54 = .ok (.getfield 10, 3) := by decide +kernel
theorem dX7_piece_57 : decode cX7_piece 57 = .ok (.getfield 96, 3) := by decide +kernel
theorem dX7_piece_60 : decode cX7_piece 60 = .ok (.iconst 1, 1) := by decide +kernel
theorem dX7_piece_61 : decode cX7_piece 61 = .ok (.isub, 1) := by decide +kernel
theorem dX7_piece_62 : decode cX7_piece 62 = .ok (.ireturn, 1) := by decide +kernel
set_option maxRecDepth 20000 in
theorem ggX7_weigh_X7_isPiece : GoodIn wsX7_weigh wsX7_isPiece := goodIn_r _ [8, 2, 9, 38, 39, 40, 41, 42, 43, 44, 45, 46, 47, 48, 49, 50, 51, 52, 53, 54, 55, 56, 57] (by decide +kernel) (by decide +kernel)
set_option maxRecDepth 20000 in
theorem gX7_weigh_X7_isPiece : GoodIn wsX7_weigh (wsV RX7 99 RX7 yX7_isPiece wsX7_isPiece) := goodIn_app (goodIn_of _ (by decide +kernel)) ggX7_weigh_X7_isPiece
set_option maxRecDepth 20000 in
theorem ggX7_weigh_X3_record : GoodIn wsX7_weigh wsX3_record := goodIn_r _ [14, 15, 16, 17, 18, 19, 13, 20, 21, 22, 23, 24, 25, 26, 27, 28, 29, 30, 31, 32, 33, 34, 35, 36, 37, 58, 59, 50, 51, 52, 53, 54, 55, 56, 57] (by decide +kernel) (by decide +kernel)
set_option maxRecDepth 20000 in
theorem gX7_weigh_X3_record : GoodIn wsX7_weigh (wsV RX7 80 RX3 yX3_record wsX3_record) := goodIn_app (goodIn_of _ (by decide +kernel)) ggX7_weigh_X3_record
theorem dX7_weigh_0 : decode cX7_weigh 0 = .ok (.aload_n 0, 1) := by decide +kernel
theorem dX7_weigh_1 : decode cX7_weigh 1 = .ok (.iload_n 1, 1) := by decide +kernel
theorem dX7_weigh_2 : decode cX7_weigh 2 = .ok (.invokevirtual 99, 3) := by decide +kernel
theorem dX7_weigh_5 : decode cX7_weigh 5 = .ok (.ifCond .ne 5, 3) := by decide +kernel
theorem dX7_weigh_8 : decode cX7_weigh 8 = .ok (.iconst (-1), 1) := by decide +kernel
theorem dX7_weigh_9 : decode cX7_weigh 9 = .ok (.ireturn, 1) := by decide +kernel
theorem dX7_weigh_10 : decode cX7_weigh 10 = .ok (.iload_n 2, 1) := by decide +kernel
theorem dX7_weigh_11 : decode cX7_weigh 11 = .ok (.iconst 1, 1) := by decide +kernel
theorem dX7_weigh_12 : decode cX7_weigh 12 = .ok (.if_icmp .lt 9, 3) := by decide +kernel
theorem dX7_weigh_15 : decode cX7_weigh 15 = .ok (.iload_n 2, 1) := by decide +kernel
theorem dX7_weigh_16 : decode cX7_weigh 16 = .ok (.bipush 9, 2) := by decide +kernel
theorem dX7_weigh_18 : decode cX7_weigh 18 = .ok (.if_icmp .le 6, 3) := by decide +kernel
theorem dX7_weigh_21 : decode cX7_weigh 21 = .ok (.bipush (-2), 2) := by decide +kernel
theorem dX7_weigh_23 : decode cX7_weigh 23 = .ok (.ireturn, 1) := by decide +kernel
theorem dX7_weigh_24 : decode cX7_weigh 24 = .ok (.aload_n 0, 1) := by decide +kernel
theorem dX7_weigh_25 : decode cX7_weigh 25 = .ok (.getfield 30, 3) := by decide +kernel
theorem dX7_weigh_28 : decode cX7_weigh 28 = .ok (.aload_n 0, 1) := by decide +kernel
theorem dX7_weigh_29 : decode cX7_weigh 29 = .ok (.getfield 10, 3) := by decide +kernel
theorem dX7_weigh_32 : decode cX7_weigh 32 = .ok (.invokevirtual 80, 3) := by decide +kernel
theorem dX7_weigh_35 : decode cX7_weigh 35 = .ok (.aload_n 0, 1) := by decide +kernel
theorem dX7_weigh_36 : decode cX7_weigh 36 = .ok (.getfield 10, 3) := by decide +kernel
theorem dX7_weigh_39 : decode cX7_weigh 39 = .ok (.getfield 103, 3) := by decide +kernel
theorem dX7_weigh_42 : decode cX7_weigh 42 = .ok (.iload_n 1, 1) := by decide +kernel
theorem dX7_weigh_43 : decode cX7_weigh 43 = .ok (.iaload, 1) := by decide +kernel
theorem dX7_weigh_44 : decode cX7_weigh 44 = .ok (.istore_n 3, 1) := by decide +kernel
theorem dX7_weigh_45 : decode cX7_weigh 45 = .ok (.aload_n 0, 1) := by decide +kernel
theorem dX7_weigh_46 : decode cX7_weigh 46 = .ok (.getfield 10, 3) := by decide +kernel
theorem dX7_weigh_49 : decode cX7_weigh 49 = .ok (.getfield 103, 3) := by decide +kernel
theorem dX7_weigh_52 : decode cX7_weigh 52 = .ok (.iload_n 1, 1) := by decide +kernel
theorem dX7_weigh_53 : decode cX7_weigh 53 = .ok (.iload_n 2, 1) := by decide +kernel
theorem dX7_weigh_54 : decode cX7_weigh 54 = .ok (.iastore, 1) := by decide +kernel
theorem dX7_weigh_55 : decode cX7_weigh 55 = .ok (.iload_n 3, 1) := by decide +kernel
theorem dX7_weigh_56 : decode cX7_weigh 56 = .ok (.ireturn, 1) := by decide +kernel
set_option maxRecDepth 20000 in
theorem ggX7_word_X6_holdsLetters : GoodIn wsX7_word wsX6_holdsLetters := goodIn_r _ [10, 11, 12, 13, 14, 9, 15, 16, 17, 18, 19, 20, 75, 76] (by decide +kernel) (by decide +kernel)
set_option maxRecDepth 20000 in
theorem gX7_word_X6_holdsLetters : GoodIn wsX7_word (wsV RX7 110 RX6 yX6_holdsLetters wsX6_holdsLetters) := goodIn_app (goodIn_of _ (by decide +kernel)) ggX7_word_X6_holdsLetters
set_option maxRecDepth 20000 in
theorem ggX7_word_X3_record : GoodIn wsX7_word wsX3_record := goodIn_r _ [25, 26, 27, 28, 29, 30, 24, 31, 32, 33, 34, 35, 36, 37, 38, 39, 40, 41, 42, 43, 44, 45, 46, 47, 48, 77, 78, 67, 68, 69, 70, 71, 72, 73, 74] (by decide +kernel) (by decide +kernel)
set_option maxRecDepth 20000 in
theorem gX7_word_X3_record : GoodIn wsX7_word (wsV RX7 80 RX3 yX3_record wsX3_record) := goodIn_app (goodIn_of _ (by decide +kernel)) ggX7_word_X3_record
set_option maxRecDepth 20000 in
theorem ggX7_word_X2_addWord : GoodIn wsX7_word wsX2_addWord := goodIn_r _ [52, 45, 53, 48, 46, 47, 54, 17, 18, 9, 19, 20, 67, 68, 69, 70, 71, 72, 73, 74, 75, 76] (by decide +kernel) (by decide +kernel)
set_option maxRecDepth 20000 in
theorem gX7_word_X2_addWord : GoodIn wsX7_word (wsV RX7 116 RX2 yX2_addWord wsX2_addWord) := goodIn_app (goodIn_of _ (by decide +kernel)) ggX7_word_X2_addWord
theorem dX7_word_0 : decode cX7_word 0 = .ok (.aload_n 0, 1) := by decide +kernel
theorem dX7_word_1 : decode cX7_word 1 = .ok (.getfield 37, 3) := by decide +kernel
theorem dX7_word_4 : decode cX7_word 4 = .ok (.bipush 12, 2) := by decide +kernel
theorem dX7_word_6 : decode cX7_word 6 = .ok (.invokevirtual 110, 3) := by decide +kernel
theorem dX7_word_9 : decode cX7_word 9 = .ok (.ifCond .ne 6, 3) := by decide +kernel
theorem dX7_word_12 : decode cX7_word 12 = .ok (.bipush (-3), 2) := by decide +kernel
theorem dX7_word_14 : decode cX7_word 14 = .ok (.ireturn, 1) := by decide +kernel
theorem dX7_word_15 : decode cX7_word 15 = .ok (.iload_n 1, 1) := by decide +kernel
theorem dX7_word_16 : decode cX7_word 16 = .ok (.iconst 1, 1) := by decide +kernel
theorem dX7_word_17 : decode cX7_word 17 = .ok (.if_icmp .lt 9, 3) := by decide +kernel
theorem dX7_word_20 : decode cX7_word 20 = .ok (.iload_n 1, 1) := by decide +kernel
theorem dX7_word_21 : decode cX7_word 21 = .ok (.bipush 99, 2) := by decide +kernel
theorem dX7_word_23 : decode cX7_word 23 = .ok (.if_icmp .le 6, 3) := by decide +kernel
theorem dX7_word_26 : decode cX7_word 26 = .ok (.bipush (-2), 2) := by decide +kernel
theorem dX7_word_28 : decode cX7_word 28 = .ok (.ireturn, 1) := by decide +kernel
theorem dX7_word_29 : decode cX7_word 29 = .ok (.aload_n 0, 1) := by decide +kernel
theorem dX7_word_30 : decode cX7_word 30 = .ok (.getfield 10, 3) := by decide +kernel
theorem dX7_word_33 : decode cX7_word 33 = .ok (.getfield 113, 3) := by decide +kernel
theorem dX7_word_36 : decode cX7_word 36 = .ok (.bipush 8, 2) := by decide +kernel
theorem dX7_word_38 : decode cX7_word 38 = .ok (.if_icmp .lt 6, 3) := by decide +kernel
theorem dX7_word_41 : decode cX7_word 41 = .ok (.bipush (-4), 2) := by decide +kernel
theorem dX7_word_43 : decode cX7_word 43 = .ok (.ireturn, 1) := by decide +kernel
theorem dX7_word_44 : decode cX7_word 44 = .ok (.aload_n 0, 1) := by decide +kernel
theorem dX7_word_45 : decode cX7_word 45 = .ok (.getfield 30, 3) := by decide +kernel
theorem dX7_word_48 : decode cX7_word 48 = .ok (.aload_n 0, 1) := by decide +kernel
theorem dX7_word_49 : decode cX7_word 49 = .ok (.getfield 10, 3) := by decide +kernel
theorem dX7_word_52 : decode cX7_word 52 = .ok (.invokevirtual 80, 3) := by decide +kernel
theorem dX7_word_55 : decode cX7_word 55 = .ok (.aload_n 0, 1) := by decide +kernel
theorem dX7_word_56 : decode cX7_word 56 = .ok (.getfield 10, 3) := by decide +kernel
theorem dX7_word_59 : decode cX7_word 59 = .ok (.aload_n 0, 1) := by decide +kernel
theorem dX7_word_60 : decode cX7_word 60 = .ok (.getfield 37, 3) := by decide +kernel
theorem dX7_word_63 : decode cX7_word 63 = .ok (.iload_n 1, 1) := by decide +kernel
theorem dX7_word_64 : decode cX7_word 64 = .ok (.invokevirtual 116, 3) := by decide +kernel
theorem dX7_word_67 : decode cX7_word 67 = .ok (.aload_n 0, 1) := by decide +kernel
theorem dX7_word_68 : decode cX7_word 68 = .ok (.getfield 37, 3) := by decide +kernel
theorem dX7_word_71 : decode cX7_word 71 = .ok (.iconst 0, 1) := by decide +kernel
theorem dX7_word_72 : decode cX7_word 72 = .ok (.putfield 88, 3) := by decide +kernel
theorem dX7_word_75 : decode cX7_word 75 = .ok (.aload_n 0, 1) := by decide +kernel
theorem dX7_word_76 : decode cX7_word 76 = .ok (.getfield 10, 3) := by decide +kernel
theorem dX7_word_79 : decode cX7_word 79 = .ok (.getfield 113, 3) := by decide +kernel
theorem dX7_word_82 : decode cX7_word 82 = .ok (.iconst 1, 1) := by decide +kernel
theorem dX7_word_83 : decode cX7_word 83 = .ok (.isub, 1) := by decide +kernel
theorem dX7_word_84 : decode cX7_word 84 = .ok (.ireturn, 1) := by decide +kernel
set_option maxRecDepth 20000 in
theorem ggX7_forget_X7_isWord : GoodIn wsX7_forget wsX7_isWord := goodIn_r _ [8, 2, 3, 41, 42, 43, 44, 45, 46, 47, 48, 49, 50, 51, 52, 53, 54, 55, 56, 57, 58, 59, 60] (by decide +kernel) (by decide +kernel)
set_option maxRecDepth 20000 in
theorem gX7_forget_X7_isWord : GoodIn wsX7_forget (wsV RX7 120 RX7 yX7_isWord wsX7_isWord) := goodIn_app (goodIn_of _ (by decide +kernel)) ggX7_forget_X7_isWord
set_option maxRecDepth 20000 in
theorem ggX7_forget_X3_record : GoodIn wsX7_forget wsX3_record := goodIn_r _ [13, 14, 15, 16, 17, 18, 12, 19, 20, 21, 22, 23, 24, 25, 26, 27, 28, 29, 30, 31, 32, 33, 34, 35, 36, 61, 62, 53, 54, 55, 56, 57, 58, 59, 60] (by decide +kernel) (by decide +kernel)
set_option maxRecDepth 20000 in
theorem gX7_forget_X3_record : GoodIn wsX7_forget (wsV RX7 80 RX3 yX3_record wsX3_record) := goodIn_app (goodIn_of _ (by decide +kernel)) ggX7_forget_X3_record
set_option maxRecDepth 20000 in
theorem ggX7_forget_X2_removeWord : GoodIn wsX7_forget wsX2_removeWord := goodIn_r _ [40, 33, 34, 27, 28, 29, 30, 35, 36, 53, 54, 55, 56, 57, 58, 59, 60] (by decide +kernel) (by decide +kernel)
set_option maxRecDepth 20000 in
theorem gX7_forget_X2_removeWord : GoodIn wsX7_forget (wsV RX7 126 RX2 yX2_removeWord wsX2_removeWord) := goodIn_app (goodIn_of _ (by decide +kernel)) ggX7_forget_X2_removeWord
theorem dX7_forget_0 : decode cX7_forget 0 = .ok (.aload_n 0, 1) := by decide +kernel
theorem dX7_forget_1 : decode cX7_forget 1 = .ok (.iload_n 1, 1) := by decide +kernel
theorem dX7_forget_2 : decode cX7_forget 2 = .ok (.invokevirtual 120, 3) := by decide +kernel
theorem dX7_forget_5 : decode cX7_forget 5 = .ok (.ifCond .ne 5, 3) := by decide +kernel
theorem dX7_forget_8 : decode cX7_forget 8 = .ok (.iconst (-1), 1) := by decide +kernel
theorem dX7_forget_9 : decode cX7_forget 9 = .ok (.ireturn, 1) := by decide +kernel
theorem dX7_forget_10 : decode cX7_forget 10 = .ok (.aload_n 0, 1) := by decide +kernel
theorem dX7_forget_11 : decode cX7_forget 11 = .ok (.getfield 30, 3) := by decide +kernel
theorem dX7_forget_14 : decode cX7_forget 14 = .ok (.aload_n 0, 1) := by decide +kernel
theorem dX7_forget_15 : decode cX7_forget 15 = .ok (.getfield 10, 3) := by decide +kernel
theorem dX7_forget_18 : decode cX7_forget 18 = .ok (.invokevirtual 80, 3) := by decide +kernel
theorem dX7_forget_21 : decode cX7_forget 21 = .ok (.aload_n 0, 1) := by decide +kernel
theorem dX7_forget_22 : decode cX7_forget 22 = .ok (.getfield 10, 3) := by decide +kernel
theorem dX7_forget_25 : decode cX7_forget 25 = .ok (.iload_n 1, 1) := by decide +kernel
theorem dX7_forget_26 : decode cX7_forget 26 = .ok (.invokevirtual 126, 3) := by decide +kernel
theorem dX7_forget_29 : decode cX7_forget 29 = .ok (.aload_n 0, 1) := by decide +kernel
theorem dX7_forget_30 : decode cX7_forget 30 = .ok (.getfield 10, 3) := by decide +kernel
theorem dX7_forget_33 : decode cX7_forget 33 = .ok (.getfield 113, 3) := by decide +kernel
theorem dX7_forget_36 : decode cX7_forget 36 = .ok (.ireturn, 1) := by decide +kernel
set_option maxRecDepth 20000 in
theorem ggX7_tune_X3_record : GoodIn wsX7_tune wsX3_record := goodIn_r _ [14, 15, 16, 17, 18, 19, 13, 20, 21, 22, 23, 24, 25, 26, 27, 28, 29, 30, 31, 32, 33, 34, 35, 36, 37, 136, 137, 128, 129, 130, 131, 132, 133, 134, 135] (by decide +kernel) (by decide +kernel)
set_option maxRecDepth 20000 in
theorem gX7_tune_X3_record : GoodIn wsX7_tune (wsV RX7 80 RX3 yX3_record wsX3_record) := goodIn_app (goodIn_of _ (by decide +kernel)) ggX7_tune_X3_record
set_option maxRecDepth 20000 in
theorem ggX7_tune_X7_bearAll : GoodIn wsX7_tune wsX7_bearAll := goodIn_r _ [42, 4, 2, 43, 44, 45, 3, 46, 47, 48, 49, 50, 51, 52, 53, 54, 55, 56, 57, 58, 59, 60, 29, 30, 31, 61, 62, 63, 64, 65, 66, 67, 68, 7, 69, 70, 71, 72, 24, 73, 37, 74, 75, 76, 77, 78, 79, 80, 26, 27, 81, 82, 83, 84, 85, 86, 87, 88, 89, 90, 91, 92, 93, 94, 95, 96, 97, 98, 99, 100, 101, 102, 103, 104, 105, 106, 107, 108, 109, 110, 111, 112, 113, 114, 115, 116, 117, 118, 119, 120, 121, 122, 123, 124, 125, 126, 127, 128, 129, 130, 131, 132, 133, 134, 135, 138, 139, 140, 141, 142, 143, 144] (by decide +kernel) (by decide +kernel)
set_option maxRecDepth 20000 in
theorem gX7_tune_X7_bearAll : GoodIn wsX7_tune (wsV RX7 140 RX7 yX7_bearAll wsX7_bearAll) := goodIn_app (goodIn_of _ (by decide +kernel)) ggX7_tune_X7_bearAll
theorem dX7_tune_0 : decode cX7_tune 0 = .ok (.aload_n 0, 1) := by decide +kernel
theorem dX7_tune_1 : decode cX7_tune 1 = .ok (.getfield 30, 3) := by decide +kernel
theorem dX7_tune_4 : decode cX7_tune 4 = .ok (.aload_n 0, 1) := by decide +kernel
theorem dX7_tune_5 : decode cX7_tune 5 = .ok (.getfield 10, 3) := by decide +kernel
theorem dX7_tune_8 : decode cX7_tune 8 = .ok (.invokevirtual 80, 3) := by decide +kernel
theorem dX7_tune_11 : decode cX7_tune 11 = .ok (.aload_n 0, 1) := by decide +kernel
theorem dX7_tune_12 : decode cX7_tune 12 = .ok (.invokevirtual 140, 3) := by decide +kernel
theorem dX7_tune_15 : decode cX7_tune 15 = .ok (.iconst 0, 1) := by decide +kernel
theorem dX7_tune_16 : decode cX7_tune 16 = .ok (.istore_n 1, 1) := by decide +kernel
theorem dX7_tune_17 : decode cX7_tune 17 = .ok (.iconst 0, 1) := by decide +kernel
theorem dX7_tune_18 : decode cX7_tune 18 = .ok (.istore_n 2, 1) := by decide +kernel
theorem dX7_tune_19 : decode cX7_tune 19 = .ok (.iload_n 2, 1) := by decide +kernel
theorem dX7_tune_20 : decode cX7_tune 20 = .ok (.aload_n 0, 1) := by decide +kernel
theorem dX7_tune_21 : decode cX7_tune 21 = .ok (.getfield 10, 3) := by decide +kernel
theorem dX7_tune_24 : decode cX7_tune 24 = .ok (.getfield 96, 3) := by decide +kernel
theorem dX7_tune_27 : decode cX7_tune 27 = .ok (.if_icmp .ge 20, 3) := by decide +kernel
theorem dX7_tune_30 : decode cX7_tune 30 = .ok (.iload_n 1, 1) := by decide +kernel
theorem dX7_tune_31 : decode cX7_tune 31 = .ok (.aload_n 0, 1) := by decide +kernel
theorem dX7_tune_32 : decode cX7_tune 32 = .ok (.getfield 69, 3) := by decide +kernel
theorem dX7_tune_35 : decode cX7_tune 35 = .ok (.iload_n 2, 1) := by decide +kernel
theorem dX7_tune_36 : decode cX7_tune 36 = .ok (.iaload, 1) := by decide +kernel
theorem dX7_tune_37 : decode cX7_tune 37 = .ok (.invokestatic 143, 3) := by decide +kernel
theorem dX7_tune_40 : decode cX7_tune 40 = .ok (.istore_n 1, 1) := by decide +kernel
theorem dX7_tune_41 : decode cX7_tune 41 = .ok (.iinc 2 1, 3) := by decide +kernel
theorem dX7_tune_44 : decode cX7_tune 44 = .ok (.goto (-25), 3) := by decide +kernel
theorem dX7_tune_47 : decode cX7_tune 47 = .ok (.iconst 0, 1) := by decide +kernel
theorem dX7_tune_48 : decode cX7_tune 48 = .ok (.istore_n 2, 1) := by decide +kernel
theorem dX7_tune_49 : decode cX7_tune 49 = .ok (.iconst 0, 1) := by decide +kernel
theorem dX7_tune_50 : decode cX7_tune 50 = .ok (.istore_n 3, 1) := by decide +kernel
theorem dX7_tune_51 : decode cX7_tune 51 = .ok (.iload_n 3, 1) := by decide +kernel
theorem dX7_tune_52 : decode cX7_tune 52 = .ok (.aload_n 0, 1) := by decide +kernel
theorem dX7_tune_53 : decode cX7_tune 53 = .ok (.getfield 10, 3) := by decide +kernel
theorem dX7_tune_56 : decode cX7_tune 56 = .ok (.getfield 96, 3) := by decide +kernel
theorem dX7_tune_59 : decode cX7_tune 59 = .ok (.if_icmp .ge 60, 3) := by decide +kernel
theorem dX7_tune_62 : decode cX7_tune 62 = .ok (.iload_n 1, 1) := by decide +kernel
theorem dX7_tune_63 : decode cX7_tune 63 = .ok (.ifCond .le 19, 3) := by decide +kernel
theorem dX7_tune_66 : decode cX7_tune 66 = .ok (.iconst 1, 1) := by decide +kernel
theorem dX7_tune_67 : decode cX7_tune 67 = .ok (.bipush 8, 2) := by decide +kernel
theorem dX7_tune_69 : decode cX7_tune 69 = .ok (.aload_n 0, 1) := by decide +kernel
theorem dX7_tune_70 : decode cX7_tune 70 = .ok (.getfield 69, 3) := by decide +kernel
theorem dX7_tune_73 : decode cX7_tune 73 = .ok (.iload_n 3, 1) := by decide +kernel
