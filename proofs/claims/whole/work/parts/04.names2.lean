theorem dX5_add_98 : decode cX5_add 98 = .ok (.iconst 1, 1) := by decide +kernel
theorem dX5_add_99 : decode cX5_add 99 = .ok (.iadd, 1) := by decide +kernel
theorem dX5_add_100 : decode cX5_add 100 = .ok (.putfield 24, 3) := by decide +kernel
theorem dX5_add_103 : decode cX5_add 103 = .ok (.return_, 1) := by decide +kernel
theorem dX5_mostFrequent_0 : decode cX5_mostFrequent 0 = .ok (.iconst (-1), 1) := by decide +kernel
theorem dX5_mostFrequent_1 : decode cX5_mostFrequent 1 = .ok (.istore_n 1, 1) := by decide +kernel
theorem dX5_mostFrequent_2 : decode cX5_mostFrequent 2 = .ok (.iconst 0, 1) := by decide +kernel
theorem dX5_mostFrequent_3 : decode cX5_mostFrequent 3 = .ok (.istore_n 2, 1) := by decide +kernel
theorem dX5_mostFrequent_4 : decode cX5_mostFrequent 4 = .ok (.iload_n 2, 1) := by decide +kernel
theorem dX5_mostFrequent_5 : decode cX5_mostFrequent 5 = .ok (.aload_n 0, 1) := by decide +kernel
theorem dX5_mostFrequent_6 : decode cX5_mostFrequent 6 = .ok (.getfield 24, 3) := by decide +kernel
theorem dX5_mostFrequent_9 : decode cX5_mostFrequent 9 = .ok (.if_icmp .ge 60, 3) := by decide +kernel
theorem dX5_mostFrequent_12 : decode cX5_mostFrequent 12 = .ok (.iload_n 1, 1) := by decide +kernel
theorem dX5_mostFrequent_13 : decode cX5_mostFrequent 13 = .ok (.ifCond .lt 48, 3) := by decide +kernel
theorem dX5_mostFrequent_16 : decode cX5_mostFrequent 16 = .ok (.aload_n 0, 1) := by decide +kernel
theorem dX5_mostFrequent_17 : decode cX5_mostFrequent 17 = .ok (.getfield 21, 3) := by decide +kernel
theorem dX5_mostFrequent_20 : decode cX5_mostFrequent 20 = .ok (.iload_n 2, 1) := by decide +kernel
theorem dX5_mostFrequent_21 : decode cX5_mostFrequent 21 = .ok (.iaload, 1) := by decide +kernel
theorem dX5_mostFrequent_22 : decode cX5_mostFrequent 22 = .ok (.aload_n 0, 1) := by decide +kernel
theorem dX5_mostFrequent_23 : decode cX5_mostFrequent 23 = .ok (.getfield 21, 3) := by decide +kernel
theorem dX5_mostFrequent_26 : decode cX5_mostFrequent 26 = .ok (.iload_n 1, 1) := by decide +kernel
theorem dX5_mostFrequent_27 : decode cX5_mostFrequent 27 = .ok (.iaload, 1) := by decide +kernel
theorem dX5_mostFrequent_28 : decode cX5_mostFrequent 28 = .ok (.if_icmp .gt 33, 3) := by decide +kernel
theorem dX5_mostFrequent_31 : decode cX5_mostFrequent 31 = .ok (.aload_n 0, 1) := by decide +kernel
theorem dX5_mostFrequent_32 : decode cX5_mostFrequent 32 = .ok (.getfield 21, 3) := by decide +kernel
theorem dX5_mostFrequent_35 : decode cX5_mostFrequent 35 = .ok (.iload_n 2, 1) := by decide +kernel
theorem dX5_mostFrequent_36 : decode cX5_mostFrequent 36 = .ok (.iaload, 1) := by decide +kernel
theorem dX5_mostFrequent_37 : decode cX5_mostFrequent 37 = .ok (.aload_n 0, 1) := by decide +kernel
theorem dX5_mostFrequent_38 : decode cX5_mostFrequent 38 = .ok (.getfield 21, 3) := by decide +kernel
theorem dX5_mostFrequent_41 : decode cX5_mostFrequent 41 = .ok (.iload_n 1, 1) := by decide +kernel
theorem dX5_mostFrequent_42 : decode cX5_mostFrequent 42 = .ok (.iaload, 1) := by decide +kernel
theorem dX5_mostFrequent_43 : decode cX5_mostFrequent 43 = .ok (.if_icmp .ne 20, 3) := by decide +kernel
theorem dX5_mostFrequent_46 : decode cX5_mostFrequent 46 = .ok (.aload_n 0, 1) := by decide +kernel
theorem dX5_mostFrequent_47 : decode cX5_mostFrequent 47 = .ok (.getfield 11, 3) := by decide +kernel
theorem dX5_mostFrequent_50 : decode cX5_mostFrequent 50 = .ok (.iload_n 2, 1) := by decide +kernel
theorem dX5_mostFrequent_51 : decode cX5_mostFrequent 51 = .ok (.iaload, 1) := by decide +kernel
theorem dX5_mostFrequent_52 : decode cX5_mostFrequent 52 = .ok (.aload_n 0, 1) := by decide +kernel
theorem dX5_mostFrequent_53 : decode cX5_mostFrequent 53 = .ok (.getfield 11, 3) := by decide +kernel
theorem dX5_mostFrequent_56 : decode cX5_mostFrequent 56 = .ok (.iload_n 1, 1) := by decide +kernel
theorem dX5_mostFrequent_57 : decode cX5_mostFrequent 57 = .ok (.iaload, 1) := by decide +kernel
theorem dX5_mostFrequent_58 : decode cX5_mostFrequent 58 = .ok (.if_icmp .ge 5, 3) := by decide +kernel
theorem dX5_mostFrequent_61 : decode cX5_mostFrequent 61 = .ok (.iload_n 2, 1) := by decide +kernel
theorem dX5_mostFrequent_62 : decode cX5_mostFrequent 62 = .ok (.istore_n 1, 1) := by decide +kernel
theorem dX5_mostFrequent_63 : decode cX5_mostFrequent 63 = .ok (.iinc 2 1, 3) := by decide +kernel
theorem dX5_mostFrequent_66 : decode cX5_mostFrequent 66 = .ok (.goto (-62), 3) := by decide +kernel
theorem dX5_mostFrequent_69 : decode cX5_mostFrequent 69 = .ok (.iload_n 1, 1) := by decide +kernel
theorem dX5_mostFrequent_70 : decode cX5_mostFrequent 70 = .ok (.ireturn, 1) := by decide +kernel
theorem dX6_init_0 : decode cX6_init 0 = .ok (.aload_n 0, 1) := by decide +kernel
theorem dX6_init_1 : decode cX6_init 1 = .ok (.invokespecial 3, 3) := by decide +kernel
theorem dX6_init_4 : decode cX6_init 4 = .ok (.aload_n 0, 1) := by decide +kernel
theorem dX6_init_5 : decode cX6_init 5 = .ok (.bipush 16, 2) := by decide +kernel
theorem dX6_init_7 : decode cX6_init 7 = .ok (.newarray .int, 2) := by decide +kernel
theorem dX6_init_9 : decode cX6_init 9 = .ok (.putfield 9, 3) := by decide +kernel
theorem dX6_init_12 : decode cX6_init 12 = .ok (.return_, 1) := by decide +kernel
theorem dX6_append_0 : decode cX6_append 0 = .ok (.aload_n 0, 1) := by decide +kernel
theorem dX6_append_1 : decode cX6_append 1 = .ok (.getfield 15, 3) := by decide +kernel
theorem dX6_append_4 : decode cX6_append 4 = .ok (.bipush 16, 2) := by decide +kernel
theorem dX6_append_6 : decode cX6_append 6 = .ok (.if_icmp .lt 4, 3) := by decide +kernel
theorem dX6_append_9 : decode cX6_append 9 = .ok (.return_, 1) := by decide +kernel
theorem dX6_append_10 : decode cX6_append 10 = .ok (.aload_n 0, 1) := by decide +kernel
theorem dX6_append_11 : decode cX6_append 11 = .ok (.getfield 9, 3) := by decide +kernel
theorem dX6_append_14 : decode cX6_append 14 = .ok (.aload_n 0, 1) := by decide +kernel
theorem dX6_append_15 : decode cX6_append 15 = .ok (.getfield 15, 3) := by decide +kernel
theorem dX6_append_18 : decode cX6_append 18 = .ok (.iload_n 1, 1) := by decide +kernel
theorem dX6_append_19 : decode cX6_append 19 = .ok (.iastore, 1) := by decide +kernel
theorem dX6_append_20 : decode cX6_append 20 = .ok (.aload_n 0, 1) := by decide +kernel
theorem dX6_append_21 : decode cX6_append 21 = .ok (.dup, 1) := by decide +kernel
theorem dX6_append_22 : decode cX6_append 22 = .ok (.getfield 15, 3) := by decide +kernel
theorem dX6_append_25 : decode cX6_append 25 = .ok (.iconst 1, 1) := by decide +kernel
theorem dX6_append_26 : decode cX6_append 26 = .ok (.iadd, 1) := by decide +kernel
theorem dX6_append_27 : decode cX6_append 27 = .ok (.putfield 15, 3) := by decide +kernel
theorem dX6_append_30 : decode cX6_append 30 = .ok (.return_, 1) := by decide +kernel
theorem dX6_letterAt_0 : decode cX6_letterAt 0 = .ok (.aload_n 0, 1) := by decide +kernel
theorem dX6_letterAt_1 : decode cX6_letterAt 1 = .ok (.getfield 9, 3) := by decide +kernel
theorem dX6_letterAt_4 : decode cX6_letterAt 4 = .ok (.iload_n 1, 1) := by decide +kernel
theorem dX6_letterAt_5 : decode cX6_letterAt 5 = .ok (.iaload, 1) := by decide +kernel
theorem dX6_letterAt_6 : decode cX6_letterAt 6 = .ok (.bipush 97, 2) := by decide +kernel
theorem dX6_letterAt_8 : decode cX6_letterAt 8 = .ok (.isub, 1) := by decide +kernel
theorem dX6_letterAt_9 : decode cX6_letterAt 9 = .ok (.ireturn, 1) := by decide +kernel
set_option maxRecDepth 20000 in
theorem ggX6_firstNoLetter_X6_letterAt : GoodIn wsX6_firstNoLetter wsX6_letterAt := goodIn_r _ [6, 7, 8, 9] (by decide +kernel) (by decide +kernel)
set_option maxRecDepth 20000 in
theorem gX6_firstNoLetter_X6_letterAt : GoodIn wsX6_firstNoLetter (wsV RX6 19 RX6 yX6_letterAt wsX6_letterAt) := goodIn_app (goodIn_of _ (by decide +kernel)) ggX6_firstNoLetter_X6_letterAt
theorem dX6_firstNoLetter_0 : decode cX6_firstNoLetter 0 = .ok (.iconst 0, 1) := by decide +kernel
theorem dX6_firstNoLetter_1 : decode cX6_firstNoLetter 1 = .ok (.istore_n 1, 1) := by decide +kernel
theorem dX6_firstNoLetter_2 : decode cX6_firstNoLetter 2 = .ok (.iload_n 1, 1) := by decide +kernel
theorem dX6_firstNoLetter_3 : decode cX6_firstNoLetter 3 = .ok (.aload_n 0, 1) := by decide +kernel
theorem dX6_firstNoLetter_4 : decode cX6_firstNoLetter 4 = .ok (.getfield 15, 3) := by decide +kernel
theorem dX6_firstNoLetter_7 : decode cX6_firstNoLetter 7 = .ok (.if_icmp .ge 27, 3) := by decide +kernel
theorem dX6_firstNoLetter_10 : decode cX6_firstNoLetter 10 = .ok (.aload_n 0, 1) := by decide +kernel
theorem dX6_firstNoLetter_11 : decode cX6_firstNoLetter 11 = .ok (.iload_n 1, 1) := by decide +kernel
theorem dX6_firstNoLetter_12 : decode cX6_firstNoLetter 12 = .ok (.invokevirtual 19, 3) := by decide +kernel
theorem dX6_firstNoLetter_15 : decode cX6_firstNoLetter 15 = .ok (.ifCond .lt 19, 3) := by decide +kernel
theorem dX6_firstNoLetter_18 : decode cX6_firstNoLetter 18 = .ok (.aload_n 0, 1) := by decide +kernel
theorem dX6_firstNoLetter_19 : decode cX6_firstNoLetter 19 = .ok (.iload_n 1, 1) := by decide +kernel
theorem dX6_firstNoLetter_20 : decode cX6_firstNoLetter 20 = .ok (.invokevirtual 19, 3) := by decide +kernel
theorem dX6_firstNoLetter_23 : decode cX6_firstNoLetter 23 = .ok (.bipush 6, 2) := by decide +kernel
theorem dX6_firstNoLetter_25 : decode cX6_firstNoLetter 25 = .ok (.if_icmp .ge 9, 3) := by decide +kernel
theorem dX6_firstNoLetter_28 : decode cX6_firstNoLetter 28 = .ok (.iinc 1 1, 3) := by decide +kernel
theorem dX6_firstNoLetter_31 : decode cX6_firstNoLetter 31 = .ok (.goto (-29), 3) := by decide +kernel
theorem dX6_firstNoLetter_34 : decode cX6_firstNoLetter 34 = .ok (.iload_n 1, 1) := by decide +kernel
theorem dX6_firstNoLetter_35 : decode cX6_firstNoLetter 35 = .ok (.ireturn, 1) := by decide +kernel
set_option maxRecDepth 20000 in
theorem ggX6_holdsLetters_X6_firstNoLetter : GoodIn wsX6_holdsLetters wsX6_firstNoLetter := goodIn_r _ [6, 1, 7, 8, 9, 5, 10, 11, 12, 13] (by decide +kernel) (by decide +kernel)
set_option maxRecDepth 20000 in
theorem gX6_holdsLetters_X6_firstNoLetter : GoodIn wsX6_holdsLetters (wsV RX6 23 RX6 yX6_firstNoLetter wsX6_firstNoLetter) := goodIn_app (goodIn_of _ (by decide +kernel)) ggX6_holdsLetters_X6_firstNoLetter
theorem dX6_holdsLetters_0 : decode cX6_holdsLetters 0 = .ok (.aload_n 0, 1) := by decide +kernel
theorem dX6_holdsLetters_1 : decode cX6_holdsLetters 1 = .ok (.getfield 15, 3) := by decide +kernel
theorem dX6_holdsLetters_4 : decode cX6_holdsLetters 4 = .ok (.iconst 1, 1) := by decide +kernel
theorem dX6_holdsLetters_5 : decode cX6_holdsLetters 5 = .ok (.if_icmp .lt 26, 3) := by decide +kernel
theorem dX6_holdsLetters_8 : decode cX6_holdsLetters 8 = .ok (.aload_n 0, 1) := by decide +kernel
theorem dX6_holdsLetters_9 : decode cX6_holdsLetters 9 = .ok (.getfield 15, 3) := by decide +kernel
theorem dX6_holdsLetters_12 : decode cX6_holdsLetters 12 = .ok (.iload_n 1, 1) := by decide +kernel
theorem dX6_holdsLetters_13 : decode cX6_holdsLetters 13 = .ok (.if_icmp .gt 18, 3) := by decide +kernel
theorem dX6_holdsLetters_16 : decode cX6_holdsLetters 16 = .ok (.aload_n 0, 1) := by decide +kernel
theorem dX6_holdsLetters_17 : decode cX6_holdsLetters 17 = .ok (.invokevirtual 23, 3) := by decide +kernel
theorem dX6_holdsLetters_20 : decode cX6_holdsLetters 20 = .ok (.aload_n 0, 1) := by decide +kernel
theorem dX6_holdsLetters_21 : decode cX6_holdsLetters 21 = .ok (.getfield 15, 3) := by decide +kernel
theorem dX6_holdsLetters_24 : decode cX6_holdsLetters 24 = .ok (.if_icmp .ne 7, 3) := by decide +kernel
theorem dX6_holdsLetters_27 : decode cX6_holdsLetters 27 = .ok (.iconst 1, 1) := by decide +kernel
theorem dX6_holdsLetters_28 : decode cX6_holdsLetters 28 = .ok (.goto 4, 3) := by decide +kernel
theorem dX6_holdsLetters_31 : decode cX6_holdsLetters 31 = .ok (.iconst 0, 1) := by decide +kernel
theorem dX6_holdsLetters_32 : decode cX6_holdsLetters 32 = .ok (.ireturn, 1) := by decide +kernel
set_option maxRecDepth 20000 in
theorem ggX6_text_X6_letterAt : GoodIn wsX6_text wsX6_letterAt := goodIn_r _ [6, 7, 8, 9] (by decide +kernel) (by decide +kernel)
set_option maxRecDepth 20000 in
theorem gX6_text_X6_letterAt : GoodIn wsX6_text (wsV RX6 19 RX6 yX6_letterAt wsX6_letterAt) := goodIn_app (goodIn_of _ (by decide +kernel)) ggX6_text_X6_letterAt
theorem dX6_text_0 : decode cX6_text 0 = .ok (.iconst 0, 1) := by decide +kernel
theorem dX6_text_1 : decode cX6_text 1 = .ok (.istore_n 1, 1) := by decide +kernel
theorem dX6_text_2 : decode cX6_text 2 = .ok (.iconst 0, 1) := by decide +kernel
theorem dX6_text_3 : decode cX6_text 3 = .ok (.istore_n 2, 1) := by decide +kernel
theorem dX6_text_4 : decode cX6_text 4 = .ok (.iload_n 2, 1) := by decide +kernel
theorem dX6_text_5 : decode cX6_text 5 = .ok (.aload_n 0, 1) := by decide +kernel
theorem dX6_text_6 : decode cX6_text 6 = .ok (.getfield 15, 3) := by decide +kernel
theorem dX6_text_9 : decode cX6_text 9 = .ok (.if_icmp .ge 21, 3) := by decide +kernel
theorem dX6_text_12 : decode cX6_text 12 = .ok (.iload_n 1, 1) := by decide +kernel
theorem dX6_text_13 : decode cX6_text 13 = .ok (.iconst 3, 1) := by decide +kernel
theorem dX6_text_14 : decode cX6_text 14 = .ok (.ishl, 1) := by decide +kernel
theorem dX6_text_15 : decode cX6_text 15 = .ok (.aload_n 0, 1) := by decide +kernel
theorem dX6_text_16 : decode cX6_text 16 = .ok (.iload_n 2, 1) := by decide +kernel
theorem dX6_text_17 : decode cX6_text 17 = .ok (.invokevirtual 19, 3) := by decide +kernel
theorem dX6_text_20 : decode cX6_text 20 = .ok (.iconst 1, 1) := by decide +kernel
theorem dX6_text_21 : decode cX6_text 21 = .ok (.iadd, 1) := by decide +kernel
theorem dX6_text_22 : decode cX6_text 22 = .ok (.ior, 1) := by decide +kernel
theorem dX6_text_23 : decode cX6_text 23 = .ok (.istore_n 1, 1) := by decide +kernel
theorem dX6_text_24 : decode cX6_text 24 = .ok (.iinc 2 1, 3) := by decide +kernel
theorem dX6_text_27 : decode cX6_text 27 = .ok (.goto (-23), 3) := by decide +kernel
theorem dX6_text_30 : decode cX6_text 30 = .ok (.iload_n 1, 1) := by decide +kernel
theorem dX6_text_31 : decode cX6_text 31 = .ok (.ireturn, 1) := by decide +kernel
set_option maxRecDepth 20000 in
theorem ggX7_init_X2_init : GoodIn wsX7_init wsX2_init := goodIn_r _ [40, 41, 2, 3, 36, 42, 43, 44, 45, 46, 47, 87, 88, 89, 90, 91, 92, 93, 94] (by decide +kernel) (by decide +kernel)
set_option maxRecDepth 20000 in
theorem gX7_init_X2_init_n9 : GoodIn wsX7_init (wsX2_init) := ggX7_init_X2_init
set_option maxRecDepth 20000 in
theorem ggX7_init_X3_init : GoodIn wsX7_init wsX3_init := goodIn_r _ [50, 51, 2, 3, 52, 53, 5, 6, 39, 40, 41, 36, 42, 43, 44, 45, 46, 47, 107, 108, 87, 88, 89, 90, 91, 92, 93, 94] (by decide +kernel) (by decide +kernel)
set_option maxRecDepth 20000 in
theorem gX7_init_X3_init : GoodIn wsX7_init (wsX3_init) := ggX7_init_X3_init
set_option maxRecDepth 20000 in
theorem ggX7_init_X6_init : GoodIn wsX7_init wsX6_init := goodIn_r _ [55, 56, 2, 3, 36, 57, 109, 110] (by decide +kernel) (by decide +kernel)
set_option maxRecDepth 20000 in
theorem gX7_init_X6_init_n36 : GoodIn wsX7_init (wsX6_init) := ggX7_init_X6_init
set_option maxRecDepth 20000 in
theorem ggX7_init_X4_init : GoodIn wsX7_init wsX4_init := goodIn_r _ [59, 60, 2, 3, 36, 61, 62, 63, 111, 112, 113, 114] (by decide +kernel) (by decide +kernel)
set_option maxRecDepth 20000 in
theorem gX7_init_X4_init_n43 : GoodIn wsX7_init (wsX4_init) := ggX7_init_X4_init
set_option maxRecDepth 20000 in
theorem ggX7_init_X1_init : GoodIn wsX7_init wsX1_init := goodIn_r _ [65, 66, 2, 3, 67, 68, 36, 69, 70, 71, 72, 73, 115, 116, 117, 118, 119, 120, 121, 122] (by decide +kernel) (by decide +kernel)
set_option maxRecDepth 20000 in
theorem gX7_init_X1_init_n50 : GoodIn wsX7_init (wsX1_init) := ggX7_init_X1_init
set_option maxRecDepth 20000 in
theorem ggX7_init_X0_init : GoodIn wsX7_init wsX0_init := goodIn_r _ [75, 76, 2, 3, 67, 77, 78, 36, 79, 123, 124, 125] (by decide +kernel) (by decide +kernel)
set_option maxRecDepth 20000 in
theorem gX7_init_X0_init_n57 : GoodIn wsX7_init (wsX0_init) := ggX7_init_X0_init
set_option maxRecDepth 20000 in
theorem ggX7_init_X5_init : GoodIn wsX7_init wsX5_init := goodIn_r _ [81, 82, 2, 3, 36, 83, 84, 85, 86, 126, 127, 128, 129, 130] (by decide +kernel) (by decide +kernel)
set_option maxRecDepth 20000 in
theorem gX7_init_X5_init_n64 : GoodIn wsX7_init (wsX5_init) := ggX7_init_X5_init
theorem dX7_init_0 : decode cX7_init 0 = .ok (.aload_n 0, 1) := by decide +kernel
theorem dX7_init_1 : decode cX7_init 1 = .ok (.invokespecial 1, 3) := by decide +kernel
theorem dX7_init_4 : decode cX7_init 4 = .ok (.aload_n 0, 1) := by decide +kernel
theorem dX7_init_5 : decode cX7_init 5 = .ok (.new 7, 3) := by decide +kernel
theorem dX7_init_8 : decode cX7_init 8 = .ok (.dup, 1) := by decide +kernel
theorem dX7_init_9 : decode cX7_init 9 = .ok (.invokespecial 9, 3) := by decide +kernel
theorem dX7_init_12 : decode cX7_init 12 = .ok (.putfield 10, 3) := by decide +kernel
theorem dX7_init_15 : decode cX7_init 15 = .ok (.aload_n 0, 1) := by decide +kernel
theorem dX7_init_16 : decode cX7_init 16 = .ok (.new 7, 3) := by decide +kernel
theorem dX7_init_19 : decode cX7_init 19 = .ok (.dup, 1) := by decide +kernel
theorem dX7_init_20 : decode cX7_init 20 = .ok (.invokespecial 9, 3) := by decide +kernel
theorem dX7_init_23 : decode cX7_init 23 = .ok (.putfield 16, 3) := by decide +kernel
theorem dX7_init_26 : decode cX7_init 26 = .ok (.aload_n 0, 1) := by decide +kernel
theorem dX7_init_27 : decode cX7_init 27 = .ok (.iconst 2, 1) := by decide +kernel
theorem dX7_init_28 : decode cX7_init 28 = .ok (.anewarray 7, 3) := by decide +kernel
theorem dX7_init_31 : decode cX7_init 31 = .ok (.putfield 19, 3) := by decide +kernel
theorem dX7_init_34 : decode cX7_init 34 = .ok (.aload_n 0, 1) := by decide +kernel
theorem dX7_init_35 : decode cX7_init 35 = .ok (.iconst 2, 1) := by decide +kernel
theorem dX7_init_36 : decode cX7_init 36 = .ok (.newarray .boolean, 2) := by decide +kernel
theorem dX7_init_38 : decode cX7_init 38 = .ok (.putfield 23, 3) := by decide +kernel
theorem dX7_init_41 : decode cX7_init 41 = .ok (.aload_n 0, 1) := by decide +kernel
theorem dX7_init_42 : decode cX7_init 42 = .ok (.new 27, 3) := by decide +kernel
theorem dX7_init_45 : decode cX7_init 45 = .ok (.dup, 1) := by decide +kernel
theorem dX7_init_46 : decode cX7_init 46 = .ok (.invokespecial 29, 3) := by decide +kernel
theorem dX7_init_49 : decode cX7_init 49 = .ok (.putfield 30, 3) := by decide +kernel
theorem dX7_init_52 : decode cX7_init 52 = .ok (.aload_n 0, 1) := by decide +kernel
theorem dX7_init_53 : decode cX7_init 53 = .ok (.new 34, 3) := by decide +kernel
theorem dX7_init_56 : decode cX7_init 56 = .ok (.dup, 1) := by decide +kernel
theorem dX7_init_57 : decode cX7_init 57 = .ok (.invokespecial 36, 3) := by decide +kernel
theorem dX7_init_60 : decode cX7_init 60 = .ok (.putfield 37, 3) := by decide +kernel
theorem dX7_init_63 : decode cX7_init 63 = .ok (.aload_n 0, 1) := by decide +kernel
theorem dX7_init_64 : decode cX7_init 64 = .ok (.new 41, 3) := by decide +kernel
theorem dX7_init_67 : decode cX7_init 67 = .ok (.dup, 1) := by decide +kernel
theorem dX7_init_68 : decode cX7_init 68 = .ok (.invokespecial 43, 3) := by decide +kernel
theorem dX7_init_71 : decode cX7_init 71 = .ok (.putfield 44, 3) := by decide +kernel
theorem dX7_init_74 : decode cX7_init 74 = .ok (.aload_n 0, 1) := by decide +kernel
theorem dX7_init_75 : decode cX7_init 75 = .ok (.new 48, 3) := by decide +kernel
theorem dX7_init_78 : decode cX7_init 78 = .ok (.dup, 1) := by decide +kernel
theorem dX7_init_79 : decode cX7_init 79 = .ok (.invokespecial 50, 3) := by decide +kernel
theorem dX7_init_82 : decode cX7_init 82 = .ok (.putfield 51, 3) := by decide +kernel
theorem dX7_init_85 : decode cX7_init 85 = .ok (.aload_n 0, 1) := by decide +kernel
theorem dX7_init_86 : decode cX7_init 86 = .ok (.new 55, 3) := by decide +kernel
theorem dX7_init_89 : decode cX7_init 89 = .ok (.dup, 1) := by decide +kernel
theorem dX7_init_90 : decode cX7_init 90 = .ok (.invokespecial 57, 3) := by decide +kernel
theorem dX7_init_93 : decode cX7_init 93 = .ok (.putfield 58, 3) := by decide +kernel
theorem dX7_init_96 : decode cX7_init 96 = .ok (.aload_n 0, 1) := by decide +kernel
theorem dX7_init_97 : decode cX7_init 97 = .ok (.new 62, 3) := by decide +kernel
theorem dX7_init_100 : decode cX7_init 100 = .ok (.dup, 1) := by decide +kernel
theorem dX7_init_101 : decode cX7_init 101 = .ok (.invokespecial 64, 3) := by decide +kernel
theorem dX7_init_104 : decode cX7_init 104 = .ok (.putfield 65, 3) := by decide +kernel
theorem dX7_init_107 : decode cX7_init 107 = .ok (.aload_n 0, 1) := by decide +kernel
theorem dX7_init_108 : decode cX7_init 108 = .ok (.bipush 16, 2) := by decide +kernel
theorem dX7_init_110 : decode cX7_init 110 = .ok (.newarray .int, 2) := by decide +kernel
theorem dX7_init_112 : decode cX7_init 112 = .ok (.putfield 69, 3) := by decide +kernel
theorem dX7_init_115 : decode cX7_init 115 = .ok (.aload_n 0, 1) := by decide +kernel
theorem dX7_init_116 : decode cX7_init 116 = .ok (.bipush 16, 2) := by decide +kernel
theorem dX7_init_118 : decode cX7_init 118 = .ok (.newarray .int, 2) := by decide +kernel
theorem dX7_init_120 : decode cX7_init 120 = .ok (.putfield 73, 3) := by decide +kernel
theorem dX7_init_123 : decode cX7_init 123 = .ok (.iconst 0, 1) := by decide +kernel
theorem dX7_init_124 : decode cX7_init 124 = .ok (.istore_n 1, 1) := by decide +kernel
theorem dX7_init_125 : decode cX7_init 125 = .ok (.iload_n 1, 1) := by decide +kernel
theorem dX7_init_126 : decode cX7_init 126 = .ok (.iconst 2, 1) := by decide +kernel
theorem dX7_init_127 : decode cX7_init 127 = .ok (.if_icmp .ge 22, 3) := by decide +kernel
theorem dX7_init_130 : decode cX7_init 130 = .ok (.aload_n 0, 1) := by decide +kernel
theorem dX7_init_131 : decode cX7_init 131 = .ok (.getfield 19, 3) := by decide +kernel
theorem dX7_init_134 : decode cX7_init 134 = .ok (.iload_n 1, 1) := by decide +kernel
theorem dX7_init_135 : decode cX7_init 135 = .ok (.new 7, 3) := by decide +kernel
theorem dX7_init_138 : decode cX7_init 138 = .ok (.dup, 1) := by decide +kernel
theorem dX7_init_139 : decode cX7_init 139 = .ok (.invokespecial 9, 3) := by decide +kernel
theorem dX7_init_142 : decode cX7_init 142 = .ok (.aastore, 1) := by decide +kernel
theorem dX7_init_143 : decode cX7_init 143 = .ok (.iinc 1 1, 3) := by decide +kernel
theorem dX7_init_146 : decode cX7_init 146 = .ok (.goto (-21), 3) := by decide +kernel
theorem dX7_init_149 : decode cX7_init 149 = .ok (.return_, 1) := by decide +kernel
set_option maxRecDepth 20000 in
theorem ggX7_piece_X7_newPieceError : GoodIn wsX7_piece wsX7_newPieceError := goodIn_r _ [10, 3, 2, 5, 11, 12, 13, 14, 15, 16, 17, 18, 19, 20, 21, 22, 23, 24, 25, 26, 27, 28, 29, 30, 31, 32, 33, 34, 35, 36, 66, 67, 68, 69, 70, 71, 72, 73, 74, 75, 76, 77, 80, 81, 82, 83, 84, 85, 86, 87, 78, 79] (by decide +kernel) (by decide +kernel)
set_option maxRecDepth 20000 in
theorem gX7_piece_X7_newPieceError : GoodIn wsX7_piece (wsV RX7 76 RX7 yX7_newPieceError wsX7_newPieceError) := goodIn_app (goodIn_of _ (by decide +kernel)) ggX7_piece_X7_newPieceError
set_option maxRecDepth 20000 in
theorem ggX7_piece_X3_record : GoodIn wsX7_piece wsX3_record := goodIn_r _ [41, 42, 43, 44, 45, 46, 40, 47, 48, 49, 50, 33, 51, 35, 36, 52, 53, 54, 55, 56, 57, 58, 59, 60, 61, 88, 89, 80, 81, 82, 83, 84, 85, 86, 87] (by decide +kernel) (by decide +kernel)
set_option maxRecDepth 20000 in
theorem gX7_piece_X3_record : GoodIn wsX7_piece (wsV RX7 80 RX3 yX3_record wsX3_record) := goodIn_app (goodIn_of _ (by decide +kernel)) ggX7_piece_X3_record
set_option maxRecDepth 20000 in
theorem ggX7_piece_X6_text : GoodIn wsX7_piece wsX6_text := goodIn_r _ [29, 16, 21, 22, 23, 14, 24, 25, 78, 79] (by decide +kernel) (by decide +kernel)
set_option maxRecDepth 20000 in
theorem gX7_piece_X6_text : GoodIn wsX7_piece (wsV RX7 84 RX6 yX6_text wsX6_text) := goodIn_app (goodIn_of _ (by decide +kernel)) ggX7_piece_X6_text
set_option maxRecDepth 20000 in
theorem ggX7_piece_X2_addPiece : GoodIn wsX7_piece wsX2_addPiece := goodIn_r _ [65, 35, 36, 56, 57, 80, 81, 82, 83, 84, 85, 86, 87] (by decide +kernel) (by decide +kernel)
set_option maxRecDepth 20000 in
theorem gX7_piece_X2_addPiece : GoodIn wsX7_piece (wsV RX7 92 RX2 yX2_addPiece wsX2_addPiece) := goodIn_app (goodIn_of _ (by decide +kernel)) ggX7_piece_X2_addPiece
theorem dX7_piece_0 : decode cX7_piece 0 = .ok (.aload_n 0, 1) := by decide +kernel
theorem dX7_piece_1 : decode cX7_piece 1 = .ok (.iload_n 1, 1) := by decide +kernel
theorem dX7_piece_2 : decode cX7_piece 2 = .ok (.invokevirtual 76, 3) := by decide +kernel
theorem dX7_piece_5 : decode cX7_piece 5 = .ok (.istore_n 2, 1) := by decide +kernel
theorem dX7_piece_6 : decode cX7_piece 6 = .ok (.iload_n 2, 1) := by decide +kernel
theorem dX7_piece_7 : decode cX7_piece 7 = .ok (.ifCond .eq 5, 3) := by decide +kernel
theorem dX7_piece_10 : decode cX7_piece 10 = .ok (.iload_n 2, 1) := by decide +kernel
theorem dX7_piece_11 : decode cX7_piece 11 = .ok (.ireturn, 1) := by decide +kernel
theorem dX7_piece_12 : decode cX7_piece 12 = .ok (.aload_n 0, 1) := by decide +kernel
theorem dX7_piece_13 : decode cX7_piece 13 = .ok (.getfield 30, 3) := by decide +kernel
theorem dX7_piece_16 : decode cX7_piece 16 = .ok (.aload_n 0, 1) := by decide +kernel
theorem dX7_piece_17 : decode cX7_piece 17 = .ok (.getfield 10, 3) := by decide +kernel
theorem dX7_piece_20 : decode cX7_piece 20 = .ok (.invokevirtual 80, 3) := by decide +kernel
theorem dX7_piece_23 : decode cX7_piece 23 = .ok (.aload_n 0, 1) := by decide +kernel
theorem dX7_piece_24 : decode cX7_piece 24 = .ok (.getfield 10, 3) := by decide +kernel
theorem dX7_piece_27 : decode cX7_piece 27 = .ok (.aload_n 0, 1) := by decide +kernel
theorem dX7_piece_28 : decode cX7_piece 28 = .ok (.getfield 37, 3) := by decide +kernel
theorem dX7_piece_31 : decode cX7_piece 31 = .ok (.invokevirtual 84, 3) := by decide +kernel
theorem dX7_piece_34 : decode cX7_piece 34 = .ok (.aload_n 0, 1) := by decide +kernel
theorem dX7_piece_35 : decode cX7_piece 35 = .ok (.getfield 37, 3) := by decide +kernel
theorem dX7_piece_38 : decode cX7_piece 38 = .ok (.getfield 88, 3) := by decide +kernel
theorem dX7_piece_41 : decode cX7_piece 41 = .ok (.iload_n 1, 1) := by decide +kernel
theorem dX7_piece_42 : decode cX7_piece 42 = .ok (.invokevirtual 92, 3) := by decide +kernel
theorem dX7_piece_45 : decode cX7_piece 45 = .ok (.aload_n 0, 1) := by decide +kernel
theorem dX7_piece_46 : decode cX7_piece 46 = .ok (.getfield 37, 3) := by decide +kernel
theorem dX7_piece_49 : decode cX7_piece 49 = .ok (.iconst 0, 1) := by decide +kernel
theorem dX7_piece_50 : decode cX7_piece 50 = .ok (.putfield 88, 3) := by decide +kernel
theorem dX7_piece_53 : decode cX7_piece 53 = .ok (.aload_n 0, 1) := by decide +kernel
theorem dX7_piece_54 : decode cX7_piece 54 = .ok (.getfield 10, 3) := by decide +kernel
theorem dX7_piece_57 : decode cX7_piece 57 = .ok (.getfield 96, 3) := by decide +kernel
theorem dX7_piece_60 : decode cX7_piece 60 = .ok (.iconst 1, 1) := by decide +kernel
theorem dX7_piece_61 : decode cX7_piece 61 = .ok (.isub, 1) := by decide +kernel
theorem dX7_piece_62 : decode cX7_piece 62 = .ok (.ireturn, 1) := by decide +kernel
set_option maxRecDepth 20000 in
theorem ggX7_weigh_X7_isPiece : GoodIn wsX7_weigh wsX7_isPiece := goodIn_r _ [8, 2, 9, 38, 39, 40, 41, 42, 43, 44, 45, 46, 47, 48, 49, 50, 51, 52, 53, 54, 55, 56, 57] (by decide +kernel) (by decide +kernel)
set_option maxRecDepth 20000 in
theorem gX7_weigh_X7_isPiece : GoodIn wsX7_weigh (wsV RX7 99 RX7 yX7_isPiece wsX7_isPiece) := goodIn_app (goodIn_of _ (by decide +kernel)) ggX7_weigh_X7_isPiece
set_option maxRecDepth 20000 in
theorem ggX7_weigh_X3_record : GoodIn wsX7_weigh wsX3_record := goodIn_r _ [14, 15, 16, 17, 18, 19, 13, 20, 21, 22, 23, 24, 25, 26, 27, 28, 29, 30, 31, 32, 33, 34, 35, 36, 37, 58, 59, 50, 51, 52, 53, 54, 55, 56, 57] (by decide +kernel) (by decide +kernel)
set_option maxRecDepth 20000 in
theorem gX7_weigh_X3_record : GoodIn wsX7_weigh (wsV RX7 80 RX3 yX3_record wsX3_record) := goodIn_app (goodIn_of _ (by decide +kernel)) ggX7_weigh_X3_record
theorem dX7_weigh_0 : decode cX7_weigh 0 = .ok (.aload_n 0, 1) := by decide +kernel
theorem dX7_weigh_1 : decode cX7_weigh 1 = .ok (.iload_n 1, 1) := by decide +kernel
theorem dX7_weigh_2 : decode cX7_weigh 2 = .ok (.invokevirtual 99, 3) := by decide +kernel
theorem dX7_weigh_5 : decode cX7_weigh 5 = .ok (.ifCond .ne 5, 3) := by decide +kernel
theorem dX7_weigh_8 : decode cX7_weigh 8 = .ok (.iconst (-1), 1) := by decide +kernel
theorem dX7_weigh_9 : decode cX7_weigh 9 = .ok (.ireturn, 1) := by decide +kernel
theorem dX7_weigh_10 : decode cX7_weigh 10 = .ok (.iload_n 2, 1) := by decide +kernel
theorem dX7_weigh_11 : decode cX7_weigh 11 = .ok (.iconst 1, 1) := by decide +kernel
theorem dX7_weigh_12 : decode cX7_weigh 12 = .ok (.if_icmp .lt 9, 3) := by decide +kernel
theorem dX7_weigh_15 : decode cX7_weigh 15 = .ok (.iload_n 2, 1) := by decide +kernel
theorem dX7_weigh_16 : decode cX7_weigh 16 = .ok (.bipush 9, 2) := by decide +kernel
theorem dX7_weigh_18 : decode cX7_weigh 18 = .ok (.if_icmp .le 6, 3) := by decide +kernel
theorem dX7_weigh_21 : decode cX7_weigh 21 = .ok (.bipush (-2), 2) := by decide +kernel
theorem dX7_weigh_23 : decode cX7_weigh 23 = .ok (.ireturn, 1) := by decide +kernel
theorem dX7_weigh_24 : decode cX7_weigh 24 = .ok (.aload_n 0, 1) := by decide +kernel
theorem dX7_weigh_25 : decode cX7_weigh 25 = .ok (.getfield 30, 3) := by decide +kernel
theorem dX7_weigh_28 : decode cX7_weigh 28 = .ok (.aload_n 0, 1) := by decide +kernel
theorem dX7_weigh_29 : decode cX7_weigh 29 = .ok (.getfield 10, 3) := by decide +kernel
theorem dX7_weigh_32 : decode cX7_weigh 32 = .ok (.invokevirtual 80, 3) := by decide +kernel
theorem dX7_weigh_35 : decode cX7_weigh 35 = .ok (.aload_n 0, 1) := by decide +kernel
theorem dX7_weigh_36 : decode cX7_weigh 36 = .ok (.getfield 10, 3) := by decide +kernel
theorem dX7_weigh_39 : decode cX7_weigh 39 = .ok (.getfield 103, 3) := by decide +kernel
theorem dX7_weigh_42 : decode cX7_weigh 42 = .ok (.iload_n 1, 1) := by decide +kernel
theorem dX7_weigh_43 : decode cX7_weigh 43 = .ok (.iaload, 1) := by decide +kernel
theorem dX7_weigh_44 : decode cX7_weigh 44 = .ok (.istore_n 3, 1) := by decide +kernel
theorem dX7_weigh_45 : decode cX7_weigh 45 = .ok (.aload_n 0, 1) := by decide +kernel
theorem dX7_weigh_46 : decode cX7_weigh 46 = .ok (.getfield 10, 3) := by decide +kernel
theorem dX7_weigh_49 : decode cX7_weigh 49 = .ok (.getfield 103, 3) := by decide +kernel
theorem dX7_weigh_52 : decode cX7_weigh 52 = .ok (.iload_n 1, 1) := by decide +kernel
theorem dX7_weigh_53 : decode cX7_weigh 53 = .ok (.iload_n 2, 1) := by decide +kernel
theorem dX7_weigh_54 : decode cX7_weigh 54 = .ok (.iastore, 1) := by decide +kernel
theorem dX7_weigh_55 : decode cX7_weigh 55 = .ok (.iload_n 3, 1) := by decide +kernel
theorem dX7_weigh_56 : decode cX7_weigh 56 = .ok (.ireturn, 1) := by decide +kernel
set_option maxRecDepth 20000 in
theorem ggX7_drop_X7_isPiece : GoodIn wsX7_drop wsX7_isPiece := goodIn_r _ [8, 2, 3, 41, 42, 43, 44, 45, 46, 47, 48, 49, 50, 51, 52, 53, 54, 55, 56, 57, 58, 59, 60] (by decide +kernel) (by decide +kernel)
set_option maxRecDepth 20000 in
theorem gX7_drop_X7_isPiece : GoodIn wsX7_drop (wsV RX7 99 RX7 yX7_isPiece wsX7_isPiece) := goodIn_app (goodIn_of _ (by decide +kernel)) ggX7_drop_X7_isPiece
set_option maxRecDepth 20000 in
theorem ggX7_drop_X3_record : GoodIn wsX7_drop wsX3_record := goodIn_r _ [13, 14, 15, 16, 17, 18, 12, 19, 20, 21, 22, 23, 24, 25, 26, 27, 28, 29, 30, 31, 32, 33, 34, 35, 36, 61, 62, 53, 54, 55, 56, 57, 58, 59, 60] (by decide +kernel) (by decide +kernel)
set_option maxRecDepth 20000 in
theorem gX7_drop_X3_record : GoodIn wsX7_drop (wsV RX7 80 RX3 yX3_record wsX3_record) := goodIn_app (goodIn_of _ (by decide +kernel)) ggX7_drop_X3_record
set_option maxRecDepth 20000 in
theorem ggX7_drop_X2_removePiece : GoodIn wsX7_drop wsX2_removePiece := goodIn_r _ [40, 25, 26, 27, 28, 29, 30, 31, 32, 53, 54, 55, 56, 57, 58, 59, 60] (by decide +kernel) (by decide +kernel)
set_option maxRecDepth 20000 in
theorem gX7_drop_X2_removePiece : GoodIn wsX7_drop (wsV RX7 106 RX2 yX2_removePiece wsX2_removePiece) := goodIn_app (goodIn_of _ (by decide +kernel)) ggX7_drop_X2_removePiece
theorem dX7_drop_0 : decode cX7_drop 0 = .ok (.aload_n 0, 1) := by decide +kernel
theorem dX7_drop_1 : decode cX7_drop 1 = .ok (.iload_n 1, 1) := by decide +kernel
theorem dX7_drop_2 : decode cX7_drop 2 = .ok (.invokevirtual 99, 3) := by decide +kernel
theorem dX7_drop_5 : decode cX7_drop 5 = .ok (.ifCond .ne 5, 3) := by decide +kernel
theorem dX7_drop_8 : decode cX7_drop 8 = .ok (.iconst (-1), 1) := by decide +kernel
theorem dX7_drop_9 : decode cX7_drop 9 = .ok (.ireturn, 1) := by decide +kernel
theorem dX7_drop_10 : decode cX7_drop 10 = .ok (.aload_n 0, 1) := by decide +kernel
theorem dX7_drop_11 : decode cX7_drop 11 = .ok (.getfield 30, 3) := by decide +kernel
theorem dX7_drop_14 : decode cX7_drop 14 = .ok (.aload_n 0, 1) := by decide +kernel
theorem dX7_drop_15 : decode cX7_drop 15 = .ok (.getfield 10, 3) := by decide +kernel
theorem dX7_drop_18 : decode cX7_drop 18 = .ok (.invokevirtual 80, 3) := by decide +kernel
theorem dX7_drop_21 : decode cX7_drop 21 = .ok (.aload_n 0, 1) := by decide +kernel
theorem dX7_drop_22 : decode cX7_drop 22 = .ok (.getfield 10, 3) := by decide +kernel
theorem dX7_drop_25 : decode cX7_drop 25 = .ok (.iload_n 1, 1) := by decide +kernel
theorem dX7_drop_26 : decode cX7_drop 26 = .ok (.invokevirtual 106, 3) := by decide +kernel
theorem dX7_drop_29 : decode cX7_drop 29 = .ok (.aload_n 0, 1) := by decide +kernel
theorem dX7_drop_30 : decode cX7_drop 30 = .ok (.getfield 10, 3) := by decide +kernel
theorem dX7_drop_33 : decode cX7_drop 33 = .ok (.getfield 96, 3) := by decide +kernel
theorem dX7_drop_36 : decode cX7_drop 36 = .ok (.ireturn, 1) := by decide +kernel
set_option maxRecDepth 20000 in
theorem ggX7_word_X6_holdsLetters : GoodIn wsX7_word wsX6_holdsLetters := goodIn_r _ [10, 11, 12, 13, 14, 9, 15, 16, 17, 18, 19, 20, 75, 76] (by decide +kernel) (by decide +kernel)
set_option maxRecDepth 20000 in
theorem gX7_word_X6_holdsLetters : GoodIn wsX7_word (wsV RX7 110 RX6 yX6_holdsLetters wsX6_holdsLetters) := goodIn_app (goodIn_of _ (by decide +kernel)) ggX7_word_X6_holdsLetters
set_option maxRecDepth 20000 in
theorem ggX7_word_X3_record : GoodIn wsX7_word wsX3_record := goodIn_r _ [25, 26, 27, 28, 29, 30, 24, 31, 32, 33, 34, 35, 36, 37, 38, 39, 40, 41, 42, 43, 44, 45, 46, 47, 48, 77, 78, 67, 68, 69, 70, 71, 72, 73, 74] (by decide +kernel) (by decide +kernel)
set_option maxRecDepth 20000 in
theorem gX7_word_X3_record : GoodIn wsX7_word (wsV RX7 80 RX3 yX3_record wsX3_record) := goodIn_app (goodIn_of _ (by decide +kernel)) ggX7_word_X3_record
set_option maxRecDepth 20000 in
theorem ggX7_word_X2_addWord : GoodIn wsX7_word wsX2_addWord := goodIn_r _ [52, 45, 53, 48, 46, 47, 54, 17, 18, 9, 19, 20, 67, 68, 69, 70, 71, 72, 73, 74, 75, 76] (by decide +kernel) (by decide +kernel)
set_option maxRecDepth 20000 in
theorem gX7_word_X2_addWord : GoodIn wsX7_word (wsV RX7 116 RX2 yX2_addWord wsX2_addWord) := goodIn_app (goodIn_of _ (by decide +kernel)) ggX7_word_X2_addWord
theorem dX7_word_0 : decode cX7_word 0 = .ok (.aload_n 0, 1) := by decide +kernel
theorem dX7_word_1 : decode cX7_word 1 = .ok (.getfield 37, 3) := by decide +kernel
theorem dX7_word_4 : decode cX7_word 4 = .ok (.bipush 12, 2) := by decide +kernel
theorem dX7_word_6 : decode cX7_word 6 = .ok (.invokevirtual 110, 3) := by decide +kernel
theorem dX7_word_9 : decode cX7_word 9 = .ok (.ifCond .ne 6, 3) := by decide +kernel
theorem dX7_word_12 : decode cX7_word 12 = .ok (.bipush (-3), 2) := by decide +kernel
theorem dX7_word_14 : decode cX7_word 14 = .ok (.ireturn, 1) := by decide +kernel
theorem dX7_word_15 : decode cX7_word 15 = .ok (.iload_n 1, 1) := by decide +kernel
theorem dX7_word_16 : decode cX7_word 16 = .ok (.iconst 1, 1) := by decide +kernel
theorem dX7_word_17 : decode cX7_word 17 = .ok (.if_icmp .lt 9, 3) := by decide +kernel
theorem dX7_word_20 : decode cX7_word 20 = .ok (.iload_n 1, 1) := by decide +kernel
theorem dX7_word_21 : decode cX7_word 21 = .ok (.bipush 99, 2) := by decide +kernel
theorem dX7_word_23 : decode cX7_word 23 = .ok (.if_icmp .le 6, 3) := by decide +kernel
theorem dX7_word_26 : decode cX7_word 26 = .ok (.bipush (-2), 2) := by decide +kernel
theorem dX7_word_28 : decode cX7_word 28 = .ok (.ireturn, 1) := by decide +kernel
theorem dX7_word_29 : decode cX7_word 29 = .ok (.aload_n 0, 1) := by decide +kernel
theorem dX7_word_30 : decode cX7_word 30 = .ok (.getfield 10, 3) := by decide +kernel
theorem dX7_word_33 : decode cX7_word 33 = .ok (.getfield 113, 3) := by decide +kernel
theorem dX7_word_36 : decode cX7_word 36 = .ok (.bipush 8, 2) := by decide +kernel
theorem dX7_word_38 : decode cX7_word 38 = .ok (.if_icmp .lt 6, 3) := by decide +kernel
theorem dX7_word_41 : decode cX7_word 41 = .ok (.bipush (-4), 2) := by decide +kernel
theorem dX7_word_43 : decode cX7_word 43 = .ok (.ireturn, 1) := by decide +kernel
theorem dX7_word_44 : decode cX7_word 44 = .ok (.aload_n 0, 1) := by decide +kernel
theorem dX7_word_45 : decode cX7_word 45 = .ok (.getfield 30, 3) := by decide +kernel
theorem dX7_word_48 : decode cX7_word 48 = .ok (.aload_n 0, 1) := by decide +kernel
theorem dX7_word_49 : decode cX7_word 49 = .ok (.getfield 10, 3) := by decide +kernel
theorem dX7_word_52 : decode cX7_word 52 = .ok (.invokevirtual 80, 3) := by decide +kernel
theorem dX7_word_55 : decode cX7_word 55 = .ok (.aload_n 0, 1) := by decide +kernel
theorem dX7_word_56 : decode cX7_word 56 = .ok (.getfield 10, 3) := by decide +kernel
theorem dX7_word_59 : decode cX7_word 59 = .ok (.aload_n 0, 1) := by decide +kernel
theorem dX7_word_60 : decode cX7_word 60 = .ok (.getfield 37, 3) := by decide +kernel
theorem dX7_word_63 : decode cX7_word 63 = .ok (.iload_n 1, 1) := by decide +kernel
theorem dX7_word_64 : decode cX7_word 64 = .ok (.invokevirtual 116, 3) := by decide +kernel
theorem dX7_word_67 : decode cX7_word 67 = .ok (.aload_n 0, 1) := by decide +kernel
theorem dX7_word_68 : decode cX7_word 68 = .ok (.getfield 37, 3) := by decide +kernel
theorem dX7_word_71 : decode cX7_word 71 = .ok (.iconst 0, 1) := by decide +kernel
theorem dX7_word_72 : decode cX7_word 72 = .ok (.putfield 88, 3) := by decide +kernel
theorem dX7_word_75 : decode cX7_word 75 = .ok (.aload_n 0, 1) := by decide +kernel
theorem dX7_word_76 : decode cX7_word 76 = .ok (.getfield 10, 3) := by decide +kernel
theorem dX7_word_79 : decode cX7_word 79 = .ok (.getfield 113, 3) := by decide +kernel
theorem dX7_word_82 : decode cX7_word 82 = .ok (.iconst 1, 1) := by decide +kernel
theorem dX7_word_83 : decode cX7_word 83 = .ok (.isub, 1) := by decide +kernel
theorem dX7_word_84 : decode cX7_word 84 = .ok (.ireturn, 1) := by decide +kernel
set_option maxRecDepth 20000 in
theorem ggX7_recount_X7_isWord : GoodIn wsX7_recount wsX7_isWord := goodIn_r _ [8, 2, 9, 38, 39, 40, 41, 42, 43, 44, 45, 46, 47, 48, 49, 50, 51, 52, 53, 54, 55, 56, 57] (by decide +kernel) (by decide +kernel)
set_option maxRecDepth 20000 in
theorem gX7_recount_X7_isWord : GoodIn wsX7_recount (wsV RX7 120 RX7 yX7_isWord wsX7_isWord) := goodIn_app (goodIn_of _ (by decide +kernel)) ggX7_recount_X7_isWord
set_option maxRecDepth 20000 in
theorem ggX7_recount_X3_record : GoodIn wsX7_recount wsX3_record := goodIn_r _ [14, 15, 16, 17, 18, 19, 13, 20, 21, 22, 23, 24, 25, 26, 27, 28, 29, 30, 31, 32, 33, 34, 35, 36, 37, 58, 59, 50, 51, 52, 53, 54, 55, 56, 57] (by decide +kernel) (by decide +kernel)
set_option maxRecDepth 20000 in
theorem gX7_recount_X3_record : GoodIn wsX7_recount (wsV RX7 80 RX3 yX3_record wsX3_record) := goodIn_app (goodIn_of _ (by decide +kernel)) ggX7_recount_X3_record
theorem dX7_recount_0 : decode cX7_recount 0 = .ok (.aload_n 0, 1) := by decide +kernel
theorem dX7_recount_1 : decode cX7_recount 1 = .ok (.iload_n 1, 1) := by decide +kernel
theorem dX7_recount_2 : decode cX7_recount 2 = .ok (.invokevirtual 120, 3) := by decide +kernel
theorem dX7_recount_5 : decode cX7_recount 5 = .ok (.ifCond .ne 5, 3) := by decide +kernel
theorem dX7_recount_8 : decode cX7_recount 8 = .ok (.iconst (-1), 1) := by decide +kernel
theorem dX7_recount_9 : decode cX7_recount 9 = .ok (.ireturn, 1) := by decide +kernel
theorem dX7_recount_10 : decode cX7_recount 10 = .ok (.iload_n 2, 1) := by decide +kernel
theorem dX7_recount_11 : decode cX7_recount 11 = .ok (.iconst 1, 1) := by decide +kernel
theorem dX7_recount_12 : decode cX7_recount 12 = .ok (.if_icmp .lt 9, 3) := by decide +kernel
theorem dX7_recount_15 : decode cX7_recount 15 = .ok (.iload_n 2, 1) := by decide +kernel
theorem dX7_recount_16 : decode cX7_recount 16 = .ok (.bipush 99, 2) := by decide +kernel
theorem dX7_recount_18 : decode cX7_recount 18 = .ok (.if_icmp .le 6, 3) := by decide +kernel
theorem dX7_recount_21 : decode cX7_recount 21 = .ok (.bipush (-2), 2) := by decide +kernel
theorem dX7_recount_23 : decode cX7_recount 23 = .ok (.ireturn, 1) := by decide +kernel
theorem dX7_recount_24 : decode cX7_recount 24 = .ok (.aload_n 0, 1) := by decide +kernel
theorem dX7_recount_25 : decode cX7_recount 25 = .ok (.getfield 30, 3) := by decide +kernel
theorem dX7_recount_28 : decode cX7_recount 28 = .ok (.aload_n 0, 1) := by decide +kernel
theorem dX7_recount_29 : decode cX7_recount 29 = .ok (.getfield 10, 3) := by decide +kernel
theorem dX7_recount_32 : decode cX7_recount 32 = .ok (.invokevirtual 80, 3) := by decide +kernel
theorem dX7_recount_35 : decode cX7_recount 35 = .ok (.aload_n 0, 1) := by decide +kernel
theorem dX7_recount_36 : decode cX7_recount 36 = .ok (.getfield 10, 3) := by decide +kernel
theorem dX7_recount_39 : decode cX7_recount 39 = .ok (.getfield 123, 3) := by decide +kernel
theorem dX7_recount_42 : decode cX7_recount 42 = .ok (.iload_n 1, 1) := by decide +kernel
theorem dX7_recount_43 : decode cX7_recount 43 = .ok (.iaload, 1) := by decide +kernel
theorem dX7_recount_44 : decode cX7_recount 44 = .ok (.istore_n 3, 1) := by decide +kernel
theorem dX7_recount_45 : decode cX7_recount 45 = .ok (.aload_n 0, 1) := by decide +kernel
theorem dX7_recount_46 : decode cX7_recount 46 = .ok (.getfield 10, 3) := by decide +kernel
theorem dX7_recount_49 : decode cX7_recount 49 = .ok (.getfield 123, 3) := by decide +kernel
theorem dX7_recount_52 : decode cX7_recount 52 = .ok (.iload_n 1, 1) := by decide +kernel
theorem dX7_recount_53 : decode cX7_recount 53 = .ok (.iload_n 2, 1) := by decide +kernel
theorem dX7_recount_54 : decode cX7_recount 54 = .ok (.iastore, 1) := by decide +kernel
theorem dX7_recount_55 : decode cX7_recount 55 = .ok (.iload_n 3, 1) := by decide +kernel
theorem dX7_recount_56 : decode cX7_recount 56 = .ok (.ireturn, 1) := by decide +kernel
set_option maxRecDepth 20000 in
theorem ggX7_forget_X7_isWord : GoodIn wsX7_forget wsX7_isWord := goodIn_r _ [8, 2, 3, 41, 42, 43, 44, 45, 46, 47, 48, 49, 50, 51, 52, 53, 54, 55, 56, 57, 58, 59, 60] (by decide +kernel) (by decide +kernel)
set_option maxRecDepth 20000 in
theorem gX7_forget_X7_isWord : GoodIn wsX7_forget (wsV RX7 120 RX7 yX7_isWord wsX7_isWord) := goodIn_app (goodIn_of _ (by decide +kernel)) ggX7_forget_X7_isWord
set_option maxRecDepth 20000 in
theorem ggX7_forget_X3_record : GoodIn wsX7_forget wsX3_record := goodIn_r _ [13, 14, 15, 16, 17, 18, 12, 19, 20, 21, 22, 23, 24, 25, 26, 27, 28, 29, 30, 31, 32, 33, 34, 35, 36, 61, 62, 53, 54, 55, 56, 57, 58, 59, 60] (by decide +kernel) (by decide +kernel)
set_option maxRecDepth 20000 in
theorem gX7_forget_X3_record : GoodIn wsX7_forget (wsV RX7 80 RX3 yX3_record wsX3_record) := goodIn_app (goodIn_of _ (by decide +kernel)) ggX7_forget_X3_record
set_option maxRecDepth 20000 in
theorem ggX7_forget_X2_removeWord : GoodIn wsX7_forget wsX2_removeWord := goodIn_r _ [40, 33, 34, 27, 28, 29, 30, 35, 36, 53, 54, 55, 56, 57, 58, 59, 60] (by decide +kernel) (by decide +kernel)
set_option maxRecDepth 20000 in
theorem gX7_forget_X2_removeWord : GoodIn wsX7_forget (wsV RX7 126 RX2 yX2_removeWord wsX2_removeWord) := goodIn_app (goodIn_of _ (by decide +kernel)) ggX7_forget_X2_removeWord
theorem dX7_forget_0 : decode cX7_forget 0 = .ok (.aload_n 0, 1) := by decide +kernel
theorem dX7_forget_1 : decode cX7_forget 1 = .ok (.iload_n 1, 1) := by decide +kernel
theorem dX7_forget_2 : decode cX7_forget 2 = .ok (.invokevirtual 120, 3) := by decide +kernel
theorem dX7_forget_5 : decode cX7_forget 5 = .ok (.ifCond .ne 5, 3) := by decide +kernel
theorem dX7_forget_8 : decode cX7_forget 8 = .ok (.iconst (-1), 1) := by decide +kernel
theorem dX7_forget_9 : decode cX7_forget 9 = .ok (.ireturn, 1) := by decide +kernel
theorem dX7_forget_10 : decode cX7_forget 10 = .ok (.aload_n 0, 1) := by decide +kernel
theorem dX7_forget_11 : decode cX7_forget 11 = .ok (.getfield 30, 3) := by decide +kernel
theorem dX7_forget_14 : decode cX7_forget 14 = .ok (.aload_n 0, 1) := by decide +kernel
theorem dX7_forget_15 : decode cX7_forget 15 = .ok (.getfield 10, 3) := by decide +kernel
theorem dX7_forget_18 : decode cX7_forget 18 = .ok (.invokevirtual 80, 3) := by decide +kernel
theorem dX7_forget_21 : decode cX7_forget 21 = .ok (.aload_n 0, 1) := by decide +kernel
theorem dX7_forget_22 : decode cX7_forget 22 = .ok (.getfield 10, 3) := by decide +kernel
theorem dX7_forget_25 : decode cX7_forget 25 = .ok (.iload_n 1, 1) := by decide +kernel
theorem dX7_forget_26 : decode cX7_forget 26 = .ok (.invokevirtual 126, 3) := by decide +kernel
theorem dX7_forget_29 : decode cX7_forget 29 = .ok (.aload_n 0, 1) := by decide +kernel
theorem dX7_forget_30 : decode cX7_forget 30 = .ok (.getfield 10, 3) := by decide +kernel
theorem dX7_forget_33 : decode cX7_forget 33 = .ok (.getfield 113, 3) := by decide +kernel
theorem dX7_forget_36 : decode cX7_forget 36 = .ok (.ireturn, 1) := by decide +kernel
set_option maxRecDepth 20000 in
theorem ggX7_grow_X7_findGrowing : GoodIn wsX7_grow wsX7_findGrowing := goodIn_r _ [12, 4, 13, 1, 14, 15, 16, 17, 18, 19, 20, 21, 22, 23, 24, 25, 26, 27, 11, 28, 29, 30, 31, 32, 33, 34, 35, 36, 37, 38, 39, 40, 41, 42, 43, 44, 45, 46, 47, 48, 49, 50, 51, 52, 53, 54, 55, 56, 57, 58, 59, 60, 61, 62, 63, 64, 65, 66, 67, 68, 69, 70, 71, 72, 73, 74, 75, 76, 77, 78, 79, 80, 81, 82, 83, 84, 85, 86, 87, 88, 89, 90, 91, 92, 93, 94, 95, 96, 97, 98, 99, 100, 101, 102, 103, 104, 105, 106, 107, 108, 109, 110, 111, 112, 113, 114, 115, 116, 117, 118, 119, 120, 146, 147, 148, 149, 150, 151, 152, 153, 154, 155, 156, 157, 166, 167, 168, 169, 170, 158, 159, 160, 161, 162, 163, 164, 165, 171, 172, 173, 174, 175, 176, 177, 178, 179, 180, 181, 182] (by decide +kernel) (by decide +kernel)
set_option maxRecDepth 20000 in
theorem gX7_grow_X7_findGrowing : GoodIn wsX7_grow (wsV RX7 129 RX7 yX7_findGrowing wsX7_findGrowing) := goodIn_app (goodIn_of _ (by decide +kernel)) ggX7_grow_X7_findGrowing
set_option maxRecDepth 20000 in
theorem ggX7_grow_X3_record : GoodIn wsX7_grow wsX3_record := goodIn_r _ [125, 126, 127, 128, 129, 130, 124, 131, 132, 133, 134, 52, 135, 62, 63, 136, 39, 40, 41, 137, 138, 139, 140, 141, 54, 183, 184, 158, 159, 160, 161, 162, 163, 164, 165] (by decide +kernel) (by decide +kernel)
set_option maxRecDepth 20000 in
theorem gX7_grow_X3_record : GoodIn wsX7_grow (wsV RX7 80 RX3 yX3_record wsX3_record) := goodIn_app (goodIn_of _ (by decide +kernel)) ggX7_grow_X3_record
set_option maxRecDepth 20000 in
theorem ggX7_grow_X2_addPiece : GoodIn wsX7_grow wsX2_addPiece := goodIn_r _ [145, 62, 63, 137, 138, 158, 159, 160, 161, 162, 163, 164, 165] (by decide +kernel) (by decide +kernel)
set_option maxRecDepth 20000 in
theorem gX7_grow_X2_addPiece : GoodIn wsX7_grow (wsV RX7 92 RX2 yX2_addPiece wsX2_addPiece) := goodIn_app (goodIn_of _ (by decide +kernel)) ggX7_grow_X2_addPiece
theorem dX7_grow_0 : decode cX7_grow 0 = .ok (.aload_n 0, 1) := by decide +kernel
theorem dX7_grow_1 : decode cX7_grow 1 = .ok (.getfield 10, 3) := by decide +kernel
theorem dX7_grow_4 : decode cX7_grow 4 = .ok (.getfield 96, 3) := by decide +kernel
theorem dX7_grow_7 : decode cX7_grow 7 = .ok (.bipush 16, 2) := by decide +kernel
theorem dX7_grow_9 : decode cX7_grow 9 = .ok (.if_icmp .lt 6, 3) := by decide +kernel
theorem dX7_grow_12 : decode cX7_grow 12 = .ok (.bipush (-4), 2) := by decide +kernel
theorem dX7_grow_14 : decode cX7_grow 14 = .ok (.ireturn, 1) := by decide +kernel
theorem dX7_grow_15 : decode cX7_grow 15 = .ok (.aload_n 0, 1) := by decide +kernel
theorem dX7_grow_16 : decode cX7_grow 16 = .ok (.invokevirtual 129, 3) := by decide +kernel
theorem dX7_grow_19 : decode cX7_grow 19 = .ok (.istore_n 1, 1) := by decide +kernel
theorem dX7_grow_20 : decode cX7_grow 20 = .ok (.iload_n 1, 1) := by decide +kernel
theorem dX7_grow_21 : decode cX7_grow 21 = .ok (.ifCond .ge 6, 3) := by decide +kernel
theorem dX7_grow_24 : decode cX7_grow 24 = .ok (.bipush (-5), 2) := by decide +kernel
theorem dX7_grow_26 : decode cX7_grow 26 = .ok (.ireturn, 1) := by decide +kernel
theorem dX7_grow_27 : decode cX7_grow 27 = .ok (.aload_n 0, 1) := by decide +kernel
theorem dX7_grow_28 : decode cX7_grow 28 = .ok (.getfield 30, 3) := by decide +kernel
theorem dX7_grow_31 : decode cX7_grow 31 = .ok (.aload_n 0, 1) := by decide +kernel
theorem dX7_grow_32 : decode cX7_grow 32 = .ok (.getfield 10, 3) := by decide +kernel
theorem dX7_grow_35 : decode cX7_grow 35 = .ok (.invokevirtual 80, 3) := by decide +kernel
theorem dX7_grow_38 : decode cX7_grow 38 = .ok (.aload_n 0, 1) := by decide +kernel
theorem dX7_grow_39 : decode cX7_grow 39 = .ok (.getfield 10, 3) := by decide +kernel
theorem dX7_grow_42 : decode cX7_grow 42 = .ok (.aload_n 0, 1) := by decide +kernel
theorem dX7_grow_43 : decode cX7_grow 43 = .ok (.getfield 65, 3) := by decide +kernel
theorem dX7_grow_46 : decode cX7_grow 46 = .ok (.getfield 132, 3) := by decide +kernel
theorem dX7_grow_49 : decode cX7_grow 49 = .ok (.iload_n 1, 1) := by decide +kernel
theorem dX7_grow_50 : decode cX7_grow 50 = .ok (.iaload, 1) := by decide +kernel
theorem dX7_grow_51 : decode cX7_grow 51 = .ok (.aload_n 0, 1) := by decide +kernel
theorem dX7_grow_52 : decode cX7_grow 52 = .ok (.getfield 65, 3) := by decide +kernel
theorem dX7_grow_55 : decode cX7_grow 55 = .ok (.getfield 134, 3) := by decide +kernel
theorem dX7_grow_58 : decode cX7_grow 58 = .ok (.iload_n 1, 1) := by decide +kernel
theorem dX7_grow_59 : decode cX7_grow 59 = .ok (.iaload, 1) := by decide +kernel
theorem dX7_grow_60 : decode cX7_grow 60 = .ok (.aload_n 0, 1) := by decide +kernel
theorem dX7_grow_61 : decode cX7_grow 61 = .ok (.getfield 65, 3) := by decide +kernel
theorem dX7_grow_64 : decode cX7_grow 64 = .ok (.getfield 137, 3) := by decide +kernel
theorem dX7_grow_67 : decode cX7_grow 67 = .ok (.iload_n 1, 1) := by decide +kernel
theorem dX7_grow_68 : decode cX7_grow 68 = .ok (.iaload, 1) := by decide +kernel
theorem dX7_grow_69 : decode cX7_grow 69 = .ok (.invokevirtual 92, 3) := by decide +kernel
theorem dX7_grow_72 : decode cX7_grow 72 = .ok (.aload_n 0, 1) := by decide +kernel
theorem dX7_grow_73 : decode cX7_grow 73 = .ok (.getfield 10, 3) := by decide +kernel
theorem dX7_grow_76 : decode cX7_grow 76 = .ok (.getfield 96, 3) := by decide +kernel
theorem dX7_grow_79 : decode cX7_grow 79 = .ok (.iconst 1, 1) := by decide +kernel
theorem dX7_grow_80 : decode cX7_grow 80 = .ok (.isub, 1) := by decide +kernel
theorem dX7_grow_81 : decode cX7_grow 81 = .ok (.ireturn, 1) := by decide +kernel
set_option maxRecDepth 20000 in
theorem ggX7_tune_X3_record : GoodIn wsX7_tune wsX3_record := goodIn_r _ [14, 15, 16, 17, 18, 19, 13, 20, 21, 22, 23, 24, 25, 26, 27, 28, 29, 30, 31, 32, 33, 34, 35, 36, 37, 136, 137, 128, 129, 130, 131, 132, 133, 134, 135] (by decide +kernel) (by decide +kernel)
set_option maxRecDepth 20000 in
theorem gX7_tune_X3_record : GoodIn wsX7_tune (wsV RX7 80 RX3 yX3_record wsX3_record) := goodIn_app (goodIn_of _ (by decide +kernel)) ggX7_tune_X3_record
set_option maxRecDepth 20000 in
theorem ggX7_tune_X7_bearAll : GoodIn wsX7_tune wsX7_bearAll := goodIn_r _ [42, 4, 2, 43, 44, 45, 3, 46, 47, 48, 49, 50, 51, 52, 53, 54, 55, 56, 57, 58, 59, 60, 29, 30, 31, 61, 62, 63, 64, 65, 66, 67, 68, 7, 69, 70, 71, 72, 24, 73, 37, 74, 75, 76, 77, 78, 79, 80, 26, 27, 81, 82, 83, 84, 85, 86, 87, 88, 89, 90, 91, 92, 93, 94, 95, 96, 97, 98, 99, 100, 101, 102, 103, 104, 105, 106, 107, 108, 109, 110, 111, 112, 113, 114, 115, 116, 117, 118, 119, 120, 121, 122, 123, 124, 125, 126, 127, 128, 129, 130, 131, 132, 133, 134, 135, 138, 139, 140, 141, 142, 143, 144] (by decide +kernel) (by decide +kernel)
set_option maxRecDepth 20000 in
theorem gX7_tune_X7_bearAll : GoodIn wsX7_tune (wsV RX7 140 RX7 yX7_bearAll wsX7_bearAll) := goodIn_app (goodIn_of _ (by decide +kernel)) ggX7_tune_X7_bearAll
theorem dX7_tune_0 : decode cX7_tune 0 = .ok (.aload_n 0, 1) := by decide +kernel
theorem dX7_tune_1 : decode cX7_tune 1 = .ok (.getfield 30, 3) := by decide +kernel
theorem dX7_tune_4 : decode cX7_tune 4 = .ok (.aload_n 0, 1) := by decide +kernel
theorem dX7_tune_5 : decode cX7_tune 5 = .ok (.getfield 10, 3) := by decide +kernel
theorem dX7_tune_8 : decode cX7_tune 8 = .ok (.invokevirtual 80, 3) := by decide +kernel
theorem dX7_tune_11 : decode cX7_tune 11 = .ok (.aload_n 0, 1) := by decide +kernel
theorem dX7_tune_12 : decode cX7_tune 12 = .ok (.invokevirtual 140, 3) := by decide +kernel
theorem dX7_tune_15 : decode cX7_tune 15 = .ok (.iconst 0, 1) := by decide +kernel
theorem dX7_tune_16 : decode cX7_tune 16 = .ok (.istore_n 1, 1) := by decide +kernel
theorem dX7_tune_17 : decode cX7_tune 17 = .ok (.iconst 0, 1) := by decide +kernel
theorem dX7_tune_18 : decode cX7_tune 18 = .ok (.istore_n 2, 1) := by decide +kernel
theorem dX7_tune_19 : decode cX7_tune 19 = .ok (.iload_n 2, 1) := by decide +kernel
theorem dX7_tune_20 : decode cX7_tune 20 = .ok (.aload_n 0, 1) := by decide +kernel
theorem dX7_tune_21 : decode cX7_tune 21 = .ok (.getfield 10, 3) := by decide +kernel
theorem dX7_tune_24 : decode cX7_tune 24 = .ok (.getfield 96, 3) := by decide +kernel
theorem dX7_tune_27 : decode cX7_tune 27 = .ok (.if_icmp .ge 20, 3) := by decide +kernel
theorem dX7_tune_30 : decode cX7_tune 30 = .ok (.iload_n 1, 1) := by decide +kernel
theorem dX7_tune_31 : decode cX7_tune 31 = .ok (.aload_n 0, 1) := by decide +kernel
theorem dX7_tune_32 : decode cX7_tune 32 = .ok (.getfield 69, 3) := by decide +kernel
theorem dX7_tune_35 : decode cX7_tune 35 = .ok (.iload_n 2, 1) := by decide +kernel
theorem dX7_tune_36 : decode cX7_tune 36 = .ok (.iaload, 1) := by decide +kernel
theorem dX7_tune_37 : decode cX7_tune 37 = .ok (.invokestatic 143, 3) := by decide +kernel
theorem dX7_tune_40 : decode cX7_tune 40 = .ok (.istore_n 1, 1) := by decide +kernel
theorem dX7_tune_41 : decode cX7_tune 41 = .ok (.iinc 2 1, 3) := by decide +kernel
theorem dX7_tune_44 : decode cX7_tune 44 = .ok (.goto (-25), 3) := by decide +kernel
theorem dX7_tune_47 : decode cX7_tune 47 = .ok (.iconst 0, 1) := by decide +kernel
theorem dX7_tune_48 : decode cX7_tune 48 = .ok (.istore_n 2, 1) := by decide +kernel
theorem dX7_tune_49 : decode cX7_tune 49 = .ok (.iconst 0, 1) := by decide +kernel
theorem dX7_tune_50 : decode cX7_tune 50 = .ok (.istore_n 3, 1) := by decide +kernel
theorem dX7_tune_51 : decode cX7_tune 51 = .ok (.iload_n 3, 1) := by decide +kernel
theorem dX7_tune_52 : decode cX7_tune 52 = .ok (.aload_n 0, 1) := by decide +kernel
theorem dX7_tune_53 : decode cX7_tune 53 = .ok (.getfield 10, 3) := by decide +kernel
theorem dX7_tune_56 : decode cX7_tune 56 = .ok (.getfield 96, 3) := by decide +kernel
theorem dX7_tune_59 : decode cX7_tune 59 = .ok (.if_icmp .ge 60, 3) := by decide +kernel
theorem dX7_tune_62 : decode cX7_tune 62 = .ok (.iload_n 1, 1) := by decide +kernel
theorem dX7_tune_63 : decode cX7_tune 63 = .ok (.ifCond .le 19, 3) := by decide +kernel
theorem dX7_tune_66 : decode cX7_tune 66 = .ok (.iconst 1, 1) := by decide +kernel
theorem dX7_tune_67 : decode cX7_tune 67 = .ok (.bipush 8, 2) := by decide +kernel
theorem dX7_tune_69 : decode cX7_tune 69 = .ok (.aload_n 0, 1) := by decide +kernel
theorem dX7_tune_70 : decode cX7_tune 70 = .ok (.getfield 69, 3) := by decide +kernel
theorem dX7_tune_73 : decode cX7_tune 73 = .ok (.iload_n 3, 1) := by decide +kernel
theorem dX7_tune_74 : decode cX7_tune 74 = .ok (.iaload, 1) := by decide +kernel
theorem dX7_tune_75 : decode cX7_tune 75 = .ok (.imul, 1) := by decide +kernel
theorem dX7_tune_76 : decode cX7_tune 76 = .ok (.iload_n 1, 1) := by decide +kernel
theorem dX7_tune_77 : decode cX7_tune 77 = .ok (.idiv, 1) := by decide +kernel
theorem dX7_tune_78 : decode cX7_tune 78 = .ok (.iadd, 1) := by decide +kernel
theorem dX7_tune_79 : decode cX7_tune 79 = .ok (.goto 4, 3) := by decide +kernel
theorem dX7_tune_82 : decode cX7_tune 82 = .ok (.iconst 1, 1) := by decide +kernel
theorem dX7_tune_83 : decode cX7_tune 83 = .ok (.istore 4, 2) := by decide +kernel
theorem dX7_tune_85 : decode cX7_tune 85 = .ok (.aload_n 0, 1) := by decide +kernel
theorem dX7_tune_86 : decode cX7_tune 86 = .ok (.getfield 10, 3) := by decide +kernel
theorem dX7_tune_89 : decode cX7_tune 89 = .ok (.getfield 103, 3) := by decide +kernel
theorem dX7_tune_92 : decode cX7_tune 92 = .ok (.iload_n 3, 1) := by decide +kernel
theorem dX7_tune_93 : decode cX7_tune 93 = .ok (.iaload, 1) := by decide +kernel
theorem dX7_tune_94 : decode cX7_tune 94 = .ok (.iload 4, 2) := by decide +kernel
theorem dX7_tune_96 : decode cX7_tune 96 = .ok (.if_icmp .eq 17, 3) := by decide +kernel
theorem dX7_tune_99 : decode cX7_tune 99 = .ok (.aload_n 0, 1) := by decide +kernel
theorem dX7_tune_100 : decode cX7_tune 100 = .ok (.getfield 10, 3) := by decide +kernel
theorem dX7_tune_103 : decode cX7_tune 103 = .ok (.getfield 103, 3) := by decide +kernel
theorem dX7_tune_106 : decode cX7_tune 106 = .ok (.iload_n 3, 1) := by decide +kernel
theorem dX7_tune_107 : decode cX7_tune 107 = .ok (.iload 4, 2) := by decide +kernel
theorem dX7_tune_109 : decode cX7_tune 109 = .ok (.iastore, 1) := by decide +kernel
theorem dX7_tune_110 : decode cX7_tune 110 = .ok (.iinc 2 1, 3) := by decide +kernel
theorem dX7_tune_113 : decode cX7_tune 113 = .ok (.iinc 3 1, 3) := by decide +kernel
theorem dX7_tune_116 : decode cX7_tune 116 = .ok (.goto (-65), 3) := by decide +kernel
theorem dX7_tune_119 : decode cX7_tune 119 = .ok (.iload_n 2, 1) := by decide +kernel
theorem dX7_tune_120 : decode cX7_tune 120 = .ok (.ireturn, 1) := by decide +kernel
set_option maxRecDepth 20000 in
theorem ggX7_shrink_X3_record : GoodIn wsX7_shrink wsX3_record := goodIn_r _ [8, 9, 10, 11, 12, 13, 7, 14, 15, 16, 17, 18, 19, 20, 21, 22, 23, 24, 25, 26, 27, 28, 29, 30, 31, 142, 143, 134, 135, 136, 137, 138, 139, 140, 141] (by decide +kernel) (by decide +kernel)
set_option maxRecDepth 20000 in
theorem gX7_shrink_X3_record : GoodIn wsX7_shrink (wsV RX7 80 RX3 yX3_record wsX3_record) := goodIn_app (goodIn_of _ (by decide +kernel)) ggX7_shrink_X3_record
set_option maxRecDepth 20000 in
theorem ggX7_shrink_X7_findLeast : GoodIn wsX7_shrink wsX7_findLeast := goodIn_r _ [36, 2, 3, 37, 38, 39, 40, 41, 35, 42, 43, 44, 45, 46, 47, 48, 49, 50, 51, 52, 53, 54, 55, 56, 57, 58, 59, 60, 23, 24, 25, 61, 62, 63, 64, 65, 66, 67, 68, 69, 70, 71, 72, 73, 18, 74, 31, 75, 76, 77, 78, 79, 80, 81, 20, 21, 82, 83, 84, 85, 86, 87, 88, 89, 90, 91, 92, 93, 94, 95, 96, 97, 98, 99, 100, 101, 102, 103, 104, 105, 106, 107, 108, 109, 110, 111, 112, 113, 114, 115, 116, 117, 122, 123, 124, 125, 126, 127, 128, 129, 130, 131, 132, 133, 134, 135, 136, 137, 138, 139, 140, 141, 144, 145, 146, 147, 148, 149, 150, 151, 152, 153, 154, 155] (by decide +kernel) (by decide +kernel)
set_option maxRecDepth 20000 in
theorem gX7_shrink_X7_findLeast : GoodIn wsX7_shrink (wsV RX7 149 RX7 yX7_findLeast wsX7_findLeast) := goodIn_app (goodIn_of _ (by decide +kernel)) ggX7_shrink_X7_findLeast
set_option maxRecDepth 20000 in
theorem ggX7_shrink_X2_removePiece : GoodIn wsX7_shrink wsX2_removePiece := goodIn_r _ [121, 20, 21, 22, 23, 24, 25, 26, 27, 134, 135, 136, 137, 138, 139, 140, 141] (by decide +kernel) (by decide +kernel)
set_option maxRecDepth 20000 in
theorem gX7_shrink_X2_removePiece : GoodIn wsX7_shrink (wsV RX7 106 RX2 yX2_removePiece wsX2_removePiece) := goodIn_app (goodIn_of _ (by decide +kernel)) ggX7_shrink_X2_removePiece
theorem dX7_shrink_0 : decode cX7_shrink 0 = .ok (.iload_n 1, 1) := by decide +kernel
theorem dX7_shrink_1 : decode cX7_shrink 1 = .ok (.ifCond .lt 9, 3) := by decide +kernel
theorem dX7_shrink_4 : decode cX7_shrink 4 = .ok (.iload_n 1, 1) := by decide +kernel
theorem dX7_shrink_5 : decode cX7_shrink 5 = .ok (.bipush 16, 2) := by decide +kernel
theorem dX7_shrink_7 : decode cX7_shrink 7 = .ok (.if_icmp .le 6, 3) := by decide +kernel
theorem dX7_shrink_10 : decode cX7_shrink 10 = .ok (.bipush (-2), 2) := by decide +kernel
theorem dX7_shrink_12 : decode cX7_shrink 12 = .ok (.ireturn, 1) := by decide +kernel
theorem dX7_shrink_13 : decode cX7_shrink 13 = .ok (.aload_n 0, 1) := by decide +kernel
theorem dX7_shrink_14 : decode cX7_shrink 14 = .ok (.getfield 30, 3) := by decide +kernel
theorem dX7_shrink_17 : decode cX7_shrink 17 = .ok (.aload_n 0, 1) := by decide +kernel
theorem dX7_shrink_18 : decode cX7_shrink 18 = .ok (.getfield 10, 3) := by decide +kernel
theorem dX7_shrink_21 : decode cX7_shrink 21 = .ok (.invokevirtual 80, 3) := by decide +kernel
theorem dX7_shrink_24 : decode cX7_shrink 24 = .ok (.aload_n 0, 1) := by decide +kernel
theorem dX7_shrink_25 : decode cX7_shrink 25 = .ok (.getfield 10, 3) := by decide +kernel
theorem dX7_shrink_28 : decode cX7_shrink 28 = .ok (.getfield 96, 3) := by decide +kernel
theorem dX7_shrink_31 : decode cX7_shrink 31 = .ok (.istore_n 2, 1) := by decide +kernel
theorem dX7_shrink_32 : decode cX7_shrink 32 = .ok (.iload_n 2, 1) := by decide +kernel
theorem dX7_shrink_33 : decode cX7_shrink 33 = .ok (.istore_n 3, 1) := by decide +kernel
theorem dX7_shrink_34 : decode cX7_shrink 34 = .ok (.iload_n 3, 1) := by decide +kernel
theorem dX7_shrink_35 : decode cX7_shrink 35 = .ok (.iload_n 1, 1) := by decide +kernel
theorem dX7_shrink_36 : decode cX7_shrink 36 = .ok (.if_icmp .le 20, 3) := by decide +kernel
theorem dX7_shrink_39 : decode cX7_shrink 39 = .ok (.aload_n 0, 1) := by decide +kernel
theorem dX7_shrink_40 : decode cX7_shrink 40 = .ok (.getfield 10, 3) := by decide +kernel
theorem dX7_shrink_43 : decode cX7_shrink 43 = .ok (.aload_n 0, 1) := by decide +kernel
theorem dX7_shrink_44 : decode cX7_shrink 44 = .ok (.invokevirtual 149, 3) := by decide +kernel
theorem dX7_shrink_47 : decode cX7_shrink 47 = .ok (.invokevirtual 106, 3) := by decide +kernel
theorem dX7_shrink_50 : decode cX7_shrink 50 = .ok (.iinc 3 (-1), 3) := by decide +kernel
theorem dX7_shrink_53 : decode cX7_shrink 53 = .ok (.goto (-19), 3) := by decide +kernel
theorem dX7_shrink_56 : decode cX7_shrink 56 = .ok (.iload_n 2, 1) := by decide +kernel
theorem dX7_shrink_57 : decode cX7_shrink 57 = .ok (.aload_n 0, 1) := by decide +kernel
theorem dX7_shrink_58 : decode cX7_shrink 58 = .ok (.getfield 10, 3) := by decide +kernel
theorem dX7_shrink_61 : decode cX7_shrink 61 = .ok (.getfield 96, 3) := by decide +kernel
theorem dX7_shrink_64 : decode cX7_shrink 64 = .ok (.isub, 1) := by decide +kernel
theorem dX7_shrink_65 : decode cX7_shrink 65 = .ok (.ireturn, 1) := by decide +kernel
set_option maxRecDepth 20000 in
theorem ggX7_ofPiece_X7_isPiece : GoodIn wsX7_ofPiece wsX7_isPiece := goodIn_r _ [12, 1, 13, 150, 151, 152, 153, 154, 155, 156, 157, 158, 159, 160, 161, 162, 163, 164, 165, 166, 167, 168, 169] (by decide +kernel) (by decide +kernel)
set_option maxRecDepth 20000 in
theorem gX7_ofPiece_X7_isPiece : GoodIn wsX7_ofPiece (wsV RX7 99 RX7 yX7_isPiece wsX7_isPiece) := goodIn_app (goodIn_of _ (by decide +kernel)) ggX7_ofPiece_X7_isPiece
set_option maxRecDepth 20000 in
theorem ggX7_ofPiece_X7_letterOfText : GoodIn wsX7_ofPiece wsX7_letterOfText := goodIn_r _ [16] (by decide +kernel) (by decide +kernel)
set_option maxRecDepth 20000 in
theorem gX7_ofPiece_X7_letterOfText : GoodIn wsX7_ofPiece (va_wsS RX7 158 yX7_letterOfText wsX7_letterOfText) := goodIn_app (goodIn_of _ (by decide +kernel)) ggX7_ofPiece_X7_letterOfText
set_option maxRecDepth 20000 in
theorem ggX7_ofPiece_X7_timesInBestCuts : GoodIn wsX7_ofPiece wsX7_timesInBestCuts := goodIn_r _ [20, 1, 21, 22, 23, 24, 25, 26, 27, 28, 11, 29, 30, 31, 32, 33, 34, 35, 36, 37, 38, 39, 40, 41, 42, 43, 44, 45, 46, 47, 48, 49, 50, 51, 52, 53, 54, 55, 56, 57, 58, 59, 60, 61, 62, 63, 64, 65, 66, 67, 68, 69, 70, 71, 72, 73, 74, 75, 76, 77, 78, 79, 80, 81, 82, 83, 84, 85, 86, 87, 88, 89, 90, 91, 92, 93, 94, 95, 96, 97, 98, 99, 100, 150, 151, 152, 153, 154, 155, 156, 157, 158, 159, 160, 161, 162, 163, 164, 165, 166, 167, 168, 169, 170, 171, 172, 173, 174, 175, 176, 177, 178, 179, 180, 181] (by decide +kernel) (by decide +kernel)
set_option maxRecDepth 20000 in
theorem gX7_ofPiece_X7_timesInBestCuts : GoodIn wsX7_ofPiece (wsV RX7 162 RX7 yX7_timesInBestCuts wsX7_timesInBestCuts) := goodIn_app (goodIn_of _ (by decide +kernel)) ggX7_ofPiece_X7_timesInBestCuts
set_option maxRecDepth 20000 in
theorem ggX7_ofPiece_X7_loseEach : GoodIn wsX7_ofPiece wsX7_loseEach := goodIn_r _ [104, 5, 1, 21, 30, 13, 22, 25, 105, 106, 107, 108, 31, 32, 33, 34, 35, 36, 37, 38, 39, 40, 41, 42, 43, 44, 45, 46, 47, 48, 49, 50, 51, 52, 53, 54, 55, 56, 57, 58, 59, 60, 61, 62, 63, 64, 65, 66, 67, 68, 69, 70, 71, 72, 73, 74, 75, 76, 77, 78, 79, 80, 81, 82, 83, 84, 85, 86, 87, 88, 89, 90, 91, 92, 93, 94, 95, 96, 97, 98, 99, 100, 109, 110, 111, 112, 150, 151, 152, 153, 154, 155, 156, 157, 158, 159, 160, 161, 162, 163, 164, 165, 166, 167, 168, 169, 178, 179, 180, 181, 170, 171, 172, 173, 174, 175, 176, 177] (by decide +kernel) (by decide +kernel)
set_option maxRecDepth 20000 in
theorem gX7_ofPiece_X7_loseEach : GoodIn wsX7_ofPiece (wsV RX7 165 RX7 yX7_loseEach wsX7_loseEach) := goodIn_app (goodIn_of _ (by decide +kernel)) ggX7_ofPiece_X7_loseEach
set_option maxRecDepth 20000 in
theorem ggX7_ofPiece_X7_costOfAll : GoodIn wsX7_ofPiece wsX7_costOfAll := goodIn_r _ [116, 21, 22, 25, 26, 27, 28, 11, 29, 30, 31, 32, 33, 34, 35, 36, 37, 38, 39, 40, 41, 42, 43, 44, 45, 46, 47, 48, 49, 50, 51, 52, 53, 54, 55, 56, 57, 58, 59, 60, 61, 62, 63, 64, 65, 66, 67, 68, 69, 70, 71, 72, 73, 74, 75, 76, 77, 78, 79, 80, 81, 82, 83, 84, 85, 86, 87, 88, 89, 90, 91, 92, 93, 94, 95, 96, 97, 98, 99, 100, 109, 110, 111, 112, 162, 163, 164, 165, 166, 167, 168, 169, 150, 151, 152, 153, 154, 155, 156, 157, 158, 159, 160, 161, 178, 179, 180, 181, 170, 171, 172, 173, 174, 175, 176, 177] (by decide +kernel) (by decide +kernel)
set_option maxRecDepth 20000 in
theorem gX7_ofPiece_X7_costOfAll : GoodIn wsX7_ofPiece (wsV RX7 168 RX7 yX7_costOfAll wsX7_costOfAll) := goodIn_app (goodIn_of _ (by decide +kernel)) ggX7_ofPiece_X7_costOfAll
set_option maxRecDepth 20000 in
theorem ggX7_ofPiece_X7_bearAll : GoodIn wsX7_ofPiece wsX7_bearAll := goodIn_r _ [120, 7, 1, 21, 30, 121, 13, 25, 105, 106, 107, 108, 31, 32, 33, 34, 35, 36, 37, 38, 39, 40, 41, 42, 43, 44, 45, 46, 47, 48, 49, 50, 51, 52, 53, 54, 55, 56, 57, 58, 59, 60, 61, 62, 63, 64, 65, 66, 67, 68, 122, 123, 124, 125, 126, 127, 128, 129, 130, 131, 132, 133, 134, 135, 84, 85, 86, 87, 88, 89, 90, 136, 137, 138, 139, 140, 141, 142, 143, 144, 145, 146, 147, 148, 149, 150, 151, 152, 153, 154, 155, 156, 157, 158, 159, 160, 161, 162, 163, 164, 165, 166, 167, 168, 169, 178, 179, 180, 181, 182, 183, 184] (by decide +kernel) (by decide +kernel)
set_option maxRecDepth 20000 in
theorem gX7_ofPiece_X7_bearAll : GoodIn wsX7_ofPiece (wsV RX7 140 RX7 yX7_bearAll wsX7_bearAll) := goodIn_app (goodIn_of _ (by decide +kernel)) ggX7_ofPiece_X7_bearAll
theorem dX7_ofPiece_0 : decode cX7_ofPiece 0 = .ok (.aload_n 0, 1) := by decide +kernel
theorem dX7_ofPiece_1 : decode cX7_ofPiece 1 = .ok (.iload_n 1, 1) := by decide +kernel
theorem dX7_ofPiece_2 : decode cX7_ofPiece 2 = .ok (.invokevirtual 99, 3) := by decide +kernel
theorem dX7_ofPiece_5 : decode cX7_ofPiece 5 = .ok (.ifCond .ne 5, 3) := by decide +kernel
theorem dX7_ofPiece_8 : decode cX7_ofPiece 8 = .ok (.iconst (-1), 1) := by decide +kernel
theorem dX7_ofPiece_9 : decode cX7_ofPiece 9 = .ok (.ireturn, 1) := by decide +kernel
theorem dX7_ofPiece_10 : decode cX7_ofPiece 10 = .ok (.iload_n 2, 1) := by decide +kernel
theorem dX7_ofPiece_11 : decode cX7_ofPiece 11 = .ok (.tableswitch 134 0 8 #[49, 59, 69, 69, 69, 69, 94, 100, 123], 49) := by decide +kernel
theorem dX7_ofPiece_60 : decode cX7_ofPiece 60 = .ok (.aload_n 0, 1) := by decide +kernel
theorem dX7_ofPiece_61 : decode cX7_ofPiece 61 = .ok (.getfield 10, 3) := by decide +kernel
theorem dX7_ofPiece_64 : decode cX7_ofPiece 64 = .ok (.getfield 152, 3) := by decide +kernel
theorem dX7_ofPiece_67 : decode cX7_ofPiece 67 = .ok (.iload_n 1, 1) := by decide +kernel
theorem dX7_ofPiece_68 : decode cX7_ofPiece 68 = .ok (.iaload, 1) := by decide +kernel
theorem dX7_ofPiece_69 : decode cX7_ofPiece 69 = .ok (.ireturn, 1) := by decide +kernel
theorem dX7_ofPiece_70 : decode cX7_ofPiece 70 = .ok (.aload_n 0, 1) := by decide +kernel
theorem dX7_ofPiece_71 : decode cX7_ofPiece 71 = .ok (.getfield 10, 3) := by decide +kernel
theorem dX7_ofPiece_74 : decode cX7_ofPiece 74 = .ok (.getfield 103, 3) := by decide +kernel
theorem dX7_ofPiece_77 : decode cX7_ofPiece 77 = .ok (.iload_n 1, 1) := by decide +kernel
theorem dX7_ofPiece_78 : decode cX7_ofPiece 78 = .ok (.iaload, 1) := by decide +kernel
theorem dX7_ofPiece_79 : decode cX7_ofPiece 79 = .ok (.ireturn, 1) := by decide +kernel
theorem dX7_ofPiece_80 : decode cX7_ofPiece 80 = .ok (.aload_n 0, 1) := by decide +kernel
theorem dX7_ofPiece_81 : decode cX7_ofPiece 81 = .ok (.getfield 10, 3) := by decide +kernel
theorem dX7_ofPiece_84 : decode cX7_ofPiece 84 = .ok (.getfield 155, 3) := by decide +kernel
theorem dX7_ofPiece_87 : decode cX7_ofPiece 87 = .ok (.iload_n 1, 1) := by decide +kernel
theorem dX7_ofPiece_88 : decode cX7_ofPiece 88 = .ok (.iaload, 1) := by decide +kernel
theorem dX7_ofPiece_89 : decode cX7_ofPiece 89 = .ok (.aload_n 0, 1) := by decide +kernel
theorem dX7_ofPiece_90 : decode cX7_ofPiece 90 = .ok (.getfield 10, 3) := by decide +kernel
theorem dX7_ofPiece_93 : decode cX7_ofPiece 93 = .ok (.getfield 152, 3) := by decide +kernel
theorem dX7_ofPiece_96 : decode cX7_ofPiece 96 = .ok (.iload_n 1, 1) := by decide +kernel
theorem dX7_ofPiece_97 : decode cX7_ofPiece 97 = .ok (.iaload, 1) := by decide +kernel
theorem dX7_ofPiece_98 : decode cX7_ofPiece 98 = .ok (.iload_n 2, 1) := by decide +kernel
theorem dX7_ofPiece_99 : decode cX7_ofPiece 99 = .ok (.iconst 2, 1) := by decide +kernel
theorem dX7_ofPiece_100 : decode cX7_ofPiece 100 = .ok (.isub, 1) := by decide +kernel
theorem dX7_ofPiece_101 : decode cX7_ofPiece 101 = .ok (.invokestatic 158, 3) := by decide +kernel
theorem dX7_ofPiece_104 : decode cX7_ofPiece 104 = .ok (.ireturn, 1) := by decide +kernel
theorem dX7_ofPiece_105 : decode cX7_ofPiece 105 = .ok (.aload_n 0, 1) := by decide +kernel
theorem dX7_ofPiece_106 : decode cX7_ofPiece 106 = .ok (.iload_n 1, 1) := by decide +kernel
theorem dX7_ofPiece_107 : decode cX7_ofPiece 107 = .ok (.invokevirtual 162, 3) := by decide +kernel
theorem dX7_ofPiece_110 : decode cX7_ofPiece 110 = .ok (.ireturn, 1) := by decide +kernel
theorem dX7_ofPiece_111 : decode cX7_ofPiece 111 = .ok (.aload_n 0, 1) := by decide +kernel
theorem dX7_ofPiece_112 : decode cX7_ofPiece 112 = .ok (.invokevirtual 165, 3) := by decide +kernel
theorem dX7_ofPiece_115 : decode cX7_ofPiece 115 = .ok (.aload_n 0, 1) := by decide +kernel
theorem dX7_ofPiece_116 : decode cX7_ofPiece 116 = .ok (.getfield 73, 3) := by decide +kernel
theorem dX7_ofPiece_119 : decode cX7_ofPiece 119 = .ok (.iload_n 1, 1) := by decide +kernel
theorem dX7_ofPiece_120 : decode cX7_ofPiece 120 = .ok (.iaload, 1) := by decide +kernel
theorem dX7_ofPiece_121 : decode cX7_ofPiece 121 = .ok (.aload_n 0, 1) := by decide +kernel
theorem dX7_ofPiece_122 : decode cX7_ofPiece 122 = .ok (.aload_n 0, 1) := by decide +kernel
theorem dX7_ofPiece_123 : decode cX7_ofPiece 123 = .ok (.getfield 10, 3) := by decide +kernel
theorem dX7_ofPiece_126 : decode cX7_ofPiece 126 = .ok (.invokevirtual 168, 3) := by decide +kernel
theorem dX7_ofPiece_129 : decode cX7_ofPiece 129 = .ok (.isub, 1) := by decide +kernel
theorem dX7_ofPiece_130 : decode cX7_ofPiece 130 = .ok (.ldc 172, 2) := by decide +kernel
theorem dX7_ofPiece_132 : decode cX7_ofPiece 132 = .ok (.iadd, 1) := by decide +kernel
theorem dX7_ofPiece_133 : decode cX7_ofPiece 133 = .ok (.ireturn, 1) := by decide +kernel
theorem dX7_ofPiece_134 : decode cX7_ofPiece 134 = .ok (.aload_n 0, 1) := by decide +kernel
theorem dX7_ofPiece_135 : decode cX7_ofPiece 135 = .ok (.invokevirtual 140, 3) := by decide +kernel
theorem dX7_ofPiece_138 : decode cX7_ofPiece 138 = .ok (.aload_n 0, 1) := by decide +kernel
theorem dX7_ofPiece_139 : decode cX7_ofPiece 139 = .ok (.getfield 69, 3) := by decide +kernel
theorem dX7_ofPiece_142 : decode cX7_ofPiece 142 = .ok (.iload_n 1, 1) := by decide +kernel
theorem dX7_ofPiece_143 : decode cX7_ofPiece 143 = .ok (.iaload, 1) := by decide +kernel
theorem dX7_ofPiece_144 : decode cX7_ofPiece 144 = .ok (.ireturn, 1) := by decide +kernel
theorem dX7_ofPiece_145 : decode cX7_ofPiece 145 = .ok (.bipush (-2), 2) := by decide +kernel
theorem dX7_ofPiece_147 : decode cX7_ofPiece 147 = .ok (.ireturn, 1) := by decide +kernel
set_option maxRecDepth 20000 in
theorem ggX7_ofWord_X7_isWord : GoodIn wsX7_ofWord wsX7_isWord := goodIn_r _ [13, 1, 14, 116, 117, 118, 119, 120, 121, 122, 123, 124, 125, 126, 127, 128, 129, 130, 131, 132, 133, 134, 135] (by decide +kernel) (by decide +kernel)
set_option maxRecDepth 20000 in
theorem gX7_ofWord_X7_isWord : GoodIn wsX7_ofWord (wsV RX7 120 RX7 yX7_isWord wsX7_isWord) := goodIn_app (goodIn_of _ (by decide +kernel)) ggX7_ofWord_X7_isWord
set_option maxRecDepth 20000 in
theorem ggX7_ofWord_X7_cutBest : GoodIn wsX7_ofWord wsX7_cutBest := goodIn_r _ [18, 8, 4, 19, 20, 21, 22, 23, 24, 25, 26, 27, 28, 29, 30, 31, 32, 33, 34, 35, 36, 37, 38, 39, 40, 41, 42, 43, 44, 45, 46, 47, 48, 49, 50, 51, 52, 53, 54, 55, 56, 57, 58, 59, 60, 61, 62, 63, 64, 65, 66, 67, 68, 69, 70, 71, 72, 73, 74, 75, 76, 77, 78, 79, 80, 81, 82, 83, 84, 85, 86, 87, 88, 116, 117, 118, 119, 120, 121, 122, 123, 124, 125, 126, 127, 128, 129, 130, 131, 132, 133, 134, 135, 144, 145, 146, 147, 136, 137, 138, 139, 140, 141, 142, 143] (by decide +kernel) (by decide +kernel)
set_option maxRecDepth 20000 in
theorem gX7_ofWord_X7_cutBest : GoodIn wsX7_ofWord (wsV RX7 173 RX7 yX7_cutBest wsX7_cutBest) := goodIn_app (goodIn_of _ (by decide +kernel)) ggX7_ofWord_X7_cutBest
set_option maxRecDepth 20000 in
theorem ggX7_ofWord_X1_cost : GoodIn wsX7_ofWord wsX1_cost := goodIn_r _ [92, 83, 84, 136, 137, 138, 139, 140, 141, 142, 143] (by decide +kernel) (by decide +kernel)
set_option maxRecDepth 20000 in
theorem gX7_ofWord_X1_cost : GoodIn wsX7_ofWord (wsV RX7 186 RX1 yX1_cost wsX1_cost) := goodIn_app (goodIn_of _ (by decide +kernel)) ggX7_ofWord_X1_cost
set_option maxRecDepth 20000 in
theorem ggX7_ofWord_X0_find : GoodIn wsX7_ofWord wsX0_find := goodIn_r _ [97, 98, 99, 100, 101, 102, 103, 104, 105, 106, 35, 36, 22, 37, 25, 38, 39, 40, 41, 107, 72, 73, 74, 27, 75, 76, 77, 78, 33, 48, 49, 50, 108, 109, 110, 96, 111, 148, 149, 150, 144, 145, 146, 147] (by decide +kernel) (by decide +kernel)
set_option maxRecDepth 20000 in
theorem gX7_ofWord_X0_find : GoodIn wsX7_ofWord (wsV RX7 189 RX0 yX0_find wsX0_find) := goodIn_app (goodIn_of _ (by decide +kernel)) ggX7_ofWord_X0_find
set_option maxRecDepth 20000 in
theorem ggX7_ofWord_X0_cuts : GoodIn wsX7_ofWord wsX0_cuts := goodIn_r _ [115, 101, 148, 149, 150] (by decide +kernel) (by decide +kernel)
set_option maxRecDepth 20000 in
theorem gX7_ofWord_X0_cuts : GoodIn wsX7_ofWord (wsV RX7 193 RX0 yX0_cuts wsX0_cuts) := goodIn_app (goodIn_of _ (by decide +kernel)) ggX7_ofWord_X0_cuts
theorem dX7_ofWord_0 : decode cX7_ofWord 0 = .ok (.aload_n 0, 1) := by decide +kernel
theorem dX7_ofWord_1 : decode cX7_ofWord 1 = .ok (.iload_n 1, 1) := by decide +kernel
theorem dX7_ofWord_2 : decode cX7_ofWord 2 = .ok (.invokevirtual 120, 3) := by decide +kernel
theorem dX7_ofWord_5 : decode cX7_ofWord 5 = .ok (.ifCond .ne 5, 3) := by decide +kernel
theorem dX7_ofWord_8 : decode cX7_ofWord 8 = .ok (.iconst (-1), 1) := by decide +kernel
theorem dX7_ofWord_9 : decode cX7_ofWord 9 = .ok (.ireturn, 1) := by decide +kernel
theorem dX7_ofWord_10 : decode cX7_ofWord 10 = .ok (.aload_n 0, 1) := by decide +kernel
theorem dX7_ofWord_11 : decode cX7_ofWord 11 = .ok (.aload_n 0, 1) := by decide +kernel
theorem dX7_ofWord_12 : decode cX7_ofWord 12 = .ok (.getfield 10, 3) := by decide +kernel
theorem dX7_ofWord_15 : decode cX7_ofWord 15 = .ok (.iload_n 1, 1) := by decide +kernel
theorem dX7_ofWord_16 : decode cX7_ofWord 16 = .ok (.invokevirtual 173, 3) := by decide +kernel
theorem dX7_ofWord_19 : decode cX7_ofWord 19 = .ok (.iload_n 2, 1) := by decide +kernel
theorem dX7_ofWord_20 : decode cX7_ofWord 20 = .ok (.tableswitch 113 0 5 #[40, 50, 60, 68, 76, 94], 40) := by decide +kernel
theorem dX7_ofWord_60 : decode cX7_ofWord 60 = .ok (.aload_n 0, 1) := by decide +kernel
theorem dX7_ofWord_61 : decode cX7_ofWord 61 = .ok (.getfield 10, 3) := by decide +kernel
theorem dX7_ofWord_64 : decode cX7_ofWord 64 = .ok (.getfield 177, 3) := by decide +kernel
theorem dX7_ofWord_67 : decode cX7_ofWord 67 = .ok (.iload_n 1, 1) := by decide +kernel
theorem dX7_ofWord_68 : decode cX7_ofWord 68 = .ok (.iaload, 1) := by decide +kernel
theorem dX7_ofWord_69 : decode cX7_ofWord 69 = .ok (.ireturn, 1) := by decide +kernel
theorem dX7_ofWord_70 : decode cX7_ofWord 70 = .ok (.aload_n 0, 1) := by decide +kernel
theorem dX7_ofWord_71 : decode cX7_ofWord 71 = .ok (.getfield 10, 3) := by decide +kernel
theorem dX7_ofWord_74 : decode cX7_ofWord 74 = .ok (.getfield 123, 3) := by decide +kernel
theorem dX7_ofWord_77 : decode cX7_ofWord 77 = .ok (.iload_n 1, 1) := by decide +kernel
theorem dX7_ofWord_78 : decode cX7_ofWord 78 = .ok (.iaload, 1) := by decide +kernel
theorem dX7_ofWord_79 : decode cX7_ofWord 79 = .ok (.ireturn, 1) := by decide +kernel
theorem dX7_ofWord_80 : decode cX7_ofWord 80 = .ok (.aload_n 0, 1) := by decide +kernel
theorem dX7_ofWord_81 : decode cX7_ofWord 81 = .ok (.getfield 51, 3) := by decide +kernel
theorem dX7_ofWord_84 : decode cX7_ofWord 84 = .ok (.getfield 180, 3) := by decide +kernel
theorem dX7_ofWord_87 : decode cX7_ofWord 87 = .ok (.ireturn, 1) := by decide +kernel
theorem dX7_ofWord_88 : decode cX7_ofWord 88 = .ok (.aload_n 0, 1) := by decide +kernel
theorem dX7_ofWord_89 : decode cX7_ofWord 89 = .ok (.getfield 51, 3) := by decide +kernel
theorem dX7_ofWord_92 : decode cX7_ofWord 92 = .ok (.getfield 183, 3) := by decide +kernel
theorem dX7_ofWord_95 : decode cX7_ofWord 95 = .ok (.ireturn, 1) := by decide +kernel
theorem dX7_ofWord_96 : decode cX7_ofWord 96 = .ok (.aload_n 0, 1) := by decide +kernel
theorem dX7_ofWord_97 : decode cX7_ofWord 97 = .ok (.getfield 51, 3) := by decide +kernel
theorem dX7_ofWord_100 : decode cX7_ofWord 100 = .ok (.invokevirtual 186, 3) := by decide +kernel
theorem dX7_ofWord_103 : decode cX7_ofWord 103 = .ok (.aload_n 0, 1) := by decide +kernel
theorem dX7_ofWord_104 : decode cX7_ofWord 104 = .ok (.getfield 10, 3) := by decide +kernel
theorem dX7_ofWord_107 : decode cX7_ofWord 107 = .ok (.getfield 123, 3) := by decide +kernel
theorem dX7_ofWord_110 : decode cX7_ofWord 110 = .ok (.iload_n 1, 1) := by decide +kernel
theorem dX7_ofWord_111 : decode cX7_ofWord 111 = .ok (.iaload, 1) := by decide +kernel
theorem dX7_ofWord_112 : decode cX7_ofWord 112 = .ok (.imul, 1) := by decide +kernel
theorem dX7_ofWord_113 : decode cX7_ofWord 113 = .ok (.ireturn, 1) := by decide +kernel
theorem dX7_ofWord_114 : decode cX7_ofWord 114 = .ok (.aload_n 0, 1) := by decide +kernel
theorem dX7_ofWord_115 : decode cX7_ofWord 115 = .ok (.getfield 58, 3) := by decide +kernel
theorem dX7_ofWord_118 : decode cX7_ofWord 118 = .ok (.aload_n 0, 1) := by decide +kernel
theorem dX7_ofWord_119 : decode cX7_ofWord 119 = .ok (.getfield 44, 3) := by decide +kernel
theorem dX7_ofWord_122 : decode cX7_ofWord 122 = .ok (.invokevirtual 189, 3) := by decide +kernel
theorem dX7_ofWord_125 : decode cX7_ofWord 125 = .ok (.aload_n 0, 1) := by decide +kernel
theorem dX7_ofWord_126 : decode cX7_ofWord 126 = .ok (.getfield 58, 3) := by decide +kernel
theorem dX7_ofWord_129 : decode cX7_ofWord 129 = .ok (.invokevirtual 193, 3) := by decide +kernel
theorem dX7_ofWord_132 : decode cX7_ofWord 132 = .ok (.ireturn, 1) := by decide +kernel
theorem dX7_ofWord_133 : decode cX7_ofWord 133 = .ok (.bipush (-2), 2) := by decide +kernel
theorem dX7_ofWord_135 : decode cX7_ofWord 135 = .ok (.ireturn, 1) := by decide +kernel
set_option maxRecDepth 20000 in
theorem ggX7_letter_X7_isWord : GoodIn wsX7_letter wsX7_isWord := goodIn_r _ [7, 1, 8, 15, 16, 17, 18, 19, 20, 21, 22, 23, 24, 25, 26, 27, 28, 29, 30, 31, 32, 33, 34] (by decide +kernel) (by decide +kernel)
set_option maxRecDepth 20000 in
theorem gX7_letter_X7_isWord : GoodIn wsX7_letter (wsV RX7 120 RX7 yX7_isWord wsX7_isWord) := goodIn_app (goodIn_of _ (by decide +kernel)) ggX7_letter_X7_isWord
set_option maxRecDepth 20000 in
theorem ggX7_letter_X2_letterAt : GoodIn wsX7_letter wsX2_letterAt := goodIn_r _ [13, 14, 27, 28, 29, 30, 31, 32, 33, 34] (by decide +kernel) (by decide +kernel)
set_option maxRecDepth 20000 in
theorem gX7_letter_X2_letterAt : GoodIn wsX7_letter (wsV RX7 196 RX2 yX2_letterAt wsX2_letterAt) := goodIn_app (goodIn_of _ (by decide +kernel)) ggX7_letter_X2_letterAt
theorem dX7_letter_0 : decode cX7_letter 0 = .ok (.aload_n 0, 1) := by decide +kernel
theorem dX7_letter_1 : decode cX7_letter 1 = .ok (.iload_n 1, 1) := by decide +kernel
theorem dX7_letter_2 : decode cX7_letter 2 = .ok (.invokevirtual 120, 3) := by decide +kernel
theorem dX7_letter_5 : decode cX7_letter 5 = .ok (.ifCond .eq 20, 3) := by decide +kernel
theorem dX7_letter_8 : decode cX7_letter 8 = .ok (.iload_n 2, 1) := by decide +kernel
theorem dX7_letter_9 : decode cX7_letter 9 = .ok (.ifCond .lt 16, 3) := by decide +kernel
theorem dX7_letter_12 : decode cX7_letter 12 = .ok (.iload_n 2, 1) := by decide +kernel
theorem dX7_letter_13 : decode cX7_letter 13 = .ok (.aload_n 0, 1) := by decide +kernel
theorem dX7_letter_14 : decode cX7_letter 14 = .ok (.getfield 10, 3) := by decide +kernel
theorem dX7_letter_17 : decode cX7_letter 17 = .ok (.getfield 177, 3) := by decide +kernel
theorem dX7_letter_20 : decode cX7_letter 20 = .ok (.iload_n 1, 1) := by decide +kernel
theorem dX7_letter_21 : decode cX7_letter 21 = .ok (.iaload, 1) := by decide +kernel
theorem dX7_letter_22 : decode cX7_letter 22 = .ok (.if_icmp .lt 5, 3) := by decide +kernel
theorem dX7_letter_25 : decode cX7_letter 25 = .ok (.iconst (-1), 1) := by decide +kernel
theorem dX7_letter_26 : decode cX7_letter 26 = .ok (.ireturn, 1) := by decide +kernel
theorem dX7_letter_27 : decode cX7_letter 27 = .ok (.aload_n 0, 1) := by decide +kernel
theorem dX7_letter_28 : decode cX7_letter 28 = .ok (.getfield 10, 3) := by decide +kernel
theorem dX7_letter_31 : decode cX7_letter 31 = .ok (.iload_n 1, 1) := by decide +kernel
theorem dX7_letter_32 : decode cX7_letter 32 = .ok (.iload_n 2, 1) := by decide +kernel
theorem dX7_letter_33 : decode cX7_letter 33 = .ok (.invokevirtual 196, 3) := by decide +kernel
theorem dX7_letter_36 : decode cX7_letter 36 = .ok (.ireturn, 1) := by decide +kernel
set_option maxRecDepth 20000 in
theorem ggX7_product_X7_isWord : GoodIn wsX7_product wsX7_isWord := goodIn_r _ [11, 3, 12, 114, 115, 116, 117, 118, 119, 120, 121, 122, 123, 124, 125, 126, 127, 128, 129, 130, 131, 132, 133] (by decide +kernel) (by decide +kernel)
set_option maxRecDepth 20000 in
theorem gX7_product_X7_isWord : GoodIn wsX7_product (wsV RX7 120 RX7 yX7_isWord wsX7_isWord) := goodIn_app (goodIn_of _ (by decide +kernel)) ggX7_product_X7_isWord
set_option maxRecDepth 20000 in
theorem ggX7_product_X4_read : GoodIn wsX7_product wsX4_read := goodIn_r _ [17, 18, 19, 20, 21, 22, 23, 24, 25, 26, 27, 28, 29, 30, 16, 31, 32, 33, 34, 35, 36, 37, 38, 39, 40, 41, 42, 43, 44, 45, 46, 47, 48, 49, 50, 126, 127, 128, 129, 130, 131, 132, 133, 134, 135, 136, 137] (by decide +kernel) (by decide +kernel)
set_option maxRecDepth 20000 in
theorem gX7_product_X4_read : GoodIn wsX7_product (wsV RX7 201 RX4 yX4_read wsX4_read) := goodIn_app (goodIn_of _ (by decide +kernel)) ggX7_product_X4_read
set_option maxRecDepth 20000 in
theorem ggX7_product_X0_find : GoodIn wsX7_product wsX0_find := goodIn_r _ [55, 56, 57, 58, 59, 60, 61, 62, 63, 64, 29, 30, 16, 31, 19, 32, 33, 34, 35, 65, 66, 67, 68, 21, 69, 70, 71, 72, 27, 42, 43, 44, 73, 74, 75, 54, 76, 138, 139, 140, 134, 135, 136, 137] (by decide +kernel) (by decide +kernel)
set_option maxRecDepth 20000 in
theorem gX7_product_X0_find : GoodIn wsX7_product (wsV RX7 189 RX0 yX0_find wsX0_find) := goodIn_app (goodIn_of _ (by decide +kernel)) ggX7_product_X0_find
set_option maxRecDepth 20000 in
theorem ggX7_product_X0_total : GoodIn wsX7_product wsX0_total := goodIn_r _ [80, 58, 138, 139, 140] (by decide +kernel) (by decide +kernel)
set_option maxRecDepth 20000 in
theorem gX7_product_X0_total : GoodIn wsX7_product (wsV RX7 204 RX0 yX0_total wsX0_total) := goodIn_app (goodIn_of _ (by decide +kernel)) ggX7_product_X0_total
set_option maxRecDepth 20000 in
theorem ggX7_product_X7_cutBest : GoodIn wsX7_product wsX7_cutBest := goodIn_r _ [84, 2, 5, 13, 14, 15, 16, 17, 18, 19, 20, 21, 22, 23, 24, 25, 26, 27, 28, 29, 30, 31, 32, 33, 34, 35, 36, 37, 38, 39, 40, 41, 42, 43, 44, 45, 46, 47, 48, 49, 50, 85, 86, 87, 88, 89, 90, 91, 92, 93, 94, 95, 96, 97, 98, 99, 66, 67, 68, 69, 70, 71, 72, 100, 101, 102, 103, 104, 105, 106, 107, 108, 109, 114, 115, 116, 117, 118, 119, 120, 121, 122, 123, 124, 125, 126, 127, 128, 129, 130, 131, 132, 133, 134, 135, 136, 137, 141, 142, 143, 144, 145, 146, 147, 148] (by decide +kernel) (by decide +kernel)
set_option maxRecDepth 20000 in
theorem gX7_product_X7_cutBest : GoodIn wsX7_product (wsV RX7 173 RX7 yX7_cutBest wsX7_cutBest) := goodIn_app (goodIn_of _ (by decide +kernel)) ggX7_product_X7_cutBest
set_option maxRecDepth 20000 in
theorem ggX7_product_X1_greatestProduct : GoodIn wsX7_product wsX1_greatestProduct := goodIn_r _ [113, 90, 141, 142, 143, 144, 145, 146, 147, 148] (by decide +kernel) (by decide +kernel)
set_option maxRecDepth 20000 in
theorem gX7_product_X1_greatestProduct : GoodIn wsX7_product (wsV RX7 208 RX1 yX1_greatestProduct wsX1_greatestProduct) := goodIn_app (goodIn_of _ (by decide +kernel)) ggX7_product_X1_greatestProduct
theorem dX7_product_0 : decode cX7_product 0 = .ok (.aload_n 0, 1) := by decide +kernel
theorem dX7_product_1 : decode cX7_product 1 = .ok (.iload_n 1, 1) := by decide +kernel
theorem dX7_product_2 : decode cX7_product 2 = .ok (.invokevirtual 120, 3) := by decide +kernel
theorem dX7_product_5 : decode cX7_product 5 = .ok (.ifCond .ne 7, 3) := by decide +kernel
theorem dX7_product_8 : decode cX7_product 8 = .ok (.ldc2_w 199, 3) := by decide +kernel
theorem dX7_product_11 : decode cX7_product 11 = .ok (.lreturn, 1) := by decide +kernel
theorem dX7_product_12 : decode cX7_product 12 = .ok (.iload_n 2, 1) := by decide +kernel
theorem dX7_product_13 : decode cX7_product 13 = .ok (.ifCond .ne 34, 3) := by decide +kernel
theorem dX7_product_16 : decode cX7_product 16 = .ok (.aload_n 0, 1) := by decide +kernel
theorem dX7_product_17 : decode cX7_product 17 = .ok (.getfield 44, 3) := by decide +kernel
theorem dX7_product_20 : decode cX7_product 20 = .ok (.aload_n 0, 1) := by decide +kernel
theorem dX7_product_21 : decode cX7_product 21 = .ok (.getfield 10, 3) := by decide +kernel
theorem dX7_product_24 : decode cX7_product 24 = .ok (.iload_n 1, 1) := by decide +kernel
theorem dX7_product_25 : decode cX7_product 25 = .ok (.invokevirtual 201, 3) := by decide +kernel
theorem dX7_product_28 : decode cX7_product 28 = .ok (.aload_n 0, 1) := by decide +kernel
theorem dX7_product_29 : decode cX7_product 29 = .ok (.getfield 58, 3) := by decide +kernel
theorem dX7_product_32 : decode cX7_product 32 = .ok (.aload_n 0, 1) := by decide +kernel
theorem dX7_product_33 : decode cX7_product 33 = .ok (.getfield 44, 3) := by decide +kernel
theorem dX7_product_36 : decode cX7_product 36 = .ok (.invokevirtual 189, 3) := by decide +kernel
theorem dX7_product_39 : decode cX7_product 39 = .ok (.aload_n 0, 1) := by decide +kernel
theorem dX7_product_40 : decode cX7_product 40 = .ok (.getfield 58, 3) := by decide +kernel
theorem dX7_product_43 : decode cX7_product 43 = .ok (.invokevirtual 204, 3) := by decide +kernel
theorem dX7_product_46 : decode cX7_product 46 = .ok (.lreturn, 1) := by decide +kernel
theorem dX7_product_47 : decode cX7_product 47 = .ok (.iload_n 2, 1) := by decide +kernel
theorem dX7_product_48 : decode cX7_product 48 = .ok (.iconst 1, 1) := by decide +kernel
theorem dX7_product_49 : decode cX7_product 49 = .ok (.if_icmp .ne 20, 3) := by decide +kernel
theorem dX7_product_52 : decode cX7_product 52 = .ok (.aload_n 0, 1) := by decide +kernel
theorem dX7_product_53 : decode cX7_product 53 = .ok (.aload_n 0, 1) := by decide +kernel
theorem dX7_product_54 : decode cX7_product 54 = .ok (.getfield 10, 3) := by decide +kernel
theorem dX7_product_57 : decode cX7_product 57 = .ok (.iload_n 1, 1) := by decide +kernel
theorem dX7_product_58 : decode cX7_product 58 = .ok (.invokevirtual 173, 3) := by decide +kernel
theorem dX7_product_61 : decode cX7_product 61 = .ok (.aload_n 0, 1) := by decide +kernel
theorem dX7_product_62 : decode cX7_product 62 = .ok (.getfield 51, 3) := by decide +kernel
theorem dX7_product_65 : decode cX7_product 65 = .ok (.invokevirtual 208, 3) := by decide +kernel
theorem dX7_product_68 : decode cX7_product 68 = .ok (.lreturn, 1) := by decide +kernel
theorem dX7_product_69 : decode cX7_product 69 = .ok (.ldc2_w 211, 3) := by decide +kernel
theorem dX7_product_72 : decode cX7_product 72 = .ok (.lreturn, 1) := by decide +kernel
set_option maxRecDepth 20000 in
theorem ggX7_part_X7_isWord : GoodIn wsX7_part wsX7_isWord := goodIn_r _ [11, 1, 12, 88, 89, 90, 91, 92, 93, 94, 95, 96, 97, 98, 99, 108, 109, 110, 111, 112, 113, 114, 115] (by decide +kernel) (by decide +kernel)
set_option maxRecDepth 20000 in
theorem gX7_part_X7_isWord : GoodIn wsX7_part (wsV RX7 120 RX7 yX7_isWord wsX7_isWord) := goodIn_app (goodIn_of _ (by decide +kernel)) ggX7_part_X7_isWord
set_option maxRecDepth 20000 in
theorem ggX7_part_X7_cutBest : GoodIn wsX7_part wsX7_cutBest := goodIn_r _ [16, 17, 2, 18, 19, 20, 21, 22, 23, 24, 25, 26, 27, 28, 29, 30, 31, 32, 33, 34, 35, 36, 37, 38, 39, 40, 41, 42, 43, 44, 45, 46, 47, 48, 49, 50, 51, 52, 53, 54, 55, 56, 57, 58, 59, 60, 61, 62, 63, 64, 65, 66, 67, 68, 69, 70, 71, 72, 73, 74, 75, 76, 77, 78, 79, 80, 81, 82, 83, 84, 85, 86, 87, 88, 89, 90, 91, 92, 93, 94, 95, 96, 97, 98, 99, 108, 109, 110, 111, 112, 113, 114, 115, 116, 117, 118, 119, 100, 101, 102, 103, 104, 105, 106, 107] (by decide +kernel) (by decide +kernel)
set_option maxRecDepth 20000 in
theorem gX7_part_X7_cutBest : GoodIn wsX7_part (wsV RX7 173 RX7 yX7_cutBest wsX7_cutBest) := goodIn_app (goodIn_of _ (by decide +kernel)) ggX7_part_X7_cutBest
theorem dX7_part_0 : decode cX7_part 0 = .ok (.aload_n 0, 1) := by decide +kernel
theorem dX7_part_1 : decode cX7_part 1 = .ok (.iload_n 1, 1) := by decide +kernel
theorem dX7_part_2 : decode cX7_part 2 = .ok (.invokevirtual 120, 3) := by decide +kernel
theorem dX7_part_5 : decode cX7_part 5 = .ok (.ifCond .ne 5, 3) := by decide +kernel
theorem dX7_part_8 : decode cX7_part 8 = .ok (.iconst (-1), 1) := by decide +kernel
theorem dX7_part_9 : decode cX7_part 9 = .ok (.ireturn, 1) := by decide +kernel
theorem dX7_part_10 : decode cX7_part 10 = .ok (.aload_n 0, 1) := by decide +kernel
theorem dX7_part_11 : decode cX7_part 11 = .ok (.aload_n 0, 1) := by decide +kernel
theorem dX7_part_12 : decode cX7_part 12 = .ok (.getfield 10, 3) := by decide +kernel
theorem dX7_part_15 : decode cX7_part 15 = .ok (.iload_n 1, 1) := by decide +kernel
theorem dX7_part_16 : decode cX7_part 16 = .ok (.invokevirtual 173, 3) := by decide +kernel
theorem dX7_part_19 : decode cX7_part 19 = .ok (.iload_n 2, 1) := by decide +kernel
theorem dX7_part_20 : decode cX7_part 20 = .ok (.ifCond .lt 14, 3) := by decide +kernel
theorem dX7_part_23 : decode cX7_part 23 = .ok (.iload_n 2, 1) := by decide +kernel
theorem dX7_part_24 : decode cX7_part 24 = .ok (.aload_n 0, 1) := by decide +kernel
theorem dX7_part_25 : decode cX7_part 25 = .ok (.getfield 51, 3) := by decide +kernel
theorem dX7_part_28 : decode cX7_part 28 = .ok (.getfield 180, 3) := by decide +kernel
theorem dX7_part_31 : decode cX7_part 31 = .ok (.if_icmp .lt 5, 3) := by decide +kernel
theorem dX7_part_34 : decode cX7_part 34 = .ok (.iconst (-1), 1) := by decide +kernel
theorem dX7_part_35 : decode cX7_part 35 = .ok (.ireturn, 1) := by decide +kernel
theorem dX7_part_36 : decode cX7_part 36 = .ok (.iload_n 3, 1) := by decide +kernel
theorem dX7_part_37 : decode cX7_part 37 = .ok (.tableswitch 75 0 2 #[27, 55, 65], 27) := by decide +kernel
theorem dX7_part_64 : decode cX7_part 64 = .ok (.aload_n 0, 1) := by decide +kernel
theorem dX7_part_65 : decode cX7_part 65 = .ok (.getfield 51, 3) := by decide +kernel
theorem dX7_part_68 : decode cX7_part 68 = .ok (.getfield 213, 3) := by decide +kernel
theorem dX7_part_71 : decode cX7_part 71 = .ok (.iload_n 2, 1) := by decide +kernel
theorem dX7_part_72 : decode cX7_part 72 = .ok (.iaload, 1) := by decide +kernel
theorem dX7_part_73 : decode cX7_part 73 = .ok (.iconst (-1), 1) := by decide +kernel
theorem dX7_part_74 : decode cX7_part 74 = .ok (.if_icmp .ne 8, 3) := by decide +kernel
theorem dX7_part_77 : decode cX7_part 77 = .ok (.bipush (-6), 2) := by decide +kernel
theorem dX7_part_79 : decode cX7_part 79 = .ok (.goto 12, 3) := by decide +kernel
theorem dX7_part_82 : decode cX7_part 82 = .ok (.aload_n 0, 1) := by decide +kernel
theorem dX7_part_83 : decode cX7_part 83 = .ok (.getfield 51, 3) := by decide +kernel
theorem dX7_part_86 : decode cX7_part 86 = .ok (.getfield 213, 3) := by decide +kernel
theorem dX7_part_89 : decode cX7_part 89 = .ok (.iload_n 2, 1) := by decide +kernel
theorem dX7_part_90 : decode cX7_part 90 = .ok (.iaload, 1) := by decide +kernel
theorem dX7_part_91 : decode cX7_part 91 = .ok (.ireturn, 1) := by decide +kernel
theorem dX7_part_92 : decode cX7_part 92 = .ok (.aload_n 0, 1) := by decide +kernel
theorem dX7_part_93 : decode cX7_part 93 = .ok (.getfield 51, 3) := by decide +kernel
theorem dX7_part_96 : decode cX7_part 96 = .ok (.getfield 216, 3) := by decide +kernel
theorem dX7_part_99 : decode cX7_part 99 = .ok (.iload_n 2, 1) := by decide +kernel
theorem dX7_part_100 : decode cX7_part 100 = .ok (.iaload, 1) := by decide +kernel
theorem dX7_part_101 : decode cX7_part 101 = .ok (.ireturn, 1) := by decide +kernel
theorem dX7_part_102 : decode cX7_part 102 = .ok (.aload_n 0, 1) := by decide +kernel
theorem dX7_part_103 : decode cX7_part 103 = .ok (.getfield 51, 3) := by decide +kernel
theorem dX7_part_106 : decode cX7_part 106 = .ok (.getfield 219, 3) := by decide +kernel
theorem dX7_part_109 : decode cX7_part 109 = .ok (.iload_n 2, 1) := by decide +kernel
theorem dX7_part_110 : decode cX7_part 110 = .ok (.iaload, 1) := by decide +kernel
theorem dX7_part_111 : decode cX7_part 111 = .ok (.ireturn, 1) := by decide +kernel
theorem dX7_part_112 : decode cX7_part 112 = .ok (.bipush (-2), 2) := by decide +kernel
theorem dX7_part_114 : decode cX7_part 114 = .ok (.ireturn, 1) := by decide +kernel
set_option maxRecDepth 20000 in
theorem ggX7_share_X7_isWord : GoodIn wsX7_share wsX7_isWord := goodIn_r _ [8, 2, 9, 89, 90, 91, 92, 93, 94, 95, 96, 97, 98, 99, 100, 101, 102, 103, 104, 105, 106, 107, 108] (by decide +kernel) (by decide +kernel)
set_option maxRecDepth 20000 in
theorem gX7_share_X7_isWord : GoodIn wsX7_share (wsV RX7 120 RX7 yX7_isWord wsX7_isWord) := goodIn_app (goodIn_of _ (by decide +kernel)) ggX7_share_X7_isWord
set_option maxRecDepth 20000 in
theorem ggX7_share_X7_isPiece : GoodIn wsX7_share wsX7_isPiece := goodIn_r _ [13, 2, 14, 89, 90, 91, 92, 93, 94, 95, 96, 97, 98, 99, 100, 101, 102, 103, 104, 105, 106, 107, 108] (by decide +kernel) (by decide +kernel)
set_option maxRecDepth 20000 in
theorem gX7_share_X7_isPiece : GoodIn wsX7_share (wsV RX7 99 RX7 yX7_isPiece wsX7_isPiece) := goodIn_app (goodIn_of _ (by decide +kernel)) ggX7_share_X7_isPiece
set_option maxRecDepth 20000 in
theorem ggX7_share_X4_read : GoodIn wsX7_share wsX4_read := goodIn_r _ [19, 20, 21, 22, 23, 24, 25, 26, 27, 28, 29, 30, 31, 32, 18, 33, 34, 35, 36, 37, 38, 39, 40, 41, 42, 43, 44, 45, 46, 47, 48, 49, 50, 51, 52, 101, 102, 103, 104, 105, 106, 107, 108, 109, 110, 111, 112] (by decide +kernel) (by decide +kernel)
set_option maxRecDepth 20000 in
theorem gX7_share_X4_read : GoodIn wsX7_share (wsV RX7 201 RX4 yX4_read wsX4_read) := goodIn_app (goodIn_of _ (by decide +kernel)) ggX7_share_X4_read
set_option maxRecDepth 20000 in
theorem ggX7_share_X0_find : GoodIn wsX7_share wsX0_find := goodIn_r _ [57, 58, 59, 60, 61, 62, 63, 64, 65, 66, 31, 32, 18, 33, 21, 34, 35, 36, 37, 67, 68, 69, 70, 23, 71, 72, 73, 74, 29, 44, 45, 46, 75, 76, 77, 56, 78, 113, 114, 115, 109, 110, 111, 112] (by decide +kernel) (by decide +kernel)
set_option maxRecDepth 20000 in
theorem gX7_share_X0_find : GoodIn wsX7_share (wsV RX7 189 RX0 yX0_find wsX0_find) := goodIn_app (goodIn_of _ (by decide +kernel)) ggX7_share_X0_find
set_option maxRecDepth 20000 in
theorem ggX7_share_X0_shareOf : GoodIn wsX7_share wsX0_shareOf := goodIn_r _ [82, 59, 58, 60, 83, 66, 31, 32, 18, 33, 21, 34, 35, 36, 37, 84, 72, 73, 74, 29, 44, 45, 46, 67, 68, 69, 70, 23, 71, 85, 86, 87, 56, 88, 109, 110, 111, 112, 113, 114, 115] (by decide +kernel) (by decide +kernel)
set_option maxRecDepth 20000 in
theorem gX7_share_X0_shareOf : GoodIn wsX7_share (wsV RX7 222 RX0 yX0_shareOf wsX0_shareOf) := goodIn_app (goodIn_of _ (by decide +kernel)) ggX7_share_X0_shareOf
theorem dX7_share_0 : decode cX7_share 0 = .ok (.aload_n 0, 1) := by decide +kernel
theorem dX7_share_1 : decode cX7_share 1 = .ok (.iload_n 1, 1) := by decide +kernel
theorem dX7_share_2 : decode cX7_share 2 = .ok (.invokevirtual 120, 3) := by decide +kernel
theorem dX7_share_5 : decode cX7_share 5 = .ok (.ifCond .eq 11, 3) := by decide +kernel
theorem dX7_share_8 : decode cX7_share 8 = .ok (.aload_n 0, 1) := by decide +kernel
theorem dX7_share_9 : decode cX7_share 9 = .ok (.iload_n 2, 1) := by decide +kernel
theorem dX7_share_10 : decode cX7_share 10 = .ok (.invokevirtual 99, 3) := by decide +kernel
theorem dX7_share_13 : decode cX7_share 13 = .ok (.ifCond .ne 5, 3) := by decide +kernel
theorem dX7_share_16 : decode cX7_share 16 = .ok (.iconst (-1), 1) := by decide +kernel
theorem dX7_share_17 : decode cX7_share 17 = .ok (.ireturn, 1) := by decide +kernel
theorem dX7_share_18 : decode cX7_share 18 = .ok (.aload_n 0, 1) := by decide +kernel
theorem dX7_share_19 : decode cX7_share 19 = .ok (.getfield 44, 3) := by decide +kernel
theorem dX7_share_22 : decode cX7_share 22 = .ok (.aload_n 0, 1) := by decide +kernel
theorem dX7_share_23 : decode cX7_share 23 = .ok (.getfield 10, 3) := by decide +kernel
theorem dX7_share_26 : decode cX7_share 26 = .ok (.iload_n 1, 1) := by decide +kernel
theorem dX7_share_27 : decode cX7_share 27 = .ok (.invokevirtual 201, 3) := by decide +kernel
theorem dX7_share_30 : decode cX7_share 30 = .ok (.aload_n 0, 1) := by decide +kernel
theorem dX7_share_31 : decode cX7_share 31 = .ok (.getfield 58, 3) := by decide +kernel
theorem dX7_share_34 : decode cX7_share 34 = .ok (.aload_n 0, 1) := by decide +kernel
theorem dX7_share_35 : decode cX7_share 35 = .ok (.getfield 44, 3) := by decide +kernel
theorem dX7_share_38 : decode cX7_share 38 = .ok (.invokevirtual 189, 3) := by decide +kernel
theorem dX7_share_41 : decode cX7_share 41 = .ok (.aload_n 0, 1) := by decide +kernel
theorem dX7_share_42 : decode cX7_share 42 = .ok (.getfield 58, 3) := by decide +kernel
theorem dX7_share_45 : decode cX7_share 45 = .ok (.aload_n 0, 1) := by decide +kernel
theorem dX7_share_46 : decode cX7_share 46 = .ok (.getfield 44, 3) := by decide +kernel
theorem dX7_share_49 : decode cX7_share 49 = .ok (.iload_n 2, 1) := by decide +kernel
theorem dX7_share_50 : decode cX7_share 50 = .ok (.invokevirtual 222, 3) := by decide +kernel
theorem dX7_share_53 : decode cX7_share 53 = .ok (.ireturn, 1) := by decide +kernel
set_option maxRecDepth 20000 in
theorem ggX7_count_X7_costOfAll : GoodIn wsX7_count wsX7_costOfAll := goodIn_r _ [12, 3, 13, 14, 15, 16, 17, 11, 18, 19, 20, 21, 22, 23, 24, 25, 26, 27, 28, 29, 30, 31, 32, 33, 34, 35, 36, 37, 38, 39, 40, 41, 42, 43, 44, 45, 46, 47, 48, 49, 50, 51, 52, 53, 54, 55, 56, 57, 58, 59, 60, 61, 62, 63, 64, 65, 66, 67, 68, 69, 70, 71, 72, 73, 74, 75, 76, 77, 78, 79, 80, 81, 82, 83, 84, 85, 86, 87, 88, 89, 90, 91, 92, 93, 116, 117, 118, 119, 120, 121, 122, 123, 104, 105, 106, 107, 108, 109, 110, 111, 112, 113, 114, 115, 128, 129, 130, 131, 132, 133, 134, 135, 136, 137, 138, 139] (by decide +kernel) (by decide +kernel)
set_option maxRecDepth 20000 in
theorem gX7_count_X7_costOfAll : GoodIn wsX7_count (wsV RX7 168 RX7 yX7_costOfAll wsX7_costOfAll) := goodIn_app (goodIn_of _ (by decide +kernel)) ggX7_count_X7_costOfAll
set_option maxRecDepth 20000 in
theorem ggX7_count_X7_lettersOfAll : GoodIn wsX7_count wsX7_lettersOfAll := goodIn_r _ [97, 1, 3, 98, 14, 104, 105, 106, 107, 108, 109, 110, 111, 112, 113, 114, 115, 116, 117, 118, 119, 120, 121, 122, 123] (by decide +kernel) (by decide +kernel)
set_option maxRecDepth 20000 in
theorem gX7_count_X7_lettersOfAll : GoodIn wsX7_count (wsV RX7 226 RX7 yX7_lettersOfAll wsX7_lettersOfAll) := goodIn_app (goodIn_of _ (by decide +kernel)) ggX7_count_X7_lettersOfAll
set_option maxRecDepth 20000 in
theorem ggX7_count_X7_partsOfAll : GoodIn wsX7_count wsX7_partsOfAll := goodIn_r _ [102, 1, 3, 13, 103, 14, 15, 16, 17, 11, 18, 19, 20, 21, 22, 23, 24, 25, 26, 27, 28, 29, 30, 31, 32, 33, 34, 35, 36, 37, 38, 39, 40, 41, 42, 43, 44, 45, 46, 47, 48, 49, 50, 51, 52, 53, 54, 55, 56, 57, 58, 59, 60, 61, 62, 63, 64, 65, 66, 67, 68, 69, 70, 71, 72, 73, 74, 75, 76, 77, 78, 79, 80, 81, 82, 83, 84, 85, 86, 87, 88, 89, 104, 105, 106, 107, 108, 109, 110, 111, 112, 113, 114, 115, 116, 117, 118, 119, 120, 121, 122, 123, 132, 133, 134, 135, 136, 137, 138, 139, 128, 129, 130, 131] (by decide +kernel) (by decide +kernel)
set_option maxRecDepth 20000 in
theorem gX7_count_X7_partsOfAll : GoodIn wsX7_count (wsV RX7 229 RX7 yX7_partsOfAll wsX7_partsOfAll) := goodIn_app (goodIn_of _ (by decide +kernel)) ggX7_count_X7_partsOfAll
theorem dX7_count_0 : decode cX7_count 0 = .ok (.iload_n 1, 1) := by decide +kernel
theorem dX7_count_1 : decode cX7_count 1 = .ok (.tableswitch 112 0 7 #[47, 55, 63, 72, 77, 82, 96, 104], 47) := by decide +kernel
theorem dX7_count_48 : decode cX7_count 48 = .ok (.aload_n 0, 1) := by decide +kernel
theorem dX7_count_49 : decode cX7_count 49 = .ok (.getfield 10, 3) := by decide +kernel
theorem dX7_count_52 : decode cX7_count 52 = .ok (.getfield 96, 3) := by decide +kernel
theorem dX7_count_55 : decode cX7_count 55 = .ok (.ireturn, 1) := by decide +kernel
theorem dX7_count_56 : decode cX7_count 56 = .ok (.aload_n 0, 1) := by decide +kernel
theorem dX7_count_57 : decode cX7_count 57 = .ok (.getfield 10, 3) := by decide +kernel
theorem dX7_count_60 : decode cX7_count 60 = .ok (.getfield 113, 3) := by decide +kernel
theorem dX7_count_63 : decode cX7_count 63 = .ok (.ireturn, 1) := by decide +kernel
theorem dX7_count_64 : decode cX7_count 64 = .ok (.aload_n 0, 1) := by decide +kernel
theorem dX7_count_65 : decode cX7_count 65 = .ok (.aload_n 0, 1) := by decide +kernel
theorem dX7_count_66 : decode cX7_count 66 = .ok (.getfield 10, 3) := by decide +kernel
theorem dX7_count_69 : decode cX7_count 69 = .ok (.invokevirtual 168, 3) := by decide +kernel
theorem dX7_count_72 : decode cX7_count 72 = .ok (.ireturn, 1) := by decide +kernel
theorem dX7_count_73 : decode cX7_count 73 = .ok (.aload_n 0, 1) := by decide +kernel
theorem dX7_count_74 : decode cX7_count 74 = .ok (.invokevirtual 226, 3) := by decide +kernel
theorem dX7_count_77 : decode cX7_count 77 = .ok (.ireturn, 1) := by decide +kernel
theorem dX7_count_78 : decode cX7_count 78 = .ok (.aload_n 0, 1) := by decide +kernel
theorem dX7_count_79 : decode cX7_count 79 = .ok (.invokevirtual 229, 3) := by decide +kernel
theorem dX7_count_82 : decode cX7_count 82 = .ok (.ireturn, 1) := by decide +kernel
theorem dX7_count_83 : decode cX7_count 83 = .ok (.aload_n 0, 1) := by decide +kernel
theorem dX7_count_84 : decode cX7_count 84 = .ok (.aload_n 0, 1) := by decide +kernel
theorem dX7_count_85 : decode cX7_count 85 = .ok (.getfield 10, 3) := by decide +kernel
theorem dX7_count_88 : decode cX7_count 88 = .ok (.invokevirtual 168, 3) := by decide +kernel
theorem dX7_count_91 : decode cX7_count 91 = .ok (.aload_n 0, 1) := by decide +kernel
theorem dX7_count_92 : decode cX7_count 92 = .ok (.invokevirtual 229, 3) := by decide +kernel
theorem dX7_count_95 : decode cX7_count 95 = .ok (.isub, 1) := by decide +kernel
theorem dX7_count_96 : decode cX7_count 96 = .ok (.ireturn, 1) := by decide +kernel
theorem dX7_count_97 : decode cX7_count 97 = .ok (.aload_n 0, 1) := by decide +kernel
theorem dX7_count_98 : decode cX7_count 98 = .ok (.getfield 37, 3) := by decide +kernel
theorem dX7_count_101 : decode cX7_count 101 = .ok (.getfield 88, 3) := by decide +kernel
theorem dX7_count_104 : decode cX7_count 104 = .ok (.ireturn, 1) := by decide +kernel
theorem dX7_count_105 : decode cX7_count 105 = .ok (.aload_n 0, 1) := by decide +kernel
theorem dX7_count_106 : decode cX7_count 106 = .ok (.getfield 30, 3) := by decide +kernel
theorem dX7_count_109 : decode cX7_count 109 = .ok (.getfield 232, 3) := by decide +kernel
theorem dX7_count_112 : decode cX7_count 112 = .ok (.ireturn, 1) := by decide +kernel
theorem dX7_count_113 : decode cX7_count 113 = .ok (.bipush (-2), 2) := by decide +kernel
theorem dX7_count_115 : decode cX7_count 115 = .ok (.ireturn, 1) := by decide +kernel
set_option maxRecDepth 20000 in
theorem ggX7_costWith_X7_newPieceError : GoodIn wsX7_costWith wsX7_newPieceError := goodIn_r _ [9, 3, 2, 10, 11, 12, 13, 14, 15, 16, 17, 18, 19, 20, 21, 22, 23, 24, 25, 26, 27, 28, 29, 30, 31, 32, 33, 34, 35, 36, 131, 132, 133, 134, 135, 136, 137, 138, 139, 140, 141, 142, 145, 146, 147, 148, 149, 150, 151, 152, 143, 144] (by decide +kernel) (by decide +kernel)
set_option maxRecDepth 20000 in
theorem gX7_costWith_X7_newPieceError : GoodIn wsX7_costWith (wsV RX7 76 RX7 yX7_newPieceError wsX7_newPieceError) := goodIn_app (goodIn_of _ (by decide +kernel)) ggX7_costWith_X7_newPieceError
set_option maxRecDepth 20000 in
theorem ggX7_costWith_X2_copyFrom : GoodIn wsX7_costWith wsX2_copyFrom := goodIn_r _ [40, 35, 36, 41, 42, 43, 44, 45, 46, 47, 48, 49, 50, 145, 146, 147, 148, 149, 150, 151, 152] (by decide +kernel) (by decide +kernel)
set_option maxRecDepth 20000 in
theorem gX7_costWith_X2_copyFrom : GoodIn wsX7_costWith (wsV RX7 235 RX2 yX2_copyFrom wsX2_copyFrom) := goodIn_app (goodIn_of _ (by decide +kernel)) ggX7_costWith_X2_copyFrom
set_option maxRecDepth 20000 in
theorem ggX7_costWith_X6_text : GoodIn wsX7_costWith wsX6_text := goodIn_r _ [29, 16, 21, 22, 23, 14, 24, 25, 143, 144] (by decide +kernel) (by decide +kernel)
set_option maxRecDepth 20000 in
theorem gX7_costWith_X6_text : GoodIn wsX7_costWith (wsV RX7 84 RX6 yX6_text wsX6_text) := goodIn_app (goodIn_of _ (by decide +kernel)) ggX7_costWith_X6_text
set_option maxRecDepth 20000 in
theorem ggX7_costWith_X2_addPiece : GoodIn wsX7_costWith wsX2_addPiece := goodIn_r _ [54, 35, 36, 45, 46, 145, 146, 147, 148, 149, 150, 151, 152] (by decide +kernel) (by decide +kernel)
set_option maxRecDepth 20000 in
theorem gX7_costWith_X2_addPiece : GoodIn wsX7_costWith (wsV RX7 92 RX2 yX2_addPiece wsX2_addPiece) := goodIn_app (goodIn_of _ (by decide +kernel)) ggX7_costWith_X2_addPiece
set_option maxRecDepth 20000 in
theorem ggX7_costWith_X7_costOfAll : GoodIn wsX7_costWith wsX7_costOfAll := goodIn_r _ [58, 59, 60, 61, 62, 63, 64, 8, 65, 66, 67, 68, 69, 70, 71, 72, 73, 74, 75, 76, 42, 43, 44, 77, 78, 79, 80, 81, 82, 83, 84, 85, 86, 87, 88, 89, 33, 90, 50, 91, 92, 93, 94, 31, 32, 34, 35, 36, 95, 96, 97, 98, 99, 100, 101, 102, 103, 104, 105, 106, 107, 108, 109, 110, 111, 112, 113, 114, 115, 116, 117, 118, 119, 120, 121, 122, 123, 124, 125, 126, 127, 128, 129, 130, 145, 146, 147, 148, 149, 150, 151, 152, 131, 132, 133, 134, 135, 136, 137, 138, 139, 140, 141, 142, 153, 154, 155, 156, 157, 158, 159, 160, 161, 162, 163, 164] (by decide +kernel) (by decide +kernel)
set_option maxRecDepth 20000 in
theorem gX7_costWith_X7_costOfAll : GoodIn wsX7_costWith (wsV RX7 168 RX7 yX7_costOfAll wsX7_costOfAll) := goodIn_app (goodIn_of _ (by decide +kernel)) ggX7_costWith_X7_costOfAll
theorem dX7_costWith_0 : decode cX7_costWith 0 = .ok (.aload_n 0, 1) := by decide +kernel
theorem dX7_costWith_1 : decode cX7_costWith 1 = .ok (.iload_n 1, 1) := by decide +kernel
theorem dX7_costWith_2 : decode cX7_costWith 2 = .ok (.invokevirtual 76, 3) := by decide +kernel
theorem dX7_costWith_5 : decode cX7_costWith 5 = .ok (.istore_n 2, 1) := by decide +kernel
theorem dX7_costWith_6 : decode cX7_costWith 6 = .ok (.iload_n 2, 1) := by decide +kernel
theorem dX7_costWith_7 : decode cX7_costWith 7 = .ok (.ifCond .eq 5, 3) := by decide +kernel
theorem dX7_costWith_10 : decode cX7_costWith 10 = .ok (.iload_n 2, 1) := by decide +kernel
theorem dX7_costWith_11 : decode cX7_costWith 11 = .ok (.ireturn, 1) := by decide +kernel
theorem dX7_costWith_12 : decode cX7_costWith 12 = .ok (.aload_n 0, 1) := by decide +kernel
theorem dX7_costWith_13 : decode cX7_costWith 13 = .ok (.getfield 16, 3) := by decide +kernel
theorem dX7_costWith_16 : decode cX7_costWith 16 = .ok (.aload_n 0, 1) := by decide +kernel
theorem dX7_costWith_17 : decode cX7_costWith 17 = .ok (.getfield 10, 3) := by decide +kernel
theorem dX7_costWith_20 : decode cX7_costWith 20 = .ok (.invokevirtual 235, 3) := by decide +kernel
theorem dX7_costWith_23 : decode cX7_costWith 23 = .ok (.aload_n 0, 1) := by decide +kernel
theorem dX7_costWith_24 : decode cX7_costWith 24 = .ok (.getfield 16, 3) := by decide +kernel
theorem dX7_costWith_27 : decode cX7_costWith 27 = .ok (.aload_n 0, 1) := by decide +kernel
theorem dX7_costWith_28 : decode cX7_costWith 28 = .ok (.getfield 37, 3) := by decide +kernel
theorem dX7_costWith_31 : decode cX7_costWith 31 = .ok (.invokevirtual 84, 3) := by decide +kernel
theorem dX7_costWith_34 : decode cX7_costWith 34 = .ok (.aload_n 0, 1) := by decide +kernel
theorem dX7_costWith_35 : decode cX7_costWith 35 = .ok (.getfield 37, 3) := by decide +kernel
theorem dX7_costWith_38 : decode cX7_costWith 38 = .ok (.getfield 88, 3) := by decide +kernel
theorem dX7_costWith_41 : decode cX7_costWith 41 = .ok (.iload_n 1, 1) := by decide +kernel
theorem dX7_costWith_42 : decode cX7_costWith 42 = .ok (.invokevirtual 92, 3) := by decide +kernel
theorem dX7_costWith_45 : decode cX7_costWith 45 = .ok (.aload_n 0, 1) := by decide +kernel
theorem dX7_costWith_46 : decode cX7_costWith 46 = .ok (.aload_n 0, 1) := by decide +kernel
theorem dX7_costWith_47 : decode cX7_costWith 47 = .ok (.getfield 16, 3) := by decide +kernel
theorem dX7_costWith_50 : decode cX7_costWith 50 = .ok (.invokevirtual 168, 3) := by decide +kernel
theorem dX7_costWith_53 : decode cX7_costWith 53 = .ok (.ireturn, 1) := by decide +kernel
set_option maxRecDepth 20000 in
theorem ggX7_growing_X7_findGrowing : GoodIn wsX7_growing wsX7_findGrowing := goodIn_r _ [10, 1, 11, 12, 13, 14, 15, 16, 17, 18, 19, 20, 21, 22, 23, 24, 25, 26, 9, 27, 28, 29, 30, 31, 32, 33, 34, 35, 36, 37, 38, 39, 40, 41, 42, 43, 44, 45, 46, 47, 48, 49, 50, 51, 52, 53, 54, 55, 56, 57, 58, 59, 60, 61, 62, 63, 64, 65, 66, 67, 68, 69, 70, 71, 72, 73, 74, 75, 76, 77, 78, 79, 80, 81, 82, 83, 84, 85, 86, 87, 88, 89, 90, 91, 92, 93, 94, 95, 96, 97, 98, 99, 100, 101, 102, 103, 104, 105, 106, 107, 108, 109, 110, 111, 112, 113, 114, 115, 116, 117, 118, 119, 123, 124, 125, 126, 127, 128, 129, 130, 131, 132, 133, 134, 135, 136, 137, 138, 139, 140, 141, 142, 143, 144, 145, 146, 147, 148, 149, 150, 151, 152, 153, 154, 155, 156, 157, 158, 159] (by decide +kernel) (by decide +kernel)
set_option maxRecDepth 20000 in
theorem gX7_growing_X7_findGrowing : GoodIn wsX7_growing (wsV RX7 129 RX7 yX7_findGrowing wsX7_findGrowing) := goodIn_app (goodIn_of _ (by decide +kernel)) ggX7_growing_X7_findGrowing
set_option maxRecDepth 20000 in
theorem ggX7_growing_X7_letterOfText : GoodIn wsX7_growing wsX7_letterOfText := goodIn_r _ [122] (by decide +kernel) (by decide +kernel)
set_option maxRecDepth 20000 in
theorem gX7_growing_X7_letterOfText : GoodIn wsX7_growing (va_wsS RX7 158 yX7_letterOfText wsX7_letterOfText) := goodIn_app (goodIn_of _ (by decide +kernel)) ggX7_growing_X7_letterOfText
theorem dX7_growing_0 : decode cX7_growing 0 = .ok (.iload_n 1, 1) := by decide +kernel
theorem dX7_growing_1 : decode cX7_growing 1 = .ok (.ifCond .lt 9, 3) := by decide +kernel
theorem dX7_growing_4 : decode cX7_growing 4 = .ok (.iload_n 1, 1) := by decide +kernel
theorem dX7_growing_5 : decode cX7_growing 5 = .ok (.bipush 6, 2) := by decide +kernel
theorem dX7_growing_7 : decode cX7_growing 7 = .ok (.if_icmp .le 6, 3) := by decide +kernel
theorem dX7_growing_10 : decode cX7_growing 10 = .ok (.bipush (-2), 2) := by decide +kernel
theorem dX7_growing_12 : decode cX7_growing 12 = .ok (.ireturn, 1) := by decide +kernel
theorem dX7_growing_13 : decode cX7_growing 13 = .ok (.aload_n 0, 1) := by decide +kernel
theorem dX7_growing_14 : decode cX7_growing 14 = .ok (.invokevirtual 129, 3) := by decide +kernel
theorem dX7_growing_17 : decode cX7_growing 17 = .ok (.istore_n 2, 1) := by decide +kernel
theorem dX7_growing_18 : decode cX7_growing 18 = .ok (.iload_n 2, 1) := by decide +kernel
theorem dX7_growing_19 : decode cX7_growing 19 = .ok (.ifCond .ge 6, 3) := by decide +kernel
theorem dX7_growing_22 : decode cX7_growing 22 = .ok (.bipush (-6), 2) := by decide +kernel
theorem dX7_growing_24 : decode cX7_growing 24 = .ok (.ireturn, 1) := by decide +kernel
theorem dX7_growing_25 : decode cX7_growing 25 = .ok (.iload_n 1, 1) := by decide +kernel
theorem dX7_growing_26 : decode cX7_growing 26 = .ok (.tableswitch 56 0 2 #[26, 36, 46], 26) := by decide +kernel
theorem dX7_growing_52 : decode cX7_growing 52 = .ok (.aload_n 0, 1) := by decide +kernel
theorem dX7_growing_53 : decode cX7_growing 53 = .ok (.getfield 65, 3) := by decide +kernel
theorem dX7_growing_56 : decode cX7_growing 56 = .ok (.getfield 134, 3) := by decide +kernel
theorem dX7_growing_59 : decode cX7_growing 59 = .ok (.iload_n 2, 1) := by decide +kernel
theorem dX7_growing_60 : decode cX7_growing 60 = .ok (.iaload, 1) := by decide +kernel
theorem dX7_growing_61 : decode cX7_growing 61 = .ok (.ireturn, 1) := by decide +kernel
theorem dX7_growing_62 : decode cX7_growing 62 = .ok (.aload_n 0, 1) := by decide +kernel
theorem dX7_growing_63 : decode cX7_growing 63 = .ok (.getfield 65, 3) := by decide +kernel
theorem dX7_growing_66 : decode cX7_growing 66 = .ok (.getfield 238, 3) := by decide +kernel
theorem dX7_growing_69 : decode cX7_growing 69 = .ok (.iload_n 2, 1) := by decide +kernel
theorem dX7_growing_70 : decode cX7_growing 70 = .ok (.iaload, 1) := by decide +kernel
theorem dX7_growing_71 : decode cX7_growing 71 = .ok (.ireturn, 1) := by decide +kernel
theorem dX7_growing_72 : decode cX7_growing 72 = .ok (.aload_n 0, 1) := by decide +kernel
theorem dX7_growing_73 : decode cX7_growing 73 = .ok (.getfield 65, 3) := by decide +kernel
theorem dX7_growing_76 : decode cX7_growing 76 = .ok (.getfield 137, 3) := by decide +kernel
theorem dX7_growing_79 : decode cX7_growing 79 = .ok (.iload_n 2, 1) := by decide +kernel
theorem dX7_growing_80 : decode cX7_growing 80 = .ok (.iaload, 1) := by decide +kernel
theorem dX7_growing_81 : decode cX7_growing 81 = .ok (.ireturn, 1) := by decide +kernel
theorem dX7_growing_82 : decode cX7_growing 82 = .ok (.aload_n 0, 1) := by decide +kernel
theorem dX7_growing_83 : decode cX7_growing 83 = .ok (.getfield 65, 3) := by decide +kernel
theorem dX7_growing_86 : decode cX7_growing 86 = .ok (.getfield 132, 3) := by decide +kernel
theorem dX7_growing_89 : decode cX7_growing 89 = .ok (.iload_n 2, 1) := by decide +kernel
theorem dX7_growing_90 : decode cX7_growing 90 = .ok (.iaload, 1) := by decide +kernel
theorem dX7_growing_91 : decode cX7_growing 91 = .ok (.aload_n 0, 1) := by decide +kernel
theorem dX7_growing_92 : decode cX7_growing 92 = .ok (.getfield 65, 3) := by decide +kernel
theorem dX7_growing_95 : decode cX7_growing 95 = .ok (.getfield 134, 3) := by decide +kernel
theorem dX7_growing_98 : decode cX7_growing 98 = .ok (.iload_n 2, 1) := by decide +kernel
theorem dX7_growing_99 : decode cX7_growing 99 = .ok (.iaload, 1) := by decide +kernel
theorem dX7_growing_100 : decode cX7_growing 100 = .ok (.iload_n 1, 1) := by decide +kernel
theorem dX7_growing_101 : decode cX7_growing 101 = .ok (.iconst 3, 1) := by decide +kernel
theorem dX7_growing_102 : decode cX7_growing 102 = .ok (.isub, 1) := by decide +kernel
theorem dX7_growing_103 : decode cX7_growing 103 = .ok (.invokestatic 158, 3) := by decide +kernel
theorem dX7_growing_106 : decode cX7_growing 106 = .ok (.ireturn, 1) := by decide +kernel
set_option maxRecDepth 20000 in
theorem ggX7_least_X7_findLeast : GoodIn wsX7_least wsX7_findLeast := goodIn_r _ [5, 6, 7, 8, 9, 10, 11, 12, 4, 13, 14, 15, 16, 17, 18, 19, 20, 21, 22, 23, 24, 25, 26, 27, 28, 29, 30, 31, 32, 33, 34, 35, 36, 37, 38, 39, 40, 41, 42, 43, 44, 45, 46, 47, 48, 49, 50, 51, 52, 53, 54, 55, 56, 57, 58, 59, 60, 61, 62, 63, 64, 65, 66, 67, 68, 69, 70, 71, 72, 73, 74, 75, 76, 77, 78, 79, 80, 81, 82, 83, 84, 85, 86, 87, 88, 89, 90, 91, 92, 93, 94, 95, 96, 97, 98, 99, 100, 101, 102, 103, 104, 105, 106, 107, 108, 109, 110, 111, 112, 113, 114, 115, 116, 117, 118, 119, 120, 121, 122, 123, 124, 125, 126, 127] (by decide +kernel) (by decide +kernel)
set_option maxRecDepth 20000 in
theorem gX7_least_X7_findLeast : GoodIn wsX7_least (wsV RX7 149 RX7 yX7_findLeast wsX7_findLeast) := goodIn_app (goodIn_of _ (by decide +kernel)) ggX7_least_X7_findLeast
theorem dX7_least_0 : decode cX7_least 0 = .ok (.aload_n 0, 1) := by decide +kernel
theorem dX7_least_1 : decode cX7_least 1 = .ok (.invokevirtual 149, 3) := by decide +kernel
theorem dX7_least_4 : decode cX7_least 4 = .ok (.istore_n 1, 1) := by decide +kernel
theorem dX7_least_5 : decode cX7_least 5 = .ok (.iload_n 1, 1) := by decide +kernel
theorem dX7_least_6 : decode cX7_least 6 = .ok (.iconst (-1), 1) := by decide +kernel
theorem dX7_least_7 : decode cX7_least 7 = .ok (.if_icmp .ne 8, 3) := by decide +kernel
theorem dX7_least_10 : decode cX7_least 10 = .ok (.bipush (-6), 2) := by decide +kernel
theorem dX7_least_12 : decode cX7_least 12 = .ok (.goto 4, 3) := by decide +kernel
theorem dX7_least_15 : decode cX7_least 15 = .ok (.iload_n 1, 1) := by decide +kernel
theorem dX7_least_16 : decode cX7_least 16 = .ok (.ireturn, 1) := by decide +kernel
set_option maxRecDepth 20000 in
theorem ggX7_put_X7_charactersIn : GoodIn wsX7_put wsX7_charactersIn := goodIn_r _ [6, 7] (by decide +kernel) (by decide +kernel)
set_option maxRecDepth 20000 in
theorem gX7_put_X7_charactersIn : GoodIn wsX7_put (va_wsS RX7 241 yX7_charactersIn wsX7_charactersIn) := goodIn_app (goodIn_of _ (by decide +kernel)) ggX7_put_X7_charactersIn
set_option maxRecDepth 20000 in
theorem ggX7_put_X6_append : GoodIn wsX7_put wsX6_append := goodIn_r _ [12, 13, 14, 27, 28] (by decide +kernel) (by decide +kernel)
set_option maxRecDepth 20000 in
theorem gX7_put_X6_append : GoodIn wsX7_put (wsV RX7 245 RX6 yX6_append wsX6_append) := goodIn_app (goodIn_of _ (by decide +kernel)) ggX7_put_X6_append
theorem dX7_put_0 : decode cX7_put 0 = .ok (.lload_n 1, 1) := by decide +kernel
theorem dX7_put_1 : decode cX7_put 1 = .ok (.invokestatic 241, 3) := by decide +kernel
theorem dX7_put_4 : decode cX7_put 4 = .ok (.istore_n 3, 1) := by decide +kernel
theorem dX7_put_5 : decode cX7_put 5 = .ok (.iload_n 3, 1) := by decide +kernel
theorem dX7_put_6 : decode cX7_put 6 = .ok (.ifCond .ne 6, 3) := by decide +kernel
theorem dX7_put_9 : decode cX7_put 9 = .ok (.bipush (-2), 2) := by decide +kernel
theorem dX7_put_11 : decode cX7_put 11 = .ok (.ireturn, 1) := by decide +kernel
theorem dX7_put_12 : decode cX7_put 12 = .ok (.aload_n 0, 1) := by decide +kernel
theorem dX7_put_13 : decode cX7_put 13 = .ok (.getfield 37, 3) := by decide +kernel
theorem dX7_put_16 : decode cX7_put 16 = .ok (.getfield 88, 3) := by decide +kernel
theorem dX7_put_19 : decode cX7_put 19 = .ok (.iload_n 3, 1) := by decide +kernel
theorem dX7_put_20 : decode cX7_put 20 = .ok (.iadd, 1) := by decide +kernel
theorem dX7_put_21 : decode cX7_put 21 = .ok (.bipush 16, 2) := by decide +kernel
theorem dX7_put_23 : decode cX7_put 23 = .ok (.if_icmp .le 6, 3) := by decide +kernel
theorem dX7_put_26 : decode cX7_put 26 = .ok (.bipush (-4), 2) := by decide +kernel
theorem dX7_put_28 : decode cX7_put 28 = .ok (.ireturn, 1) := by decide +kernel
theorem dX7_put_29 : decode cX7_put 29 = .ok (.iload_n 3, 1) := by decide +kernel
theorem dX7_put_30 : decode cX7_put 30 = .ok (.iconst 1, 1) := by decide +kernel
theorem dX7_put_31 : decode cX7_put 31 = .ok (.isub, 1) := by decide +kernel
theorem dX7_put_32 : decode cX7_put 32 = .ok (.istore 4, 2) := by decide +kernel
theorem dX7_put_34 : decode cX7_put 34 = .ok (.iload 4, 2) := by decide +kernel
theorem dX7_put_36 : decode cX7_put 36 = .ok (.ifCond .lt 28, 3) := by decide +kernel
theorem dX7_put_39 : decode cX7_put 39 = .ok (.aload_n 0, 1) := by decide +kernel
theorem dX7_put_40 : decode cX7_put 40 = .ok (.getfield 37, 3) := by decide +kernel
theorem dX7_put_43 : decode cX7_put 43 = .ok (.lload_n 1, 1) := by decide +kernel
theorem dX7_put_44 : decode cX7_put 44 = .ok (.bipush 8, 2) := by decide +kernel
theorem dX7_put_46 : decode cX7_put 46 = .ok (.iload 4, 2) := by decide +kernel
theorem dX7_put_48 : decode cX7_put 48 = .ok (.imul, 1) := by decide +kernel
theorem dX7_put_49 : decode cX7_put 49 = .ok (.lushr, 1) := by decide +kernel
theorem dX7_put_50 : decode cX7_put 50 = .ok (.l2i, 1) := by decide +kernel
theorem dX7_put_51 : decode cX7_put 51 = .ok (.sipush 255, 3) := by decide +kernel
