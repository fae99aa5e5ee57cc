theorem dX8_word_64 : decode cX8_word 64 = .ok (.iadd, 1) := by decide +kernel
theorem dX8_word_65 : decode cX8_word 65 = .ok (.aload_n 0, 1) := by decide +kernel
theorem dX8_word_66 : decode cX8_word 66 = .ok (.getfield 135, 3) := by decide +kernel
theorem dX8_word_69 : decode cX8_word 69 = .ok (.iastore, 1) := by decide +kernel
theorem dX8_word_70 : decode cX8_word 70 = .ok (.aload_n 0, 1) := by decide +kernel
theorem dX8_word_71 : decode cX8_word 71 = .ok (.getfield 7, 3) := by decide +kernel
theorem dX8_word_74 : decode cX8_word 74 = .ok (.iload_n 3, 1) := by decide +kernel
theorem dX8_word_75 : decode cX8_word 75 = .ok (.iconst 1, 1) := by decide +kernel
theorem dX8_word_76 : decode cX8_word 76 = .ok (.iadd, 1) := by decide +kernel
theorem dX8_word_77 : decode cX8_word 77 = .ok (.iload_n 1, 1) := by decide +kernel
theorem dX8_word_78 : decode cX8_word 78 = .ok (.iastore, 1) := by decide +kernel
theorem dX8_word_79 : decode cX8_word 79 = .ok (.iconst 0, 1) := by decide +kernel
theorem dX8_word_80 : decode cX8_word 80 = .ok (.istore 4, 2) := by decide +kernel
theorem dX8_word_82 : decode cX8_word 82 = .ok (.iload 4, 2) := by decide +kernel
theorem dX8_word_84 : decode cX8_word 84 = .ok (.bipush 12, 2) := by decide +kernel
theorem dX8_word_86 : decode cX8_word 86 = .ok (.if_icmp .ge 45, 3) := by decide +kernel
theorem dX8_word_89 : decode cX8_word 89 = .ok (.aload_n 0, 1) := by decide +kernel
theorem dX8_word_90 : decode cX8_word 90 = .ok (.getfield 7, 3) := by decide +kernel
theorem dX8_word_93 : decode cX8_word 93 = .ok (.iload_n 3, 1) := by decide +kernel
theorem dX8_word_94 : decode cX8_word 94 = .ok (.iconst 2, 1) := by decide +kernel
theorem dX8_word_95 : decode cX8_word 95 = .ok (.iadd, 1) := by decide +kernel
theorem dX8_word_96 : decode cX8_word 96 = .ok (.iload 4, 2) := by decide +kernel
theorem dX8_word_98 : decode cX8_word 98 = .ok (.iadd, 1) := by decide +kernel
theorem dX8_word_99 : decode cX8_word 99 = .ok (.iload 4, 2) := by decide +kernel
theorem dX8_word_101 : decode cX8_word 101 = .ok (.aload_n 0, 1) := by decide +kernel
theorem dX8_word_102 : decode cX8_word 102 = .ok (.getfield 135, 3) := by decide +kernel
theorem dX8_word_105 : decode cX8_word 105 = .ok (.if_icmp .ge 18, 3) := by decide +kernel
theorem dX8_word_108 : decode cX8_word 108 = .ok (.aload_n 0, 1) := by decide +kernel
theorem dX8_word_109 : decode cX8_word 109 = .ok (.getfield 25, 3) := by decide +kernel
theorem dX8_word_112 : decode cX8_word 112 = .ok (.iload 4, 2) := by decide +kernel
theorem dX8_word_114 : decode cX8_word 114 = .ok (.iaload, 1) := by decide +kernel
theorem dX8_word_115 : decode cX8_word 115 = .ok (.bipush 97, 2) := by decide +kernel
theorem dX8_word_117 : decode cX8_word 117 = .ok (.isub, 1) := by decide +kernel
theorem dX8_word_118 : decode cX8_word 118 = .ok (.iconst 1, 1) := by decide +kernel
theorem dX8_word_119 : decode cX8_word 119 = .ok (.iadd, 1) := by decide +kernel
theorem dX8_word_120 : decode cX8_word 120 = .ok (.goto 4, 3) := by decide +kernel
theorem dX8_word_123 : decode cX8_word 123 = .ok (.iconst 0, 1) := by decide +kernel
theorem dX8_word_124 : decode cX8_word 124 = .ok (.iastore, 1) := by decide +kernel
theorem dX8_word_125 : decode cX8_word 125 = .ok (.iinc 4 1, 3) := by decide +kernel
theorem dX8_word_128 : decode cX8_word 128 = .ok (.goto (-46), 3) := by decide +kernel
theorem dX8_word_131 : decode cX8_word 131 = .ok (.aload_n 0, 1) := by decide +kernel
theorem dX8_word_132 : decode cX8_word 132 = .ok (.getfield 7, 3) := by decide +kernel
theorem dX8_word_135 : decode cX8_word 135 = .ok (.iconst 1, 1) := by decide +kernel
theorem dX8_word_136 : decode cX8_word 136 = .ok (.dup2, 1) := by decide +kernel
theorem dX8_word_137 : decode cX8_word 137 = .ok (.iaload, 1) := by decide +kernel
theorem dX8_word_138 : decode cX8_word 138 = .ok (.iconst 1, 1) := by decide +kernel
theorem dX8_word_139 : decode cX8_word 139 = .ok (.iadd, 1) := by decide +kernel
theorem dX8_word_140 : decode cX8_word 140 = .ok (.iastore, 1) := by decide +kernel
theorem dX8_word_141 : decode cX8_word 141 = .ok (.aload_n 0, 1) := by decide +kernel
theorem dX8_word_142 : decode cX8_word 142 = .ok (.iconst 0, 1) := by decide +kernel
theorem dX8_word_143 : decode cX8_word 143 = .ok (.putfield 135, 3) := by decide +kernel
theorem dX8_word_146 : decode cX8_word 146 = .ok (.iload_n 2, 1) := by decide +kernel
theorem dX8_word_147 : decode cX8_word 147 = .ok (.ireturn, 1) := by decide +kernel
set_option maxRecDepth 20000 in
theorem ggX8_recount_X8_isWord : GoodIn wsX8_recount wsX8_isWord := goodIn_r _ [6, 1, 7, 8, 5, 9, 23, 24, 25, 26, 27, 28, 29, 30, 31, 32, 33, 34, 35, 36, 37, 38, 39, 40] (by decide +kernel) (by decide +kernel)
set_option maxRecDepth 20000 in
theorem gX8_recount_X8_isWord : GoodIn wsX8_recount (wsV RX8 154 RX8 yX8_isWord wsX8_isWord) := goodIn_app (goodIn_of _ (by decide +kernel)) ggX8_recount_X8_isWord
set_option maxRecDepth 20000 in
theorem ggX8_recount_X8_within : GoodIn wsX8_recount wsX8_within := goodIn_r _ [9] (by decide +kernel) (by decide +kernel)
set_option maxRecDepth 20000 in
theorem gX8_recount_X8_within : GoodIn wsX8_recount (va_wsS RX8 64 yX8_within wsX8_within) := goodIn_app (goodIn_of _ (by decide +kernel)) ggX8_recount_X8_within
set_option maxRecDepth 20000 in
theorem ggX8_recount_X8_record : GoodIn wsX8_recount wsX8_record := goodIn_r _ [13, 14, 15, 1, 16, 17, 5, 18, 23, 24, 25, 26, 27, 28, 29, 30, 31, 32, 33, 34, 35, 36, 37, 38, 39, 40] (by decide +kernel) (by decide +kernel)
set_option maxRecDepth 20000 in
theorem gX8_recount_X8_record : GoodIn wsX8_recount (wsV RX8 144 RX8 yX8_record wsX8_record) := goodIn_app (goodIn_of _ (by decide +kernel)) ggX8_recount_X8_record
set_option maxRecDepth 20000 in
theorem ggX8_recount_X8_wordPart : GoodIn wsX8_recount wsX8_wordPart := goodIn_r _ [22, 1, 23, 24, 25, 26, 27, 28, 29, 30, 31, 32, 33, 34, 35, 36, 37, 38, 39, 40] (by decide +kernel) (by decide +kernel)
set_option maxRecDepth 20000 in
theorem gX8_recount_X8_wordPart : GoodIn wsX8_recount (wsV RX8 72 RX8 yX8_wordPart wsX8_wordPart) := goodIn_app (goodIn_of _ (by decide +kernel)) ggX8_recount_X8_wordPart
theorem dX8_recount_0 : decode cX8_recount 0 = .ok (.aload_n 0, 1) := by decide +kernel
theorem dX8_recount_1 : decode cX8_recount 1 = .ok (.iload_n 1, 1) := by decide +kernel
theorem dX8_recount_2 : decode cX8_recount 2 = .ok (.invokevirtual 154, 3) := by decide +kernel
theorem dX8_recount_5 : decode cX8_recount 5 = .ok (.ifCond .eq 13, 3) := by decide +kernel
theorem dX8_recount_8 : decode cX8_recount 8 = .ok (.iload_n 2, 1) := by decide +kernel
theorem dX8_recount_9 : decode cX8_recount 9 = .ok (.iconst 1, 1) := by decide +kernel
theorem dX8_recount_10 : decode cX8_recount 10 = .ok (.bipush 99, 2) := by decide +kernel
theorem dX8_recount_12 : decode cX8_recount 12 = .ok (.invokestatic 64, 3) := by decide +kernel
theorem dX8_recount_15 : decode cX8_recount 15 = .ok (.ifCond .ne 18, 3) := by decide +kernel
theorem dX8_recount_18 : decode cX8_recount 18 = .ok (.aload_n 0, 1) := by decide +kernel
theorem dX8_recount_19 : decode cX8_recount 19 = .ok (.iload_n 1, 1) := by decide +kernel
theorem dX8_recount_20 : decode cX8_recount 20 = .ok (.invokevirtual 154, 3) := by decide +kernel
theorem dX8_recount_23 : decode cX8_recount 23 = .ok (.ifCond .eq 8, 3) := by decide +kernel
theorem dX8_recount_26 : decode cX8_recount 26 = .ok (.bipush (-2), 2) := by decide +kernel
theorem dX8_recount_28 : decode cX8_recount 28 = .ok (.goto 4, 3) := by decide +kernel
theorem dX8_recount_31 : decode cX8_recount 31 = .ok (.iconst (-1), 1) := by decide +kernel
theorem dX8_recount_32 : decode cX8_recount 32 = .ok (.ireturn, 1) := by decide +kernel
theorem dX8_recount_33 : decode cX8_recount 33 = .ok (.aload_n 0, 1) := by decide +kernel
theorem dX8_recount_34 : decode cX8_recount 34 = .ok (.invokevirtual 144, 3) := by decide +kernel
theorem dX8_recount_37 : decode cX8_recount 37 = .ok (.aload_n 0, 1) := by decide +kernel
theorem dX8_recount_38 : decode cX8_recount 38 = .ok (.iload_n 1, 1) := by decide +kernel
theorem dX8_recount_39 : decode cX8_recount 39 = .ok (.iconst 1, 1) := by decide +kernel
theorem dX8_recount_40 : decode cX8_recount 40 = .ok (.invokevirtual 72, 3) := by decide +kernel
theorem dX8_recount_43 : decode cX8_recount 43 = .ok (.istore_n 3, 1) := by decide +kernel
theorem dX8_recount_44 : decode cX8_recount 44 = .ok (.aload_n 0, 1) := by decide +kernel
theorem dX8_recount_45 : decode cX8_recount 45 = .ok (.getfield 7, 3) := by decide +kernel
theorem dX8_recount_48 : decode cX8_recount 48 = .ok (.bipush 98, 2) := by decide +kernel
theorem dX8_recount_50 : decode cX8_recount 50 = .ok (.bipush 14, 2) := by decide +kernel
theorem dX8_recount_52 : decode cX8_recount 52 = .ok (.iload_n 1, 1) := by decide +kernel
theorem dX8_recount_53 : decode cX8_recount 53 = .ok (.imul, 1) := by decide +kernel
theorem dX8_recount_54 : decode cX8_recount 54 = .ok (.iadd, 1) := by decide +kernel
theorem dX8_recount_55 : decode cX8_recount 55 = .ok (.iconst 1, 1) := by decide +kernel
theorem dX8_recount_56 : decode cX8_recount 56 = .ok (.iadd, 1) := by decide +kernel
theorem dX8_recount_57 : decode cX8_recount 57 = .ok (.iload_n 2, 1) := by decide +kernel
theorem dX8_recount_58 : decode cX8_recount 58 = .ok (.iastore, 1) := by decide +kernel
theorem dX8_recount_59 : decode cX8_recount 59 = .ok (.iload_n 3, 1) := by decide +kernel
theorem dX8_recount_60 : decode cX8_recount 60 = .ok (.ireturn, 1) := by decide +kernel
set_option maxRecDepth 20000 in
theorem ggX8_forget_X8_isWord : GoodIn wsX8_forget wsX8_isWord := goodIn_r _ [6, 1, 7, 8, 5, 9, 19, 20, 21, 22, 23, 24, 25, 26, 27, 28, 29, 30, 31, 32, 33, 34, 35, 36] (by decide +kernel) (by decide +kernel)
set_option maxRecDepth 20000 in
theorem gX8_forget_X8_isWord : GoodIn wsX8_forget (wsV RX8 154 RX8 yX8_isWord wsX8_isWord) := goodIn_app (goodIn_of _ (by decide +kernel)) ggX8_forget_X8_isWord
set_option maxRecDepth 20000 in
theorem ggX8_forget_X8_record : GoodIn wsX8_forget wsX8_record := goodIn_r _ [13, 14, 15, 1, 16, 17, 5, 18, 19, 20, 21, 22, 23, 24, 25, 26, 27, 28, 29, 30, 31, 32, 33, 34, 35, 36] (by decide +kernel) (by decide +kernel)
set_option maxRecDepth 20000 in
theorem gX8_forget_X8_record : GoodIn wsX8_forget (wsV RX8 144 RX8 yX8_record wsX8_record) := goodIn_app (goodIn_of _ (by decide +kernel)) ggX8_forget_X8_record
theorem dX8_forget_0 : decode cX8_forget 0 = .ok (.aload_n 0, 1) := by decide +kernel
theorem dX8_forget_1 : decode cX8_forget 1 = .ok (.iload_n 1, 1) := by decide +kernel
theorem dX8_forget_2 : decode cX8_forget 2 = .ok (.invokevirtual 154, 3) := by decide +kernel
theorem dX8_forget_5 : decode cX8_forget 5 = .ok (.ifCond .ne 5, 3) := by decide +kernel
theorem dX8_forget_8 : decode cX8_forget 8 = .ok (.iconst (-1), 1) := by decide +kernel
theorem dX8_forget_9 : decode cX8_forget 9 = .ok (.ireturn, 1) := by decide +kernel
theorem dX8_forget_10 : decode cX8_forget 10 = .ok (.aload_n 0, 1) := by decide +kernel
theorem dX8_forget_11 : decode cX8_forget 11 = .ok (.invokevirtual 144, 3) := by decide +kernel
theorem dX8_forget_14 : decode cX8_forget 14 = .ok (.bipush 98, 2) := by decide +kernel
theorem dX8_forget_16 : decode cX8_forget 16 = .ok (.bipush 14, 2) := by decide +kernel
theorem dX8_forget_18 : decode cX8_forget 18 = .ok (.iload_n 1, 1) := by decide +kernel
theorem dX8_forget_19 : decode cX8_forget 19 = .ok (.imul, 1) := by decide +kernel
theorem dX8_forget_20 : decode cX8_forget 20 = .ok (.iadd, 1) := by decide +kernel
theorem dX8_forget_21 : decode cX8_forget 21 = .ok (.istore_n 2, 1) := by decide +kernel
theorem dX8_forget_22 : decode cX8_forget 22 = .ok (.iload_n 2, 1) := by decide +kernel
theorem dX8_forget_23 : decode cX8_forget 23 = .ok (.bipush 98, 2) := by decide +kernel
theorem dX8_forget_25 : decode cX8_forget 25 = .ok (.bipush 14, 2) := by decide +kernel
theorem dX8_forget_27 : decode cX8_forget 27 = .ok (.aload_n 0, 1) := by decide +kernel
theorem dX8_forget_28 : decode cX8_forget 28 = .ok (.getfield 7, 3) := by decide +kernel
theorem dX8_forget_31 : decode cX8_forget 31 = .ok (.iconst 1, 1) := by decide +kernel
theorem dX8_forget_32 : decode cX8_forget 32 = .ok (.iaload, 1) := by decide +kernel
theorem dX8_forget_33 : decode cX8_forget 33 = .ok (.iconst 1, 1) := by decide +kernel
theorem dX8_forget_34 : decode cX8_forget 34 = .ok (.isub, 1) := by decide +kernel
theorem dX8_forget_35 : decode cX8_forget 35 = .ok (.imul, 1) := by decide +kernel
theorem dX8_forget_36 : decode cX8_forget 36 = .ok (.iadd, 1) := by decide +kernel
theorem dX8_forget_37 : decode cX8_forget 37 = .ok (.if_icmp .ge 24, 3) := by decide +kernel
theorem dX8_forget_40 : decode cX8_forget 40 = .ok (.aload_n 0, 1) := by decide +kernel
theorem dX8_forget_41 : decode cX8_forget 41 = .ok (.getfield 7, 3) := by decide +kernel
theorem dX8_forget_44 : decode cX8_forget 44 = .ok (.iload_n 2, 1) := by decide +kernel
theorem dX8_forget_45 : decode cX8_forget 45 = .ok (.aload_n 0, 1) := by decide +kernel
theorem dX8_forget_46 : decode cX8_forget 46 = .ok (.getfield 7, 3) := by decide +kernel
theorem dX8_forget_49 : decode cX8_forget 49 = .ok (.iload_n 2, 1) := by decide +kernel
theorem dX8_forget_50 : decode cX8_forget 50 = .ok (.bipush 14, 2) := by decide +kernel
theorem dX8_forget_52 : decode cX8_forget 52 = .ok (.iadd, 1) := by decide +kernel
theorem dX8_forget_53 : decode cX8_forget 53 = .ok (.iaload, 1) := by decide +kernel
theorem dX8_forget_54 : decode cX8_forget 54 = .ok (.iastore, 1) := by decide +kernel
theorem dX8_forget_55 : decode cX8_forget 55 = .ok (.iinc 2 1, 3) := by decide +kernel
theorem dX8_forget_58 : decode cX8_forget 58 = .ok (.goto (-36), 3) := by decide +kernel
theorem dX8_forget_61 : decode cX8_forget 61 = .ok (.aload_n 0, 1) := by decide +kernel
theorem dX8_forget_62 : decode cX8_forget 62 = .ok (.getfield 7, 3) := by decide +kernel
theorem dX8_forget_65 : decode cX8_forget 65 = .ok (.iconst 1, 1) := by decide +kernel
theorem dX8_forget_66 : decode cX8_forget 66 = .ok (.dup2, 1) := by decide +kernel
theorem dX8_forget_67 : decode cX8_forget 67 = .ok (.iaload, 1) := by decide +kernel
theorem dX8_forget_68 : decode cX8_forget 68 = .ok (.iconst 1, 1) := by decide +kernel
theorem dX8_forget_69 : decode cX8_forget 69 = .ok (.isub, 1) := by decide +kernel
theorem dX8_forget_70 : decode cX8_forget 70 = .ok (.iastore, 1) := by decide +kernel
theorem dX8_forget_71 : decode cX8_forget 71 = .ok (.aload_n 0, 1) := by decide +kernel
theorem dX8_forget_72 : decode cX8_forget 72 = .ok (.getfield 7, 3) := by decide +kernel
theorem dX8_forget_75 : decode cX8_forget 75 = .ok (.iconst 1, 1) := by decide +kernel
theorem dX8_forget_76 : decode cX8_forget 76 = .ok (.iaload, 1) := by decide +kernel
theorem dX8_forget_77 : decode cX8_forget 77 = .ok (.ireturn, 1) := by decide +kernel
set_option maxRecDepth 20000 in
theorem ggX8_grow_X8_growsAt : GoodIn wsX8_grow wsX8_growsAt := goodIn_r _ [8, 9, 2, 10, 11, 12, 7, 13, 1, 14, 15, 3, 16, 17, 18, 19, 20, 21, 22, 23, 24, 25, 26, 27, 28, 29, 30, 31, 32, 33, 34, 35, 36, 37, 38, 39, 40, 41, 42, 43, 44, 45, 46, 47, 48, 49, 50, 51, 52, 53, 73, 74, 75, 76, 77, 78, 79, 80, 81, 82, 83, 84, 85, 86, 87, 88, 89, 90] (by decide +kernel) (by decide +kernel)
set_option maxRecDepth 20000 in
theorem gX8_grow_X8_growsAt : GoodIn wsX8_grow (wsV RX8 157 RX8 yX8_growsAt wsX8_growsAt) := goodIn_app (goodIn_of _ (by decide +kernel)) ggX8_grow_X8_growsAt
set_option maxRecDepth 20000 in
theorem ggX8_grow_X8_record : GoodIn wsX8_grow wsX8_record := goodIn_r _ [57, 58, 59, 1, 60, 61, 7, 62, 73, 74, 75, 76, 77, 78, 79, 80, 81, 82, 83, 84, 85, 86, 87, 88, 89, 90] (by decide +kernel) (by decide +kernel)
set_option maxRecDepth 20000 in
theorem gX8_grow_X8_record : GoodIn wsX8_grow (wsV RX8 144 RX8 yX8_record wsX8_record) := goodIn_app (goodIn_of _ (by decide +kernel)) ggX8_grow_X8_record
set_option maxRecDepth 20000 in
theorem ggX8_grow_X8_addPiece : GoodIn wsX8_grow wsX8_addPiece := goodIn_r _ [66, 1, 67, 68, 7, 69, 70, 71, 72, 73, 74, 75, 76, 77, 78, 79, 80, 81, 82, 83, 84, 85, 86, 87, 88, 89, 90] (by decide +kernel) (by decide +kernel)
set_option maxRecDepth 20000 in
theorem gX8_grow_X8_addPiece : GoodIn wsX8_grow (wsV RX8 147 RX8 yX8_addPiece wsX8_addPiece) := goodIn_app (goodIn_of _ (by decide +kernel)) ggX8_grow_X8_addPiece
theorem dX8_grow_0 : decode cX8_grow 0 = .ok (.aload_n 0, 1) := by decide +kernel
theorem dX8_grow_1 : decode cX8_grow 1 = .ok (.getfield 7, 3) := by decide +kernel
theorem dX8_grow_4 : decode cX8_grow 4 = .ok (.iconst 0, 1) := by decide +kernel
theorem dX8_grow_5 : decode cX8_grow 5 = .ok (.iaload, 1) := by decide +kernel
theorem dX8_grow_6 : decode cX8_grow 6 = .ok (.bipush 16, 2) := by decide +kernel
theorem dX8_grow_8 : decode cX8_grow 8 = .ok (.if_icmp .ne 6, 3) := by decide +kernel
theorem dX8_grow_11 : decode cX8_grow 11 = .ok (.bipush (-4), 2) := by decide +kernel
theorem dX8_grow_13 : decode cX8_grow 13 = .ok (.ireturn, 1) := by decide +kernel
theorem dX8_grow_14 : decode cX8_grow 14 = .ok (.aload_n 0, 1) := by decide +kernel
theorem dX8_grow_15 : decode cX8_grow 15 = .ok (.invokevirtual 157, 3) := by decide +kernel
theorem dX8_grow_18 : decode cX8_grow 18 = .ok (.istore_n 1, 1) := by decide +kernel
theorem dX8_grow_19 : decode cX8_grow 19 = .ok (.iload_n 1, 1) := by decide +kernel
theorem dX8_grow_20 : decode cX8_grow 20 = .ok (.bipush (-6), 2) := by decide +kernel
theorem dX8_grow_22 : decode cX8_grow 22 = .ok (.if_icmp .ne 6, 3) := by decide +kernel
theorem dX8_grow_25 : decode cX8_grow 25 = .ok (.bipush (-5), 2) := by decide +kernel
theorem dX8_grow_27 : decode cX8_grow 27 = .ok (.ireturn, 1) := by decide +kernel
theorem dX8_grow_28 : decode cX8_grow 28 = .ok (.aload_n 0, 1) := by decide +kernel
theorem dX8_grow_29 : decode cX8_grow 29 = .ok (.invokevirtual 144, 3) := by decide +kernel
theorem dX8_grow_32 : decode cX8_grow 32 = .ok (.aload_n 0, 1) := by decide +kernel
theorem dX8_grow_33 : decode cX8_grow 33 = .ok (.aload_n 0, 1) := by decide +kernel
theorem dX8_grow_34 : decode cX8_grow 34 = .ok (.getfield 44, 3) := by decide +kernel
theorem dX8_grow_37 : decode cX8_grow 37 = .ok (.iload_n 1, 1) := by decide +kernel
theorem dX8_grow_38 : decode cX8_grow 38 = .ok (.iaload, 1) := by decide +kernel
theorem dX8_grow_39 : decode cX8_grow 39 = .ok (.aload_n 0, 1) := by decide +kernel
theorem dX8_grow_40 : decode cX8_grow 40 = .ok (.getfield 50, 3) := by decide +kernel
theorem dX8_grow_43 : decode cX8_grow 43 = .ok (.iload_n 1, 1) := by decide +kernel
theorem dX8_grow_44 : decode cX8_grow 44 = .ok (.iaload, 1) := by decide +kernel
theorem dX8_grow_45 : decode cX8_grow 45 = .ok (.invokevirtual 147, 3) := by decide +kernel
theorem dX8_grow_48 : decode cX8_grow 48 = .ok (.ireturn, 1) := by decide +kernel
set_option maxRecDepth 20000 in
theorem ggX8_tune_X8_record : GoodIn wsX8_tune wsX8_record := goodIn_r _ [7, 8, 9, 1, 10, 11, 6, 12, 56, 57, 58, 59, 60, 61, 62, 63, 64, 65, 66, 67, 68, 69, 70, 71, 72, 73] (by decide +kernel) (by decide +kernel)
set_option maxRecDepth 20000 in
theorem gX8_tune_X8_record : GoodIn wsX8_tune (wsV RX8 144 RX8 yX8_record wsX8_record) := goodIn_app (goodIn_of _ (by decide +kernel)) ggX8_tune_X8_record
set_option maxRecDepth 20000 in
theorem ggX8_tune_X8_findBears : GoodIn wsX8_tune wsX8_findBears := goodIn_r _ [16, 1, 2, 17, 18, 19, 6, 20, 21, 22, 23, 24, 25, 26, 27, 28, 29, 30, 31, 32, 33, 34, 35, 36, 37, 38, 39, 40, 41, 42, 43, 44, 45, 46, 47, 48, 49, 50, 51, 52, 53, 54, 55, 56, 57, 58, 59, 60, 61, 62, 63, 64, 65, 66, 67, 68, 69, 70, 71, 72, 73] (by decide +kernel) (by decide +kernel)
set_option maxRecDepth 20000 in
theorem gX8_tune_X8_findBears : GoodIn wsX8_tune (wsV RX8 160 RX8 yX8_findBears wsX8_findBears) := goodIn_app (goodIn_of _ (by decide +kernel)) ggX8_tune_X8_findBears
set_option maxRecDepth 20000 in
theorem ggX8_tune_X8_piecePart : GoodIn wsX8_tune wsX8_piecePart := goodIn_r _ [50, 1, 56, 57, 58, 59, 60, 61, 62, 63, 64, 65, 66, 67, 68, 69, 70, 71, 72, 73] (by decide +kernel) (by decide +kernel)
set_option maxRecDepth 20000 in
theorem gX8_tune_X8_piecePart : GoodIn wsX8_tune (wsV RX8 68 RX8 yX8_piecePart wsX8_piecePart) := goodIn_app (goodIn_of _ (by decide +kernel)) ggX8_tune_X8_piecePart
theorem dX8_tune_0 : decode cX8_tune 0 = .ok (.aload_n 0, 1) := by decide +kernel
theorem dX8_tune_1 : decode cX8_tune 1 = .ok (.invokevirtual 144, 3) := by decide +kernel
theorem dX8_tune_4 : decode cX8_tune 4 = .ok (.aload_n 0, 1) := by decide +kernel
theorem dX8_tune_5 : decode cX8_tune 5 = .ok (.invokevirtual 160, 3) := by decide +kernel
theorem dX8_tune_8 : decode cX8_tune 8 = .ok (.iconst 0, 1) := by decide +kernel
theorem dX8_tune_9 : decode cX8_tune 9 = .ok (.istore_n 1, 1) := by decide +kernel
theorem dX8_tune_10 : decode cX8_tune 10 = .ok (.iconst 0, 1) := by decide +kernel
theorem dX8_tune_11 : decode cX8_tune 11 = .ok (.istore_n 2, 1) := by decide +kernel
theorem dX8_tune_12 : decode cX8_tune 12 = .ok (.iload_n 2, 1) := by decide +kernel
theorem dX8_tune_13 : decode cX8_tune 13 = .ok (.aload_n 0, 1) := by decide +kernel
theorem dX8_tune_14 : decode cX8_tune 14 = .ok (.getfield 7, 3) := by decide +kernel
theorem dX8_tune_17 : decode cX8_tune 17 = .ok (.iconst 0, 1) := by decide +kernel
theorem dX8_tune_18 : decode cX8_tune 18 = .ok (.iaload, 1) := by decide +kernel
theorem dX8_tune_19 : decode cX8_tune 19 = .ok (.if_icmp .ge 30, 3) := by decide +kernel
theorem dX8_tune_22 : decode cX8_tune 22 = .ok (.aload_n 0, 1) := by decide +kernel
theorem dX8_tune_23 : decode cX8_tune 23 = .ok (.getfield 53, 3) := by decide +kernel
theorem dX8_tune_26 : decode cX8_tune 26 = .ok (.iload_n 2, 1) := by decide +kernel
theorem dX8_tune_27 : decode cX8_tune 27 = .ok (.iaload, 1) := by decide +kernel
theorem dX8_tune_28 : decode cX8_tune 28 = .ok (.iload_n 1, 1) := by decide +kernel
theorem dX8_tune_29 : decode cX8_tune 29 = .ok (.if_icmp .le 12, 3) := by decide +kernel
theorem dX8_tune_32 : decode cX8_tune 32 = .ok (.aload_n 0, 1) := by decide +kernel
theorem dX8_tune_33 : decode cX8_tune 33 = .ok (.getfield 53, 3) := by decide +kernel
theorem dX8_tune_36 : decode cX8_tune 36 = .ok (.iload_n 2, 1) := by decide +kernel
theorem dX8_tune_37 : decode cX8_tune 37 = .ok (.iaload, 1) := by decide +kernel
theorem dX8_tune_38 : decode cX8_tune 38 = .ok (.goto 4, 3) := by decide +kernel
theorem dX8_tune_41 : decode cX8_tune 41 = .ok (.iload_n 1, 1) := by decide +kernel
theorem dX8_tune_42 : decode cX8_tune 42 = .ok (.istore_n 1, 1) := by decide +kernel
theorem dX8_tune_43 : decode cX8_tune 43 = .ok (.iinc 2 1, 3) := by decide +kernel
theorem dX8_tune_46 : decode cX8_tune 46 = .ok (.goto (-34), 3) := by decide +kernel
theorem dX8_tune_49 : decode cX8_tune 49 = .ok (.iconst 0, 1) := by decide +kernel
theorem dX8_tune_50 : decode cX8_tune 50 = .ok (.istore_n 2, 1) := by decide +kernel
theorem dX8_tune_51 : decode cX8_tune 51 = .ok (.iconst 0, 1) := by decide +kernel
theorem dX8_tune_52 : decode cX8_tune 52 = .ok (.istore_n 3, 1) := by decide +kernel
theorem dX8_tune_53 : decode cX8_tune 53 = .ok (.iload_n 3, 1) := by decide +kernel
theorem dX8_tune_54 : decode cX8_tune 54 = .ok (.aload_n 0, 1) := by decide +kernel
theorem dX8_tune_55 : decode cX8_tune 55 = .ok (.getfield 7, 3) := by decide +kernel
theorem dX8_tune_58 : decode cX8_tune 58 = .ok (.iconst 0, 1) := by decide +kernel
theorem dX8_tune_59 : decode cX8_tune 59 = .ok (.iaload, 1) := by decide +kernel
theorem dX8_tune_60 : decode cX8_tune 60 = .ok (.if_icmp .ge 66, 3) := by decide +kernel
theorem dX8_tune_63 : decode cX8_tune 63 = .ok (.iload_n 1, 1) := by decide +kernel
theorem dX8_tune_64 : decode cX8_tune 64 = .ok (.ifCond .ne 7, 3) := by decide +kernel
theorem dX8_tune_67 : decode cX8_tune 67 = .ok (.iconst 1, 1) := by decide +kernel
theorem dX8_tune_68 : decode cX8_tune 68 = .ok (.goto 16, 3) := by decide +kernel
theorem dX8_tune_71 : decode cX8_tune 71 = .ok (.iconst 1, 1) := by decide +kernel
theorem dX8_tune_72 : decode cX8_tune 72 = .ok (.bipush 8, 2) := by decide +kernel
theorem dX8_tune_74 : decode cX8_tune 74 = .ok (.aload_n 0, 1) := by decide +kernel
theorem dX8_tune_75 : decode cX8_tune 75 = .ok (.getfield 53, 3) := by decide +kernel
theorem dX8_tune_78 : decode cX8_tune 78 = .ok (.iload_n 3, 1) := by decide +kernel
theorem dX8_tune_79 : decode cX8_tune 79 = .ok (.iaload, 1) := by decide +kernel
theorem dX8_tune_80 : decode cX8_tune 80 = .ok (.imul, 1) := by decide +kernel
theorem dX8_tune_81 : decode cX8_tune 81 = .ok (.iload_n 1, 1) := by decide +kernel
theorem dX8_tune_82 : decode cX8_tune 82 = .ok (.idiv, 1) := by decide +kernel
theorem dX8_tune_83 : decode cX8_tune 83 = .ok (.iadd, 1) := by decide +kernel
theorem dX8_tune_84 : decode cX8_tune 84 = .ok (.istore 4, 2) := by decide +kernel
theorem dX8_tune_86 : decode cX8_tune 86 = .ok (.iload_n 2, 1) := by decide +kernel
theorem dX8_tune_87 : decode cX8_tune 87 = .ok (.iload 4, 2) := by decide +kernel
theorem dX8_tune_89 : decode cX8_tune 89 = .ok (.aload_n 0, 1) := by decide +kernel
theorem dX8_tune_90 : decode cX8_tune 90 = .ok (.iload_n 3, 1) := by decide +kernel
theorem dX8_tune_91 : decode cX8_tune 91 = .ok (.iconst 1, 1) := by decide +kernel
theorem dX8_tune_92 : decode cX8_tune 92 = .ok (.invokevirtual 68, 3) := by decide +kernel
theorem dX8_tune_95 : decode cX8_tune 95 = .ok (.if_icmp .ne 7, 3) := by decide +kernel
theorem dX8_tune_98 : decode cX8_tune 98 = .ok (.iconst 0, 1) := by decide +kernel
theorem dX8_tune_99 : decode cX8_tune 99 = .ok (.goto 4, 3) := by decide +kernel
theorem dX8_tune_102 : decode cX8_tune 102 = .ok (.iconst 1, 1) := by decide +kernel
theorem dX8_tune_103 : decode cX8_tune 103 = .ok (.iadd, 1) := by decide +kernel
theorem dX8_tune_104 : decode cX8_tune 104 = .ok (.istore_n 2, 1) := by decide +kernel
theorem dX8_tune_105 : decode cX8_tune 105 = .ok (.aload_n 0, 1) := by decide +kernel
theorem dX8_tune_106 : decode cX8_tune 106 = .ok (.getfield 7, 3) := by decide +kernel
theorem dX8_tune_109 : decode cX8_tune 109 = .ok (.iconst 2, 1) := by decide +kernel
theorem dX8_tune_110 : decode cX8_tune 110 = .ok (.bipush 6, 2) := by decide +kernel
theorem dX8_tune_112 : decode cX8_tune 112 = .ok (.iload_n 3, 1) := by decide +kernel
theorem dX8_tune_113 : decode cX8_tune 113 = .ok (.imul, 1) := by decide +kernel
theorem dX8_tune_114 : decode cX8_tune 114 = .ok (.iadd, 1) := by decide +kernel
theorem dX8_tune_115 : decode cX8_tune 115 = .ok (.iconst 1, 1) := by decide +kernel
theorem dX8_tune_116 : decode cX8_tune 116 = .ok (.iadd, 1) := by decide +kernel
theorem dX8_tune_117 : decode cX8_tune 117 = .ok (.iload 4, 2) := by decide +kernel
theorem dX8_tune_119 : decode cX8_tune 119 = .ok (.iastore, 1) := by decide +kernel
theorem dX8_tune_120 : decode cX8_tune 120 = .ok (.iinc 3 1, 3) := by decide +kernel
theorem dX8_tune_123 : decode cX8_tune 123 = .ok (.goto (-70), 3) := by decide +kernel
theorem dX8_tune_126 : decode cX8_tune 126 = .ok (.iload_n 2, 1) := by decide +kernel
theorem dX8_tune_127 : decode cX8_tune 127 = .ok (.ireturn, 1) := by decide +kernel
set_option maxRecDepth 20000 in
theorem ggX8_shrink_X8_within : GoodIn wsX8_shrink wsX8_within := goodIn_r _ [5] (by decide +kernel) (by decide +kernel)
set_option maxRecDepth 20000 in
theorem gX8_shrink_X8_within : GoodIn wsX8_shrink (va_wsS RX8 64 yX8_within wsX8_within) := goodIn_app (goodIn_of _ (by decide +kernel)) ggX8_shrink_X8_within
set_option maxRecDepth 20000 in
theorem ggX8_shrink_X8_record : GoodIn wsX8_shrink wsX8_record := goodIn_r _ [9, 10, 11, 1, 12, 13, 4, 14, 75, 76, 77, 78, 79, 80, 81, 82, 83, 84, 85, 86, 87, 88, 89, 90, 91, 92] (by decide +kernel) (by decide +kernel)
set_option maxRecDepth 20000 in
theorem gX8_shrink_X8_record : GoodIn wsX8_shrink (wsV RX8 144 RX8 yX8_record wsX8_record) := goodIn_app (goodIn_of _ (by decide +kernel)) ggX8_shrink_X8_record
set_option maxRecDepth 20000 in
theorem ggX8_shrink_X8_leastOf : GoodIn wsX8_shrink wsX8_leastOf := goodIn_r _ [18, 1, 19, 20, 21, 4, 22, 23, 24, 25, 26, 27, 28, 29, 30, 31, 32, 33, 34, 35, 36, 37, 38, 39, 40, 41, 42, 43, 44, 45, 46, 47, 48, 49, 50, 51, 52, 53, 54, 55, 56, 57, 58, 59, 60, 61, 62, 63, 64, 65, 66, 67, 68, 69, 70, 12, 13, 14, 71, 72, 73, 74, 75, 76, 77, 78, 79, 80, 81, 82, 83, 84, 85, 86, 87, 88, 89, 90, 91, 92] (by decide +kernel) (by decide +kernel)
set_option maxRecDepth 20000 in
theorem gX8_shrink_X8_leastOf : GoodIn wsX8_shrink (wsV RX8 163 RX8 yX8_leastOf wsX8_leastOf) := goodIn_app (goodIn_of _ (by decide +kernel)) ggX8_shrink_X8_leastOf
set_option maxRecDepth 20000 in
theorem ggX8_shrink_X8_dropPiece : GoodIn wsX8_shrink wsX8_dropPiece := goodIn_r _ [74, 1, 75, 76, 77, 78, 79, 80, 81, 82, 83, 84, 85, 86, 87, 88, 89, 90, 91, 92] (by decide +kernel) (by decide +kernel)
set_option maxRecDepth 20000 in
theorem gX8_shrink_X8_dropPiece : GoodIn wsX8_shrink (wsV RX8 117 RX8 yX8_dropPiece wsX8_dropPiece) := goodIn_app (goodIn_of _ (by decide +kernel)) ggX8_shrink_X8_dropPiece
theorem dX8_shrink_0 : decode cX8_shrink 0 = .ok (.iload_n 1, 1) := by decide +kernel
theorem dX8_shrink_1 : decode cX8_shrink 1 = .ok (.iconst 0, 1) := by decide +kernel
theorem dX8_shrink_2 : decode cX8_shrink 2 = .ok (.bipush 16, 2) := by decide +kernel
theorem dX8_shrink_4 : decode cX8_shrink 4 = .ok (.invokestatic 64, 3) := by decide +kernel
theorem dX8_shrink_7 : decode cX8_shrink 7 = .ok (.ifCond .ne 6, 3) := by decide +kernel
theorem dX8_shrink_10 : decode cX8_shrink 10 = .ok (.bipush (-2), 2) := by decide +kernel
theorem dX8_shrink_12 : decode cX8_shrink 12 = .ok (.ireturn, 1) := by decide +kernel
theorem dX8_shrink_13 : decode cX8_shrink 13 = .ok (.aload_n 0, 1) := by decide +kernel
theorem dX8_shrink_14 : decode cX8_shrink 14 = .ok (.invokevirtual 144, 3) := by decide +kernel
theorem dX8_shrink_17 : decode cX8_shrink 17 = .ok (.iconst 0, 1) := by decide +kernel
theorem dX8_shrink_18 : decode cX8_shrink 18 = .ok (.istore_n 2, 1) := by decide +kernel
theorem dX8_shrink_19 : decode cX8_shrink 19 = .ok (.aload_n 0, 1) := by decide +kernel
theorem dX8_shrink_20 : decode cX8_shrink 20 = .ok (.getfield 7, 3) := by decide +kernel
theorem dX8_shrink_23 : decode cX8_shrink 23 = .ok (.iconst 0, 1) := by decide +kernel
theorem dX8_shrink_24 : decode cX8_shrink 24 = .ok (.iaload, 1) := by decide +kernel
theorem dX8_shrink_25 : decode cX8_shrink 25 = .ok (.iload_n 1, 1) := by decide +kernel
theorem dX8_shrink_26 : decode cX8_shrink 26 = .ok (.if_icmp .le 17, 3) := by decide +kernel
theorem dX8_shrink_29 : decode cX8_shrink 29 = .ok (.aload_n 0, 1) := by decide +kernel
theorem dX8_shrink_30 : decode cX8_shrink 30 = .ok (.aload_n 0, 1) := by decide +kernel
theorem dX8_shrink_31 : decode cX8_shrink 31 = .ok (.invokevirtual 163, 3) := by decide +kernel
theorem dX8_shrink_34 : decode cX8_shrink 34 = .ok (.invokevirtual 117, 3) := by decide +kernel
theorem dX8_shrink_37 : decode cX8_shrink 37 = .ok (.iinc 2 1, 3) := by decide +kernel
theorem dX8_shrink_40 : decode cX8_shrink 40 = .ok (.goto (-21), 3) := by decide +kernel
theorem dX8_shrink_43 : decode cX8_shrink 43 = .ok (.iload_n 2, 1) := by decide +kernel
theorem dX8_shrink_44 : decode cX8_shrink 44 = .ok (.ireturn, 1) := by decide +kernel
set_option maxRecDepth 20000 in
theorem ggX8_partOften_X8_findCut : GoodIn wsX8_partOften wsX8_findCut := goodIn_r _ [7, 8, 9, 2, 10, 11, 12, 6, 13, 1, 14, 15, 16, 17, 18, 19, 20, 21, 22, 23, 24, 25, 26, 27, 28, 29, 30, 31, 32, 33, 34, 35, 36, 37, 38, 39, 40, 41, 42, 43, 44, 45, 46, 47, 48, 49, 50, 51, 52, 53, 54, 55] (by decide +kernel) (by decide +kernel)
set_option maxRecDepth 20000 in
theorem gX8_partOften_X8_findCut : GoodIn wsX8_partOften (wsV RX8 95 RX8 yX8_findCut wsX8_findCut) := goodIn_app (goodIn_of _ (by decide +kernel)) ggX8_partOften_X8_findCut
set_option maxRecDepth 20000 in
theorem ggX8_partOften_X8_wordPart : GoodIn wsX8_partOften wsX8_wordPart := goodIn_r _ [13, 1, 38, 39, 40, 41, 42, 43, 44, 45, 46, 47, 48, 49, 50, 51, 52, 53, 54, 55] (by decide +kernel) (by decide +kernel)
set_option maxRecDepth 20000 in
theorem gX8_partOften_X8_wordPart : GoodIn wsX8_partOften (wsV RX8 72 RX8 yX8_wordPart wsX8_wordPart) := goodIn_app (goodIn_of _ (by decide +kernel)) ggX8_partOften_X8_wordPart
set_option maxRecDepth 20000 in
theorem ggX8_partOften_X8_textIn : GoodIn wsX8_partOften wsX8_textIn := goodIn_r _ [25, 10, 11, 12, 6, 13, 1, 38, 39, 40, 41, 42, 43, 44, 45, 46, 47, 48, 49, 50, 51, 52, 53, 54, 55] (by decide +kernel) (by decide +kernel)
set_option maxRecDepth 20000 in
theorem gX8_partOften_X8_textIn : GoodIn wsX8_partOften (wsV RX8 82 RX8 yX8_textIn wsX8_textIn) := goodIn_app (goodIn_of _ (by decide +kernel)) ggX8_partOften_X8_textIn
set_option maxRecDepth 20000 in
theorem ggX8_partOften_X8_textOf : GoodIn wsX8_partOften wsX8_textOf := goodIn_r _ [33, 34, 35, 36, 6, 37, 1, 38, 39, 40, 41, 42, 43, 44, 45, 46, 47, 48, 49, 50, 51, 52, 53, 54, 55] (by decide +kernel) (by decide +kernel)
set_option maxRecDepth 20000 in
theorem gX8_partOften_X8_textOf : GoodIn wsX8_partOften (wsV RX8 79 RX8 yX8_textOf wsX8_textOf) := goodIn_app (goodIn_of _ (by decide +kernel)) ggX8_partOften_X8_textOf
theorem dX8_partOften_0 : decode cX8_partOften 0 = .ok (.iconst 0, 1) := by decide +kernel
theorem dX8_partOften_1 : decode cX8_partOften 1 = .ok (.istore_n 2, 1) := by decide +kernel
theorem dX8_partOften_2 : decode cX8_partOften 2 = .ok (.iconst 0, 1) := by decide +kernel
theorem dX8_partOften_3 : decode cX8_partOften 3 = .ok (.istore_n 3, 1) := by decide +kernel
theorem dX8_partOften_4 : decode cX8_partOften 4 = .ok (.iload_n 3, 1) := by decide +kernel
theorem dX8_partOften_5 : decode cX8_partOften 5 = .ok (.aload_n 0, 1) := by decide +kernel
theorem dX8_partOften_6 : decode cX8_partOften 6 = .ok (.getfield 7, 3) := by decide +kernel
theorem dX8_partOften_9 : decode cX8_partOften 9 = .ok (.iconst 1, 1) := by decide +kernel
theorem dX8_partOften_10 : decode cX8_partOften 10 = .ok (.iaload, 1) := by decide +kernel
theorem dX8_partOften_11 : decode cX8_partOften 11 = .ok (.if_icmp .ge 78, 3) := by decide +kernel
theorem dX8_partOften_14 : decode cX8_partOften 14 = .ok (.aload_n 0, 1) := by decide +kernel
theorem dX8_partOften_15 : decode cX8_partOften 15 = .ok (.iload_n 3, 1) := by decide +kernel
theorem dX8_partOften_16 : decode cX8_partOften 16 = .ok (.invokevirtual 95, 3) := by decide +kernel
theorem dX8_partOften_19 : decode cX8_partOften 19 = .ok (.iconst 0, 1) := by decide +kernel
theorem dX8_partOften_20 : decode cX8_partOften 20 = .ok (.istore 4, 2) := by decide +kernel
theorem dX8_partOften_22 : decode cX8_partOften 22 = .ok (.iload 4, 2) := by decide +kernel
theorem dX8_partOften_24 : decode cX8_partOften 24 = .ok (.aload_n 0, 1) := by decide +kernel
theorem dX8_partOften_25 : decode cX8_partOften 25 = .ok (.iload_n 3, 1) := by decide +kernel
theorem dX8_partOften_26 : decode cX8_partOften 26 = .ok (.iconst 0, 1) := by decide +kernel
theorem dX8_partOften_27 : decode cX8_partOften 27 = .ok (.invokevirtual 72, 3) := by decide +kernel
theorem dX8_partOften_30 : decode cX8_partOften 30 = .ok (.if_icmp .ge 53, 3) := by decide +kernel
theorem dX8_partOften_33 : decode cX8_partOften 33 = .ok (.iload_n 2, 1) := by decide +kernel
theorem dX8_partOften_34 : decode cX8_partOften 34 = .ok (.aload_n 0, 1) := by decide +kernel
theorem dX8_partOften_35 : decode cX8_partOften 35 = .ok (.iload_n 3, 1) := by decide +kernel
theorem dX8_partOften_36 : decode cX8_partOften 36 = .ok (.iload 4, 2) := by decide +kernel
theorem dX8_partOften_38 : decode cX8_partOften 38 = .ok (.aload_n 0, 1) := by decide +kernel
theorem dX8_partOften_39 : decode cX8_partOften 39 = .ok (.getfield 35, 3) := by decide +kernel
theorem dX8_partOften_42 : decode cX8_partOften 42 = .ok (.iload 4, 2) := by decide +kernel
theorem dX8_partOften_44 : decode cX8_partOften 44 = .ok (.iaload, 1) := by decide +kernel
theorem dX8_partOften_45 : decode cX8_partOften 45 = .ok (.invokevirtual 82, 3) := by decide +kernel
theorem dX8_partOften_48 : decode cX8_partOften 48 = .ok (.aload_n 0, 1) := by decide +kernel
theorem dX8_partOften_49 : decode cX8_partOften 49 = .ok (.iload_n 1, 1) := by decide +kernel
theorem dX8_partOften_50 : decode cX8_partOften 50 = .ok (.invokevirtual 79, 3) := by decide +kernel
theorem dX8_partOften_53 : decode cX8_partOften 53 = .ok (.if_icmp .ne 12, 3) := by decide +kernel
theorem dX8_partOften_56 : decode cX8_partOften 56 = .ok (.aload_n 0, 1) := by decide +kernel
theorem dX8_partOften_57 : decode cX8_partOften 57 = .ok (.iload_n 3, 1) := by decide +kernel
theorem dX8_partOften_58 : decode cX8_partOften 58 = .ok (.iconst 1, 1) := by decide +kernel
theorem dX8_partOften_59 : decode cX8_partOften 59 = .ok (.invokevirtual 72, 3) := by decide +kernel
theorem dX8_partOften_62 : decode cX8_partOften 62 = .ok (.goto 4, 3) := by decide +kernel
theorem dX8_partOften_65 : decode cX8_partOften 65 = .ok (.iconst 0, 1) := by decide +kernel
theorem dX8_partOften_66 : decode cX8_partOften 66 = .ok (.iadd, 1) := by decide +kernel
theorem dX8_partOften_67 : decode cX8_partOften 67 = .ok (.istore_n 2, 1) := by decide +kernel
theorem dX8_partOften_68 : decode cX8_partOften 68 = .ok (.iload 4, 2) := by decide +kernel
theorem dX8_partOften_70 : decode cX8_partOften 70 = .ok (.aload_n 0, 1) := by decide +kernel
theorem dX8_partOften_71 : decode cX8_partOften 71 = .ok (.getfield 35, 3) := by decide +kernel
theorem dX8_partOften_74 : decode cX8_partOften 74 = .ok (.iload 4, 2) := by decide +kernel
theorem dX8_partOften_76 : decode cX8_partOften 76 = .ok (.iaload, 1) := by decide +kernel
theorem dX8_partOften_77 : decode cX8_partOften 77 = .ok (.iadd, 1) := by decide +kernel
theorem dX8_partOften_78 : decode cX8_partOften 78 = .ok (.istore 4, 2) := by decide +kernel
theorem dX8_partOften_80 : decode cX8_partOften 80 = .ok (.goto (-58), 3) := by decide +kernel
theorem dX8_partOften_83 : decode cX8_partOften 83 = .ok (.iinc 3 1, 3) := by decide +kernel
theorem dX8_partOften_86 : decode cX8_partOften 86 = .ok (.goto (-82), 3) := by decide +kernel
theorem dX8_partOften_89 : decode cX8_partOften 89 = .ok (.iload_n 2, 1) := by decide +kernel
theorem dX8_partOften_90 : decode cX8_partOften 90 = .ok (.ireturn, 1) := by decide +kernel
set_option maxRecDepth 20000 in
theorem ggX8_ofPiece_X8_isPiece : GoodIn wsX8_ofPiece wsX8_isPiece := goodIn_r _ [7, 8, 9, 10, 6, 11, 96, 97, 98, 99, 100, 101, 102, 103, 104, 105, 106, 107, 108, 109, 110, 111, 112, 113] (by decide +kernel) (by decide +kernel)
set_option maxRecDepth 20000 in
theorem gX8_ofPiece_X8_isPiece : GoodIn wsX8_ofPiece (wsV RX8 150 RX8 yX8_isPiece wsX8_isPiece) := goodIn_app (goodIn_of _ (by decide +kernel)) ggX8_ofPiece_X8_isPiece
set_option maxRecDepth 20000 in
theorem ggX8_ofPiece_X8_piecePart : GoodIn wsX8_ofPiece wsX8_piecePart := goodIn_r _ [15, 8, 96, 97, 98, 99, 100, 101, 102, 103, 104, 105, 106, 107, 108, 109, 110, 111, 112, 113] (by decide +kernel) (by decide +kernel)
set_option maxRecDepth 20000 in
theorem gX8_ofPiece_X8_piecePart : GoodIn wsX8_ofPiece (wsV RX8 68 RX8 yX8_piecePart wsX8_piecePart) := goodIn_app (goodIn_of _ (by decide +kernel)) ggX8_ofPiece_X8_piecePart
set_option maxRecDepth 20000 in
theorem ggX8_ofPiece_X8_textOf : GoodIn wsX8_ofPiece wsX8_textOf := goodIn_r _ [19, 12, 13, 14, 6, 15, 8, 96, 97, 98, 99, 100, 101, 102, 103, 104, 105, 106, 107, 108, 109, 110, 111, 112, 113] (by decide +kernel) (by decide +kernel)
set_option maxRecDepth 20000 in
theorem gX8_ofPiece_X8_textOf : GoodIn wsX8_ofPiece (wsV RX8 79 RX8 yX8_textOf wsX8_textOf) := goodIn_app (goodIn_of _ (by decide +kernel)) ggX8_ofPiece_X8_textOf
set_option maxRecDepth 20000 in
theorem ggX8_ofPiece_X8_letterOf : GoodIn wsX8_ofPiece wsX8_letterOf := goodIn_r _ [22, 23, 24, 6, 25] (by decide +kernel) (by decide +kernel)
set_option maxRecDepth 20000 in
theorem gX8_ofPiece_X8_letterOf : GoodIn wsX8_ofPiece (va_wsS RX8 123 yX8_letterOf wsX8_letterOf) := goodIn_app (goodIn_of _ (by decide +kernel)) ggX8_ofPiece_X8_letterOf
set_option maxRecDepth 20000 in
theorem ggX8_ofPiece_X8_partOften : GoodIn wsX8_ofPiece wsX8_partOften := goodIn_r _ [29, 8, 30, 31, 32, 33, 6, 34, 35, 36, 37, 38, 39, 40, 41, 42, 43, 44, 45, 46, 47, 48, 49, 50, 51, 52, 53, 54, 55, 56, 16, 17, 18, 19, 12, 13, 14, 15, 96, 97, 98, 99, 100, 101, 102, 103, 104, 105, 106, 107, 108, 109, 110, 111, 112, 113] (by decide +kernel) (by decide +kernel)
set_option maxRecDepth 20000 in
theorem gX8_ofPiece_X8_partOften : GoodIn wsX8_ofPiece (wsV RX8 166 RX8 yX8_partOften wsX8_partOften) := goodIn_app (goodIn_of _ (by decide +kernel)) ggX8_ofPiece_X8_partOften
set_option maxRecDepth 20000 in
theorem ggX8_ofPiece_X8_lossOf : GoodIn wsX8_ofPiece wsX8_lossOf := goodIn_r _ [60, 8, 61, 62, 63, 64, 6, 65, 66, 67, 68, 69, 36, 31, 32, 33, 34, 35, 30, 37, 38, 39, 40, 41, 42, 43, 44, 45, 46, 47, 48, 49, 50, 51, 52, 53, 54, 55, 56, 16, 17, 18, 19, 12, 13, 14, 15, 70, 71, 72, 73, 74, 75, 76, 77, 78, 79, 80, 96, 97, 98, 99, 100, 101, 102, 103, 104, 105, 106, 107, 108, 109, 110, 111, 112, 113] (by decide +kernel) (by decide +kernel)
set_option maxRecDepth 20000 in
theorem gX8_ofPiece_X8_lossOf : GoodIn wsX8_ofPiece (wsV RX8 120 RX8 yX8_lossOf wsX8_lossOf) := goodIn_app (goodIn_of _ (by decide +kernel)) ggX8_ofPiece_X8_lossOf
set_option maxRecDepth 20000 in
theorem ggX8_ofPiece_X8_findBears : GoodIn wsX8_ofPiece wsX8_findBears := goodIn_r _ [84, 8, 2, 85, 86, 87, 6, 88, 89, 90, 37, 38, 39, 40, 41, 42, 43, 44, 45, 46, 47, 48, 49, 50, 51, 52, 53, 54, 55, 56, 16, 17, 18, 19, 12, 13, 14, 15, 91, 92, 93, 94, 95, 96, 97, 98, 99, 100, 101, 102, 103, 104, 105, 106, 107, 108, 109, 110, 111, 112, 113] (by decide +kernel) (by decide +kernel)
set_option maxRecDepth 20000 in
theorem gX8_ofPiece_X8_findBears : GoodIn wsX8_ofPiece (wsV RX8 160 RX8 yX8_findBears wsX8_findBears) := goodIn_app (goodIn_of _ (by decide +kernel)) ggX8_ofPiece_X8_findBears
theorem dX8_ofPiece_0 : decode cX8_ofPiece 0 = .ok (.aload_n 0, 1) := by decide +kernel
theorem dX8_ofPiece_1 : decode cX8_ofPiece 1 = .ok (.iload_n 1, 1) := by decide +kernel
theorem dX8_ofPiece_2 : decode cX8_ofPiece 2 = .ok (.invokevirtual 150, 3) := by decide +kernel
theorem dX8_ofPiece_5 : decode cX8_ofPiece 5 = .ok (.ifCond .ne 5, 3) := by decide +kernel
theorem dX8_ofPiece_8 : decode cX8_ofPiece 8 = .ok (.iconst (-1), 1) := by decide +kernel
theorem dX8_ofPiece_9 : decode cX8_ofPiece 9 = .ok (.ireturn, 1) := by decide +kernel
theorem dX8_ofPiece_10 : decode cX8_ofPiece 10 = .ok (.iload_n 2, 1) := by decide +kernel
theorem dX8_ofPiece_11 : decode cX8_ofPiece 11 = .ok (.tableswitch 94 0 8 #[49, 49, 56, 56, 56, 56, 68, 74, 83], 49) := by decide +kernel
theorem dX8_ofPiece_60 : decode cX8_ofPiece 60 = .ok (.aload_n 0, 1) := by decide +kernel
theorem dX8_ofPiece_61 : decode cX8_ofPiece 61 = .ok (.iload_n 1, 1) := by decide +kernel
theorem dX8_ofPiece_62 : decode cX8_ofPiece 62 = .ok (.iload_n 2, 1) := by decide +kernel
theorem dX8_ofPiece_63 : decode cX8_ofPiece 63 = .ok (.invokevirtual 68, 3) := by decide +kernel
theorem dX8_ofPiece_66 : decode cX8_ofPiece 66 = .ok (.ireturn, 1) := by decide +kernel
theorem dX8_ofPiece_67 : decode cX8_ofPiece 67 = .ok (.aload_n 0, 1) := by decide +kernel
theorem dX8_ofPiece_68 : decode cX8_ofPiece 68 = .ok (.iload_n 1, 1) := by decide +kernel
theorem dX8_ofPiece_69 : decode cX8_ofPiece 69 = .ok (.invokevirtual 79, 3) := by decide +kernel
theorem dX8_ofPiece_72 : decode cX8_ofPiece 72 = .ok (.iload_n 2, 1) := by decide +kernel
theorem dX8_ofPiece_73 : decode cX8_ofPiece 73 = .ok (.iconst 2, 1) := by decide +kernel
theorem dX8_ofPiece_74 : decode cX8_ofPiece 74 = .ok (.isub, 1) := by decide +kernel
theorem dX8_ofPiece_75 : decode cX8_ofPiece 75 = .ok (.invokestatic 123, 3) := by decide +kernel
theorem dX8_ofPiece_78 : decode cX8_ofPiece 78 = .ok (.ireturn, 1) := by decide +kernel
theorem dX8_ofPiece_79 : decode cX8_ofPiece 79 = .ok (.aload_n 0, 1) := by decide +kernel
theorem dX8_ofPiece_80 : decode cX8_ofPiece 80 = .ok (.iload_n 1, 1) := by decide +kernel
theorem dX8_ofPiece_81 : decode cX8_ofPiece 81 = .ok (.invokevirtual 166, 3) := by decide +kernel
theorem dX8_ofPiece_84 : decode cX8_ofPiece 84 = .ok (.ireturn, 1) := by decide +kernel
theorem dX8_ofPiece_85 : decode cX8_ofPiece 85 = .ok (.aload_n 0, 1) := by decide +kernel
theorem dX8_ofPiece_86 : decode cX8_ofPiece 86 = .ok (.iload_n 1, 1) := by decide +kernel
theorem dX8_ofPiece_87 : decode cX8_ofPiece 87 = .ok (.invokevirtual 120, 3) := by decide +kernel
theorem dX8_ofPiece_90 : decode cX8_ofPiece 90 = .ok (.ldc 169, 2) := by decide +kernel
theorem dX8_ofPiece_92 : decode cX8_ofPiece 92 = .ok (.iadd, 1) := by decide +kernel
theorem dX8_ofPiece_93 : decode cX8_ofPiece 93 = .ok (.ireturn, 1) := by decide +kernel
theorem dX8_ofPiece_94 : decode cX8_ofPiece 94 = .ok (.aload_n 0, 1) := by decide +kernel
theorem dX8_ofPiece_95 : decode cX8_ofPiece 95 = .ok (.invokevirtual 160, 3) := by decide +kernel
theorem dX8_ofPiece_98 : decode cX8_ofPiece 98 = .ok (.aload_n 0, 1) := by decide +kernel
theorem dX8_ofPiece_99 : decode cX8_ofPiece 99 = .ok (.getfield 53, 3) := by decide +kernel
theorem dX8_ofPiece_102 : decode cX8_ofPiece 102 = .ok (.iload_n 1, 1) := by decide +kernel
theorem dX8_ofPiece_103 : decode cX8_ofPiece 103 = .ok (.iaload, 1) := by decide +kernel
theorem dX8_ofPiece_104 : decode cX8_ofPiece 104 = .ok (.ireturn, 1) := by decide +kernel
theorem dX8_ofPiece_105 : decode cX8_ofPiece 105 = .ok (.bipush (-2), 2) := by decide +kernel
theorem dX8_ofPiece_107 : decode cX8_ofPiece 107 = .ok (.ireturn, 1) := by decide +kernel
set_option maxRecDepth 20000 in
theorem ggX8_ofWord_X8_isWord : GoodIn wsX8_ofWord wsX8_isWord := goodIn_r _ [6, 7, 8, 9, 5, 10, 58, 59, 60, 61, 62, 63, 64, 65, 66, 67, 68, 69, 70, 71, 72, 73, 74, 75] (by decide +kernel) (by decide +kernel)
set_option maxRecDepth 20000 in
theorem gX8_ofWord_X8_isWord : GoodIn wsX8_ofWord (wsV RX8 154 RX8 yX8_isWord wsX8_isWord) := goodIn_app (goodIn_of _ (by decide +kernel)) ggX8_ofWord_X8_isWord
set_option maxRecDepth 20000 in
theorem ggX8_ofWord_X8_findCut : GoodIn wsX8_ofWord wsX8_findCut := goodIn_r _ [14, 15, 1, 16, 17, 18, 19, 5, 20, 7, 21, 22, 23, 24, 25, 26, 27, 28, 29, 30, 31, 32, 33, 34, 35, 36, 37, 38, 39, 40, 41, 42, 43, 44, 58, 59, 60, 61, 62, 63, 64, 65, 66, 67, 68, 69, 70, 71, 72, 73, 74, 75] (by decide +kernel) (by decide +kernel)
set_option maxRecDepth 20000 in
theorem gX8_ofWord_X8_findCut : GoodIn wsX8_ofWord (wsV RX8 95 RX8 yX8_findCut wsX8_findCut) := goodIn_app (goodIn_of _ (by decide +kernel)) ggX8_ofWord_X8_findCut
set_option maxRecDepth 20000 in
theorem ggX8_ofWord_X8_wordPart : GoodIn wsX8_ofWord wsX8_wordPart := goodIn_r _ [20, 7, 58, 59, 60, 61, 62, 63, 64, 65, 66, 67, 68, 69, 70, 71, 72, 73, 74, 75] (by decide +kernel) (by decide +kernel)
set_option maxRecDepth 20000 in
theorem gX8_ofWord_X8_wordPart : GoodIn wsX8_ofWord (wsV RX8 72 RX8 yX8_wordPart wsX8_wordPart) := goodIn_app (goodIn_of _ (by decide +kernel)) ggX8_ofWord_X8_wordPart
set_option maxRecDepth 20000 in
theorem ggX8_ofWord_X8_unseenIn : GoodIn wsX8_ofWord wsX8_unseenIn := goodIn_r _ [48, 16, 17, 18, 19, 5, 20, 7, 29, 30, 31, 32, 33, 34, 35, 36, 37, 38, 39, 40, 41, 42, 43, 44, 58, 59, 60, 61, 62, 63, 64, 65, 66, 67, 68, 69, 70, 71, 72, 73, 74, 75] (by decide +kernel) (by decide +kernel)
set_option maxRecDepth 20000 in
theorem gX8_ofWord_X8_unseenIn : GoodIn wsX8_ofWord (wsV RX8 99 RX8 yX8_unseenIn wsX8_unseenIn) := goodIn_app (goodIn_of _ (by decide +kernel)) ggX8_ofWord_X8_unseenIn
set_option maxRecDepth 20000 in
theorem ggX8_ofWord_X8_costOf : GoodIn wsX8_ofWord wsX8_costOf := goodIn_r _ [52, 1, 11, 12, 13, 5, 14, 15, 16, 17, 18, 19, 20, 7, 21, 22, 23, 24, 25, 26, 27, 28, 29, 30, 31, 32, 33, 34, 35, 36, 37, 38, 39, 40, 41, 42, 43, 44, 45, 46, 47, 48, 58, 59, 60, 61, 62, 63, 64, 65, 66, 67, 68, 69, 70, 71, 72, 73, 74, 75] (by decide +kernel) (by decide +kernel)
set_option maxRecDepth 20000 in
theorem gX8_ofWord_X8_costOf : GoodIn wsX8_ofWord (wsV RX8 102 RX8 yX8_costOf wsX8_costOf) := goodIn_app (goodIn_of _ (by decide +kernel)) ggX8_ofWord_X8_costOf
set_option maxRecDepth 20000 in
theorem ggX8_ofWord_X8_cutsOf : GoodIn wsX8_ofWord wsX8_cutsOf := goodIn_r _ [56, 57, 17, 18, 19, 5, 20, 7, 21, 22, 23, 24, 25, 26, 27, 28, 29, 30, 31, 32, 33, 34, 35, 36, 37, 38, 39, 40, 41, 42, 43, 44, 58, 59, 60, 61, 62, 63, 64, 65, 66, 67, 68, 69, 70, 71, 72, 73, 74, 75] (by decide +kernel) (by decide +kernel)
set_option maxRecDepth 20000 in
theorem gX8_ofWord_X8_cutsOf : GoodIn wsX8_ofWord (wsV RX8 170 RX8 yX8_cutsOf wsX8_cutsOf) := goodIn_app (goodIn_of _ (by decide +kernel)) ggX8_ofWord_X8_cutsOf
theorem dX8_ofWord_0 : decode cX8_ofWord 0 = .ok (.aload_n 0, 1) := by decide +kernel
theorem dX8_ofWord_1 : decode cX8_ofWord 1 = .ok (.iload_n 1, 1) := by decide +kernel
theorem dX8_ofWord_2 : decode cX8_ofWord 2 = .ok (.invokevirtual 154, 3) := by decide +kernel
theorem dX8_ofWord_5 : decode cX8_ofWord 5 = .ok (.ifCond .ne 5, 3) := by decide +kernel
theorem dX8_ofWord_8 : decode cX8_ofWord 8 = .ok (.iconst (-1), 1) := by decide +kernel
theorem dX8_ofWord_9 : decode cX8_ofWord 9 = .ok (.ireturn, 1) := by decide +kernel
theorem dX8_ofWord_10 : decode cX8_ofWord 10 = .ok (.aload_n 0, 1) := by decide +kernel
theorem dX8_ofWord_11 : decode cX8_ofWord 11 = .ok (.iload_n 1, 1) := by decide +kernel
theorem dX8_ofWord_12 : decode cX8_ofWord 12 = .ok (.invokevirtual 95, 3) := by decide +kernel
theorem dX8_ofWord_15 : decode cX8_ofWord 15 = .ok (.iload_n 2, 1) := by decide +kernel
theorem dX8_ofWord_16 : decode cX8_ofWord 16 = .ok (.tableswitch 72 0 5 #[40, 40, 47, 54, 60, 66], 40) := by decide +kernel
theorem dX8_ofWord_56 : decode cX8_ofWord 56 = .ok (.aload_n 0, 1) := by decide +kernel
theorem dX8_ofWord_57 : decode cX8_ofWord 57 = .ok (.iload_n 1, 1) := by decide +kernel
theorem dX8_ofWord_58 : decode cX8_ofWord 58 = .ok (.iload_n 2, 1) := by decide +kernel
theorem dX8_ofWord_59 : decode cX8_ofWord 59 = .ok (.invokevirtual 72, 3) := by decide +kernel
theorem dX8_ofWord_62 : decode cX8_ofWord 62 = .ok (.ireturn, 1) := by decide +kernel
theorem dX8_ofWord_63 : decode cX8_ofWord 63 = .ok (.aload_n 0, 1) := by decide +kernel
theorem dX8_ofWord_64 : decode cX8_ofWord 64 = .ok (.getfield 32, 3) := by decide +kernel
theorem dX8_ofWord_67 : decode cX8_ofWord 67 = .ok (.iconst 0, 1) := by decide +kernel
theorem dX8_ofWord_68 : decode cX8_ofWord 68 = .ok (.iaload, 1) := by decide +kernel
theorem dX8_ofWord_69 : decode cX8_ofWord 69 = .ok (.ireturn, 1) := by decide +kernel
theorem dX8_ofWord_70 : decode cX8_ofWord 70 = .ok (.aload_n 0, 1) := by decide +kernel
theorem dX8_ofWord_71 : decode cX8_ofWord 71 = .ok (.iload_n 1, 1) := by decide +kernel
theorem dX8_ofWord_72 : decode cX8_ofWord 72 = .ok (.invokevirtual 99, 3) := by decide +kernel
theorem dX8_ofWord_75 : decode cX8_ofWord 75 = .ok (.ireturn, 1) := by decide +kernel
theorem dX8_ofWord_76 : decode cX8_ofWord 76 = .ok (.aload_n 0, 1) := by decide +kernel
theorem dX8_ofWord_77 : decode cX8_ofWord 77 = .ok (.iload_n 1, 1) := by decide +kernel
theorem dX8_ofWord_78 : decode cX8_ofWord 78 = .ok (.invokevirtual 102, 3) := by decide +kernel
theorem dX8_ofWord_81 : decode cX8_ofWord 81 = .ok (.ireturn, 1) := by decide +kernel
theorem dX8_ofWord_82 : decode cX8_ofWord 82 = .ok (.aload_n 0, 1) := by decide +kernel
theorem dX8_ofWord_83 : decode cX8_ofWord 83 = .ok (.iload_n 1, 1) := by decide +kernel
theorem dX8_ofWord_84 : decode cX8_ofWord 84 = .ok (.invokevirtual 170, 3) := by decide +kernel
theorem dX8_ofWord_87 : decode cX8_ofWord 87 = .ok (.ireturn, 1) := by decide +kernel
theorem dX8_ofWord_88 : decode cX8_ofWord 88 = .ok (.bipush (-2), 2) := by decide +kernel
theorem dX8_ofWord_90 : decode cX8_ofWord 90 = .ok (.ireturn, 1) := by decide +kernel
set_option maxRecDepth 20000 in
theorem ggX8_letter_X8_isWord : GoodIn wsX8_letter wsX8_isWord := goodIn_r _ [5, 6, 7, 8, 4, 9, 14, 15, 16, 17, 18, 19, 20, 21, 22, 23, 24, 25, 26, 27, 28, 29, 30, 31] (by decide +kernel) (by decide +kernel)
set_option maxRecDepth 20000 in
theorem gX8_letter_X8_isWord : GoodIn wsX8_letter (wsV RX8 154 RX8 yX8_isWord wsX8_isWord) := goodIn_app (goodIn_of _ (by decide +kernel)) ggX8_letter_X8_isWord
set_option maxRecDepth 20000 in
theorem ggX8_letter_X8_wordPart : GoodIn wsX8_letter wsX8_wordPart := goodIn_r _ [13, 6, 14, 15, 16, 17, 18, 19, 20, 21, 22, 23, 24, 25, 26, 27, 28, 29, 30, 31] (by decide +kernel) (by decide +kernel)
set_option maxRecDepth 20000 in
theorem gX8_letter_X8_wordPart : GoodIn wsX8_letter (wsV RX8 72 RX8 yX8_wordPart wsX8_wordPart) := goodIn_app (goodIn_of _ (by decide +kernel)) ggX8_letter_X8_wordPart
set_option maxRecDepth 20000 in
theorem ggX8_letter_X8_within : GoodIn wsX8_letter wsX8_within := goodIn_r _ [9] (by decide +kernel) (by decide +kernel)
set_option maxRecDepth 20000 in
theorem gX8_letter_X8_within : GoodIn wsX8_letter (va_wsS RX8 64 yX8_within wsX8_within) := goodIn_app (goodIn_of _ (by decide +kernel)) ggX8_letter_X8_within
theorem dX8_letter_0 : decode cX8_letter 0 = .ok (.aload_n 0, 1) := by decide +kernel
theorem dX8_letter_1 : decode cX8_letter 1 = .ok (.iload_n 1, 1) := by decide +kernel
theorem dX8_letter_2 : decode cX8_letter 2 = .ok (.invokevirtual 154, 3) := by decide +kernel
theorem dX8_letter_5 : decode cX8_letter 5 = .ok (.ifCond .eq 32, 3) := by decide +kernel
theorem dX8_letter_8 : decode cX8_letter 8 = .ok (.iload_n 2, 1) := by decide +kernel
theorem dX8_letter_9 : decode cX8_letter 9 = .ok (.iconst 0, 1) := by decide +kernel
theorem dX8_letter_10 : decode cX8_letter 10 = .ok (.aload_n 0, 1) := by decide +kernel
theorem dX8_letter_11 : decode cX8_letter 11 = .ok (.iload_n 1, 1) := by decide +kernel
theorem dX8_letter_12 : decode cX8_letter 12 = .ok (.iconst 0, 1) := by decide +kernel
theorem dX8_letter_13 : decode cX8_letter 13 = .ok (.invokevirtual 72, 3) := by decide +kernel
theorem dX8_letter_16 : decode cX8_letter 16 = .ok (.iconst 1, 1) := by decide +kernel
theorem dX8_letter_17 : decode cX8_letter 17 = .ok (.isub, 1) := by decide +kernel
theorem dX8_letter_18 : decode cX8_letter 18 = .ok (.invokestatic 64, 3) := by decide +kernel
theorem dX8_letter_21 : decode cX8_letter 21 = .ok (.ifCond .eq 16, 3) := by decide +kernel
theorem dX8_letter_24 : decode cX8_letter 24 = .ok (.aload_n 0, 1) := by decide +kernel
theorem dX8_letter_25 : decode cX8_letter 25 = .ok (.iload_n 1, 1) := by decide +kernel
theorem dX8_letter_26 : decode cX8_letter 26 = .ok (.iconst 2, 1) := by decide +kernel
theorem dX8_letter_27 : decode cX8_letter 27 = .ok (.iload_n 2, 1) := by decide +kernel
theorem dX8_letter_28 : decode cX8_letter 28 = .ok (.iadd, 1) := by decide +kernel
theorem dX8_letter_29 : decode cX8_letter 29 = .ok (.invokevirtual 72, 3) := by decide +kernel
theorem dX8_letter_32 : decode cX8_letter 32 = .ok (.iconst 1, 1) := by decide +kernel
theorem dX8_letter_33 : decode cX8_letter 33 = .ok (.isub, 1) := by decide +kernel
theorem dX8_letter_34 : decode cX8_letter 34 = .ok (.goto 4, 3) := by decide +kernel
theorem dX8_letter_37 : decode cX8_letter 37 = .ok (.iconst (-1), 1) := by decide +kernel
theorem dX8_letter_38 : decode cX8_letter 38 = .ok (.ireturn, 1) := by decide +kernel
set_option maxRecDepth 20000 in
theorem ggX8_product_X8_isWord : GoodIn wsX8_product wsX8_isWord := goodIn_r _ [9, 10, 11, 12, 8, 13, 53, 54, 55, 56, 57, 58, 59, 60, 61, 62, 63, 64, 65, 66, 67, 68, 69, 70] (by decide +kernel) (by decide +kernel)
set_option maxRecDepth 20000 in
theorem gX8_product_X8_isWord : GoodIn wsX8_product (wsV RX8 154 RX8 yX8_isWord wsX8_isWord) := goodIn_app (goodIn_of _ (by decide +kernel)) ggX8_product_X8_isWord
set_option maxRecDepth 20000 in
theorem ggX8_product_X8_within : GoodIn wsX8_product wsX8_within := goodIn_r _ [13] (by decide +kernel) (by decide +kernel)
set_option maxRecDepth 20000 in
theorem gX8_product_X8_within : GoodIn wsX8_product (va_wsS RX8 64 yX8_within wsX8_within) := goodIn_app (goodIn_of _ (by decide +kernel)) ggX8_product_X8_within
set_option maxRecDepth 20000 in
theorem ggX8_product_X8_findCut : GoodIn wsX8_product wsX8_findCut := goodIn_r _ [17, 4, 18, 19, 20, 21, 22, 8, 23, 10, 24, 25, 26, 27, 28, 29, 30, 31, 32, 33, 34, 35, 36, 37, 38, 39, 40, 41, 42, 43, 44, 45, 46, 47, 53, 54, 55, 56, 57, 58, 59, 60, 61, 62, 63, 64, 65, 66, 67, 68, 69, 70] (by decide +kernel) (by decide +kernel)
set_option maxRecDepth 20000 in
theorem gX8_product_X8_findCut : GoodIn wsX8_product (wsV RX8 95 RX8 yX8_findCut wsX8_findCut) := goodIn_app (goodIn_of _ (by decide +kernel)) ggX8_product_X8_findCut
set_option maxRecDepth 20000 in
theorem ggX8_product_X8_findTotals : GoodIn wsX8_product wsX8_findTotals := goodIn_r _ [51, 52, 3, 20, 21, 22, 8, 23, 10, 24, 25, 26, 27, 28, 29, 30, 31, 32, 33, 34, 35, 36, 37, 38, 39, 40, 41, 42, 43, 44, 45, 46, 47, 53, 54, 55, 56, 57, 58, 59, 60, 61, 62, 63, 64, 65, 66, 67, 68, 69, 70] (by decide +kernel) (by decide +kernel)
set_option maxRecDepth 20000 in
theorem gX8_product_X8_findTotals : GoodIn wsX8_product (wsV RX8 107 RX8 yX8_findTotals wsX8_findTotals) := goodIn_app (goodIn_of _ (by decide +kernel)) ggX8_product_X8_findTotals
theorem dX8_product_0 : decode cX8_product 0 = .ok (.aload_n 0, 1) := by decide +kernel
theorem dX8_product_1 : decode cX8_product 1 = .ok (.iload_n 1, 1) := by decide +kernel
theorem dX8_product_2 : decode cX8_product 2 = .ok (.invokevirtual 154, 3) := by decide +kernel
theorem dX8_product_5 : decode cX8_product 5 = .ok (.ifCond .eq 12, 3) := by decide +kernel
theorem dX8_product_8 : decode cX8_product 8 = .ok (.iload_n 2, 1) := by decide +kernel
theorem dX8_product_9 : decode cX8_product 9 = .ok (.iconst 0, 1) := by decide +kernel
theorem dX8_product_10 : decode cX8_product 10 = .ok (.iconst 1, 1) := by decide +kernel
theorem dX8_product_11 : decode cX8_product 11 = .ok (.invokestatic 64, 3) := by decide +kernel
theorem dX8_product_14 : decode cX8_product 14 = .ok (.ifCond .ne 21, 3) := by decide +kernel
theorem dX8_product_17 : decode cX8_product 17 = .ok (.aload_n 0, 1) := by decide +kernel
theorem dX8_product_18 : decode cX8_product 18 = .ok (.iload_n 1, 1) := by decide +kernel
theorem dX8_product_19 : decode cX8_product 19 = .ok (.invokevirtual 154, 3) := by decide +kernel
theorem dX8_product_22 : decode cX8_product 22 = .ok (.ifCond .eq 9, 3) := by decide +kernel
theorem dX8_product_25 : decode cX8_product 25 = .ok (.ldc2_w 173, 3) := by decide +kernel
theorem dX8_product_28 : decode cX8_product 28 = .ok (.goto 6, 3) := by decide +kernel
theorem dX8_product_31 : decode cX8_product 31 = .ok (.ldc2_w 175, 3) := by decide +kernel
theorem dX8_product_34 : decode cX8_product 34 = .ok (.lreturn, 1) := by decide +kernel
theorem dX8_product_35 : decode cX8_product 35 = .ok (.aload_n 0, 1) := by decide +kernel
theorem dX8_product_36 : decode cX8_product 36 = .ok (.iload_n 1, 1) := by decide +kernel
theorem dX8_product_37 : decode cX8_product 37 = .ok (.invokevirtual 95, 3) := by decide +kernel
theorem dX8_product_40 : decode cX8_product 40 = .ok (.aload_n 0, 1) := by decide +kernel
theorem dX8_product_41 : decode cX8_product 41 = .ok (.iload_n 1, 1) := by decide +kernel
theorem dX8_product_42 : decode cX8_product 42 = .ok (.invokevirtual 107, 3) := by decide +kernel
theorem dX8_product_45 : decode cX8_product 45 = .ok (.iload_n 2, 1) := by decide +kernel
theorem dX8_product_46 : decode cX8_product 46 = .ok (.ifCond .ne 12, 3) := by decide +kernel
theorem dX8_product_49 : decode cX8_product 49 = .ok (.aload_n 0, 1) := by decide +kernel
theorem dX8_product_50 : decode cX8_product 50 = .ok (.getfield 41, 3) := by decide +kernel
theorem dX8_product_53 : decode cX8_product 53 = .ok (.iconst 0, 1) := by decide +kernel
theorem dX8_product_54 : decode cX8_product 54 = .ok (.laload, 1) := by decide +kernel
theorem dX8_product_55 : decode cX8_product 55 = .ok (.goto 9, 3) := by decide +kernel
theorem dX8_product_58 : decode cX8_product 58 = .ok (.aload_n 0, 1) := by decide +kernel
theorem dX8_product_59 : decode cX8_product 59 = .ok (.getfield 28, 3) := by decide +kernel
theorem dX8_product_62 : decode cX8_product 62 = .ok (.iconst 0, 1) := by decide +kernel
theorem dX8_product_63 : decode cX8_product 63 = .ok (.laload, 1) := by decide +kernel
theorem dX8_product_64 : decode cX8_product 64 = .ok (.lreturn, 1) := by decide +kernel
set_option maxRecDepth 20000 in
theorem ggX8_part_X8_isWord : GoodIn wsX8_part wsX8_isWord := goodIn_r _ [7, 8, 9, 10, 6, 11, 45, 46, 47, 48, 49, 50, 51, 52, 53, 54, 55, 56, 57, 58, 59, 60, 61, 62] (by decide +kernel) (by decide +kernel)
set_option maxRecDepth 20000 in
theorem gX8_part_X8_isWord : GoodIn wsX8_part (wsV RX8 154 RX8 yX8_isWord wsX8_isWord) := goodIn_app (goodIn_of _ (by decide +kernel)) ggX8_part_X8_isWord
set_option maxRecDepth 20000 in
theorem ggX8_part_X8_findCut : GoodIn wsX8_part wsX8_findCut := goodIn_r _ [15, 16, 1, 2, 17, 18, 19, 6, 20, 8, 21, 22, 23, 24, 25, 26, 27, 28, 29, 30, 31, 32, 33, 34, 35, 36, 37, 38, 39, 40, 41, 42, 43, 44, 45, 46, 47, 48, 49, 50, 51, 52, 53, 54, 55, 56, 57, 58, 59, 60, 61, 62] (by decide +kernel) (by decide +kernel)
set_option maxRecDepth 20000 in
theorem gX8_part_X8_findCut : GoodIn wsX8_part (wsV RX8 95 RX8 yX8_findCut wsX8_findCut) := goodIn_app (goodIn_of _ (by decide +kernel)) ggX8_part_X8_findCut
set_option maxRecDepth 20000 in
theorem ggX8_part_X8_within : GoodIn wsX8_part wsX8_within := goodIn_r _ [11] (by decide +kernel) (by decide +kernel)
set_option maxRecDepth 20000 in
theorem gX8_part_X8_within : GoodIn wsX8_part (va_wsS RX8 64 yX8_within wsX8_within) := goodIn_app (goodIn_of _ (by decide +kernel)) ggX8_part_X8_within
set_option maxRecDepth 20000 in
theorem ggX8_part_X8_textIn : GoodIn wsX8_part wsX8_textIn := goodIn_r _ [32, 17, 18, 19, 6, 20, 8, 45, 46, 47, 48, 49, 50, 51, 52, 53, 54, 55, 56, 57, 58, 59, 60, 61, 62] (by decide +kernel) (by decide +kernel)
set_option maxRecDepth 20000 in
theorem gX8_part_X8_textIn : GoodIn wsX8_part (wsV RX8 82 RX8 yX8_textIn wsX8_textIn) := goodIn_app (goodIn_of _ (by decide +kernel)) ggX8_part_X8_textIn
set_option maxRecDepth 20000 in
theorem ggX8_part_X8_pieceOf : GoodIn wsX8_part wsX8_pieceOf := goodIn_r _ [36, 8, 37, 38, 39, 6, 40, 41, 42, 43, 44, 45, 46, 47, 48, 49, 50, 51, 52, 53, 54, 55, 56, 57, 58, 59, 60, 61, 62] (by decide +kernel) (by decide +kernel)
set_option maxRecDepth 20000 in
theorem gX8_part_X8_pieceOf : GoodIn wsX8_part (wsV RX8 86 RX8 yX8_pieceOf wsX8_pieceOf) := goodIn_app (goodIn_of _ (by decide +kernel)) ggX8_part_X8_pieceOf
theorem dX8_part_0 : decode cX8_part 0 = .ok (.aload_n 0, 1) := by decide +kernel
theorem dX8_part_1 : decode cX8_part 1 = .ok (.iload_n 1, 1) := by decide +kernel
theorem dX8_part_2 : decode cX8_part 2 = .ok (.invokevirtual 154, 3) := by decide +kernel
theorem dX8_part_5 : decode cX8_part 5 = .ok (.ifCond .ne 5, 3) := by decide +kernel
theorem dX8_part_8 : decode cX8_part 8 = .ok (.iconst (-1), 1) := by decide +kernel
theorem dX8_part_9 : decode cX8_part 9 = .ok (.ireturn, 1) := by decide +kernel
theorem dX8_part_10 : decode cX8_part 10 = .ok (.aload_n 0, 1) := by decide +kernel
theorem dX8_part_11 : decode cX8_part 11 = .ok (.iload_n 1, 1) := by decide +kernel
theorem dX8_part_12 : decode cX8_part 12 = .ok (.invokevirtual 95, 3) := by decide +kernel
theorem dX8_part_15 : decode cX8_part 15 = .ok (.iload_n 2, 1) := by decide +kernel
theorem dX8_part_16 : decode cX8_part 16 = .ok (.iconst 0, 1) := by decide +kernel
theorem dX8_part_17 : decode cX8_part 17 = .ok (.aload_n 0, 1) := by decide +kernel
theorem dX8_part_18 : decode cX8_part 18 = .ok (.getfield 32, 3) := by decide +kernel
theorem dX8_part_21 : decode cX8_part 21 = .ok (.iconst 0, 1) := by decide +kernel
theorem dX8_part_22 : decode cX8_part 22 = .ok (.iaload, 1) := by decide +kernel
theorem dX8_part_23 : decode cX8_part 23 = .ok (.iconst 1, 1) := by decide +kernel
theorem dX8_part_24 : decode cX8_part 24 = .ok (.isub, 1) := by decide +kernel
theorem dX8_part_25 : decode cX8_part 25 = .ok (.invokestatic 64, 3) := by decide +kernel
theorem dX8_part_28 : decode cX8_part 28 = .ok (.ifCond .ne 5, 3) := by decide +kernel
theorem dX8_part_31 : decode cX8_part 31 = .ok (.iconst (-1), 1) := by decide +kernel
theorem dX8_part_32 : decode cX8_part 32 = .ok (.ireturn, 1) := by decide +kernel
theorem dX8_part_33 : decode cX8_part 33 = .ok (.iconst 0, 1) := by decide +kernel
theorem dX8_part_34 : decode cX8_part 34 = .ok (.istore 4, 2) := by decide +kernel
theorem dX8_part_36 : decode cX8_part 36 = .ok (.iconst 0, 1) := by decide +kernel
theorem dX8_part_37 : decode cX8_part 37 = .ok (.istore 5, 2) := by decide +kernel
theorem dX8_part_39 : decode cX8_part 39 = .ok (.iload 5, 2) := by decide +kernel
theorem dX8_part_41 : decode cX8_part 41 = .ok (.iload_n 2, 1) := by decide +kernel
theorem dX8_part_42 : decode cX8_part 42 = .ok (.if_icmp .ge 21, 3) := by decide +kernel
theorem dX8_part_45 : decode cX8_part 45 = .ok (.iload 4, 2) := by decide +kernel
theorem dX8_part_47 : decode cX8_part 47 = .ok (.aload_n 0, 1) := by decide +kernel
theorem dX8_part_48 : decode cX8_part 48 = .ok (.getfield 35, 3) := by decide +kernel
theorem dX8_part_51 : decode cX8_part 51 = .ok (.iload 4, 2) := by decide +kernel
theorem dX8_part_53 : decode cX8_part 53 = .ok (.iaload, 1) := by decide +kernel
theorem dX8_part_54 : decode cX8_part 54 = .ok (.iadd, 1) := by decide +kernel
theorem dX8_part_55 : decode cX8_part 55 = .ok (.istore 4, 2) := by decide +kernel
theorem dX8_part_57 : decode cX8_part 57 = .ok (.iinc 5 1, 3) := by decide +kernel
theorem dX8_part_60 : decode cX8_part 60 = .ok (.goto (-21), 3) := by decide +kernel
theorem dX8_part_63 : decode cX8_part 63 = .ok (.iload_n 3, 1) := by decide +kernel
theorem dX8_part_64 : decode cX8_part 64 = .ok (.ifCond .ne 24, 3) := by decide +kernel
theorem dX8_part_67 : decode cX8_part 67 = .ok (.aload_n 0, 1) := by decide +kernel
theorem dX8_part_68 : decode cX8_part 68 = .ok (.aload_n 0, 1) := by decide +kernel
theorem dX8_part_69 : decode cX8_part 69 = .ok (.iload_n 1, 1) := by decide +kernel
theorem dX8_part_70 : decode cX8_part 70 = .ok (.iload 4, 2) := by decide +kernel
theorem dX8_part_72 : decode cX8_part 72 = .ok (.aload_n 0, 1) := by decide +kernel
theorem dX8_part_73 : decode cX8_part 73 = .ok (.getfield 35, 3) := by decide +kernel
theorem dX8_part_76 : decode cX8_part 76 = .ok (.iload 4, 2) := by decide +kernel
theorem dX8_part_78 : decode cX8_part 78 = .ok (.iaload, 1) := by decide +kernel
theorem dX8_part_79 : decode cX8_part 79 = .ok (.invokevirtual 82, 3) := by decide +kernel
theorem dX8_part_82 : decode cX8_part 82 = .ok (.invokevirtual 86, 3) := by decide +kernel
theorem dX8_part_85 : decode cX8_part 85 = .ok (.goto 30, 3) := by decide +kernel
theorem dX8_part_88 : decode cX8_part 88 = .ok (.iload_n 3, 1) := by decide +kernel
theorem dX8_part_89 : decode cX8_part 89 = .ok (.iconst 1, 1) := by decide +kernel
theorem dX8_part_90 : decode cX8_part 90 = .ok (.if_icmp .ne 8, 3) := by decide +kernel
theorem dX8_part_93 : decode cX8_part 93 = .ok (.iload 4, 2) := by decide +kernel
theorem dX8_part_95 : decode cX8_part 95 = .ok (.goto 20, 3) := by decide +kernel
theorem dX8_part_98 : decode cX8_part 98 = .ok (.iload_n 3, 1) := by decide +kernel
theorem dX8_part_99 : decode cX8_part 99 = .ok (.iconst 2, 1) := by decide +kernel
theorem dX8_part_100 : decode cX8_part 100 = .ok (.if_icmp .ne 13, 3) := by decide +kernel
theorem dX8_part_103 : decode cX8_part 103 = .ok (.aload_n 0, 1) := by decide +kernel
theorem dX8_part_104 : decode cX8_part 104 = .ok (.getfield 35, 3) := by decide +kernel
theorem dX8_part_107 : decode cX8_part 107 = .ok (.iload 4, 2) := by decide +kernel
theorem dX8_part_109 : decode cX8_part 109 = .ok (.iaload, 1) := by decide +kernel
theorem dX8_part_110 : decode cX8_part 110 = .ok (.goto 5, 3) := by decide +kernel
theorem dX8_part_113 : decode cX8_part 113 = .ok (.bipush (-2), 2) := by decide +kernel
theorem dX8_part_115 : decode cX8_part 115 = .ok (.ireturn, 1) := by decide +kernel
set_option maxRecDepth 20000 in
theorem ggX8_share_X8_isWord : GoodIn wsX8_share wsX8_isWord := goodIn_r _ [5, 6, 7, 8, 4, 9, 53, 54, 55, 56, 57, 58, 59, 60, 61, 62, 63, 64, 65, 66, 67, 68, 69, 70] (by decide +kernel) (by decide +kernel)
set_option maxRecDepth 20000 in
theorem gX8_share_X8_isWord : GoodIn wsX8_share (wsV RX8 154 RX8 yX8_isWord wsX8_isWord) := goodIn_app (goodIn_of _ (by decide +kernel)) ggX8_share_X8_isWord
set_option maxRecDepth 20000 in
theorem ggX8_share_X8_isPiece : GoodIn wsX8_share wsX8_isPiece := goodIn_r _ [13, 6, 7, 8, 4, 9, 53, 54, 55, 56, 57, 58, 59, 60, 61, 62, 63, 64, 65, 66, 67, 68, 69, 70] (by decide +kernel) (by decide +kernel)
set_option maxRecDepth 20000 in
theorem gX8_share_X8_isPiece : GoodIn wsX8_share (wsV RX8 150 RX8 yX8_isPiece wsX8_isPiece) := goodIn_app (goodIn_of _ (by decide +kernel)) ggX8_share_X8_isPiece
set_option maxRecDepth 20000 in
theorem ggX8_share_X8_findTotals : GoodIn wsX8_share wsX8_findTotals := goodIn_r _ [17, 18, 19, 20, 21, 22, 4, 23, 6, 24, 25, 26, 27, 28, 29, 30, 31, 32, 33, 34, 35, 36, 37, 38, 39, 40, 41, 42, 43, 44, 45, 46, 47, 53, 54, 55, 56, 57, 58, 59, 60, 61, 62, 63, 64, 65, 66, 67, 68, 69, 70] (by decide +kernel) (by decide +kernel)
set_option maxRecDepth 20000 in
theorem gX8_share_X8_findTotals : GoodIn wsX8_share (wsV RX8 107 RX8 yX8_findTotals wsX8_findTotals) := goodIn_app (goodIn_of _ (by decide +kernel)) ggX8_share_X8_findTotals
set_option maxRecDepth 20000 in
theorem ggX8_share_X8_shareIn : GoodIn wsX8_share wsX8_shareIn := goodIn_r _ [51, 18, 19, 52, 44, 45, 46, 4, 47, 6, 40, 41, 42, 43, 20, 21, 22, 23, 32, 33, 34, 35, 53, 54, 55, 56, 57, 58, 59, 60, 61, 62, 63, 64, 65, 66, 67, 68, 69, 70] (by decide +kernel) (by decide +kernel)
set_option maxRecDepth 20000 in
theorem gX8_share_X8_shareIn : GoodIn wsX8_share (wsV RX8 110 RX8 yX8_shareIn wsX8_shareIn) := goodIn_app (goodIn_of _ (by decide +kernel)) ggX8_share_X8_shareIn
theorem dX8_share_0 : decode cX8_share 0 = .ok (.aload_n 0, 1) := by decide +kernel
theorem dX8_share_1 : decode cX8_share 1 = .ok (.iload_n 1, 1) := by decide +kernel
theorem dX8_share_2 : decode cX8_share 2 = .ok (.invokevirtual 154, 3) := by decide +kernel
theorem dX8_share_5 : decode cX8_share 5 = .ok (.ifCond .eq 11, 3) := by decide +kernel
theorem dX8_share_8 : decode cX8_share 8 = .ok (.aload_n 0, 1) := by decide +kernel
theorem dX8_share_9 : decode cX8_share 9 = .ok (.iload_n 2, 1) := by decide +kernel
theorem dX8_share_10 : decode cX8_share 10 = .ok (.invokevirtual 150, 3) := by decide +kernel
theorem dX8_share_13 : decode cX8_share 13 = .ok (.ifCond .ne 5, 3) := by decide +kernel
theorem dX8_share_16 : decode cX8_share 16 = .ok (.iconst (-1), 1) := by decide +kernel
theorem dX8_share_17 : decode cX8_share 17 = .ok (.ireturn, 1) := by decide +kernel
theorem dX8_share_18 : decode cX8_share 18 = .ok (.aload_n 0, 1) := by decide +kernel
theorem dX8_share_19 : decode cX8_share 19 = .ok (.iload_n 1, 1) := by decide +kernel
theorem dX8_share_20 : decode cX8_share 20 = .ok (.invokevirtual 107, 3) := by decide +kernel
theorem dX8_share_23 : decode cX8_share 23 = .ok (.aload_n 0, 1) := by decide +kernel
theorem dX8_share_24 : decode cX8_share 24 = .ok (.iload_n 1, 1) := by decide +kernel
theorem dX8_share_25 : decode cX8_share 25 = .ok (.iload_n 2, 1) := by decide +kernel
theorem dX8_share_26 : decode cX8_share 26 = .ok (.invokevirtual 110, 3) := by decide +kernel
theorem dX8_share_29 : decode cX8_share 29 = .ok (.ireturn, 1) := by decide +kernel
set_option maxRecDepth 20000 in
theorem ggX8_count_X8_findCut : GoodIn wsX8_count wsX8_findCut := goodIn_r _ [9, 10, 2, 11, 12, 13, 14, 8, 15, 1, 16, 17, 18, 19, 20, 21, 22, 23, 24, 25, 26, 27, 28, 29, 30, 31, 32, 33, 34, 35, 36, 37, 38, 39, 44, 45, 46, 47, 48, 49, 50, 51, 52, 53, 54, 55, 56, 57, 58, 59, 60, 61] (by decide +kernel) (by decide +kernel)
set_option maxRecDepth 20000 in
theorem gX8_count_X8_findCut : GoodIn wsX8_count (wsV RX8 95 RX8 yX8_findCut wsX8_findCut) := goodIn_app (goodIn_of _ (by decide +kernel)) ggX8_count_X8_findCut
set_option maxRecDepth 20000 in
theorem ggX8_count_X8_wordPart : GoodIn wsX8_count wsX8_wordPart := goodIn_r _ [15, 1, 44, 45, 46, 47, 48, 49, 50, 51, 52, 53, 54, 55, 56, 57, 58, 59, 60, 61] (by decide +kernel) (by decide +kernel)
set_option maxRecDepth 20000 in
theorem gX8_count_X8_wordPart : GoodIn wsX8_count (wsV RX8 72 RX8 yX8_wordPart wsX8_wordPart) := goodIn_app (goodIn_of _ (by decide +kernel)) ggX8_count_X8_wordPart
set_option maxRecDepth 20000 in
theorem ggX8_count_X8_unseenIn : GoodIn wsX8_count wsX8_unseenIn := goodIn_r _ [43, 11, 12, 13, 14, 8, 15, 1, 24, 25, 26, 27, 28, 29, 30, 31, 32, 33, 34, 35, 36, 37, 38, 39, 44, 45, 46, 47, 48, 49, 50, 51, 52, 53, 54, 55, 56, 57, 58, 59, 60, 61] (by decide +kernel) (by decide +kernel)
set_option maxRecDepth 20000 in
theorem gX8_count_X8_unseenIn : GoodIn wsX8_count (wsV RX8 99 RX8 yX8_unseenIn wsX8_unseenIn) := goodIn_app (goodIn_of _ (by decide +kernel)) ggX8_count_X8_unseenIn
theorem dX8_count_0 : decode cX8_count 0 = .ok (.iconst 0, 1) := by decide +kernel
theorem dX8_count_1 : decode cX8_count 1 = .ok (.istore_n 2, 1) := by decide +kernel
theorem dX8_count_2 : decode cX8_count 2 = .ok (.iconst 0, 1) := by decide +kernel
theorem dX8_count_3 : decode cX8_count 3 = .ok (.istore_n 3, 1) := by decide +kernel
theorem dX8_count_4 : decode cX8_count 4 = .ok (.iconst 0, 1) := by decide +kernel
theorem dX8_count_5 : decode cX8_count 5 = .ok (.istore 4, 2) := by decide +kernel
theorem dX8_count_7 : decode cX8_count 7 = .ok (.iconst 0, 1) := by decide +kernel
theorem dX8_count_8 : decode cX8_count 8 = .ok (.istore 5, 2) := by decide +kernel
theorem dX8_count_10 : decode cX8_count 10 = .ok (.iload 5, 2) := by decide +kernel
theorem dX8_count_12 : decode cX8_count 12 = .ok (.aload_n 0, 1) := by decide +kernel
theorem dX8_count_13 : decode cX8_count 13 = .ok (.getfield 7, 3) := by decide +kernel
theorem dX8_count_16 : decode cX8_count 16 = .ok (.iconst 1, 1) := by decide +kernel
theorem dX8_count_17 : decode cX8_count 17 = .ok (.iaload, 1) := by decide +kernel
theorem dX8_count_18 : decode cX8_count 18 = .ok (.if_icmp .ge 69, 3) := by decide +kernel
theorem dX8_count_21 : decode cX8_count 21 = .ok (.aload_n 0, 1) := by decide +kernel
theorem dX8_count_22 : decode cX8_count 22 = .ok (.iload 5, 2) := by decide +kernel
theorem dX8_count_24 : decode cX8_count 24 = .ok (.invokevirtual 95, 3) := by decide +kernel
theorem dX8_count_27 : decode cX8_count 27 = .ok (.iload_n 2, 1) := by decide +kernel
theorem dX8_count_28 : decode cX8_count 28 = .ok (.aload_n 0, 1) := by decide +kernel
theorem dX8_count_29 : decode cX8_count 29 = .ok (.iload 5, 2) := by decide +kernel
theorem dX8_count_31 : decode cX8_count 31 = .ok (.iconst 0, 1) := by decide +kernel
theorem dX8_count_32 : decode cX8_count 32 = .ok (.invokevirtual 72, 3) := by decide +kernel
theorem dX8_count_35 : decode cX8_count 35 = .ok (.aload_n 0, 1) := by decide +kernel
theorem dX8_count_36 : decode cX8_count 36 = .ok (.iload 5, 2) := by decide +kernel
theorem dX8_count_38 : decode cX8_count 38 = .ok (.iconst 1, 1) := by decide +kernel
theorem dX8_count_39 : decode cX8_count 39 = .ok (.invokevirtual 72, 3) := by decide +kernel
theorem dX8_count_42 : decode cX8_count 42 = .ok (.imul, 1) := by decide +kernel
theorem dX8_count_43 : decode cX8_count 43 = .ok (.iadd, 1) := by decide +kernel
theorem dX8_count_44 : decode cX8_count 44 = .ok (.istore_n 2, 1) := by decide +kernel
theorem dX8_count_45 : decode cX8_count 45 = .ok (.iload_n 3, 1) := by decide +kernel
theorem dX8_count_46 : decode cX8_count 46 = .ok (.aload_n 0, 1) := by decide +kernel
theorem dX8_count_47 : decode cX8_count 47 = .ok (.getfield 32, 3) := by decide +kernel
theorem dX8_count_50 : decode cX8_count 50 = .ok (.iconst 0, 1) := by decide +kernel
theorem dX8_count_51 : decode cX8_count 51 = .ok (.iaload, 1) := by decide +kernel
theorem dX8_count_52 : decode cX8_count 52 = .ok (.aload_n 0, 1) := by decide +kernel
theorem dX8_count_53 : decode cX8_count 53 = .ok (.iload 5, 2) := by decide +kernel
theorem dX8_count_55 : decode cX8_count 55 = .ok (.iconst 1, 1) := by decide +kernel
theorem dX8_count_56 : decode cX8_count 56 = .ok (.invokevirtual 72, 3) := by decide +kernel
theorem dX8_count_59 : decode cX8_count 59 = .ok (.imul, 1) := by decide +kernel
theorem dX8_count_60 : decode cX8_count 60 = .ok (.iadd, 1) := by decide +kernel
theorem dX8_count_61 : decode cX8_count 61 = .ok (.istore_n 3, 1) := by decide +kernel
theorem dX8_count_62 : decode cX8_count 62 = .ok (.iload 4, 2) := by decide +kernel
theorem dX8_count_64 : decode cX8_count 64 = .ok (.aload_n 0, 1) := by decide +kernel
theorem dX8_count_65 : decode cX8_count 65 = .ok (.iload 5, 2) := by decide +kernel
theorem dX8_count_67 : decode cX8_count 67 = .ok (.invokevirtual 99, 3) := by decide +kernel
theorem dX8_count_70 : decode cX8_count 70 = .ok (.aload_n 0, 1) := by decide +kernel
theorem dX8_count_71 : decode cX8_count 71 = .ok (.iload 5, 2) := by decide +kernel
theorem dX8_count_73 : decode cX8_count 73 = .ok (.iconst 1, 1) := by decide +kernel
theorem dX8_count_74 : decode cX8_count 74 = .ok (.invokevirtual 72, 3) := by decide +kernel
theorem dX8_count_77 : decode cX8_count 77 = .ok (.imul, 1) := by decide +kernel
theorem dX8_count_78 : decode cX8_count 78 = .ok (.iadd, 1) := by decide +kernel
theorem dX8_count_79 : decode cX8_count 79 = .ok (.istore 4, 2) := by decide +kernel
theorem dX8_count_81 : decode cX8_count 81 = .ok (.iinc 5 1, 3) := by decide +kernel
theorem dX8_count_84 : decode cX8_count 84 = .ok (.goto (-74), 3) := by decide +kernel
theorem dX8_count_87 : decode cX8_count 87 = .ok (.iload_n 1, 1) := by decide +kernel
theorem dX8_count_88 : decode cX8_count 88 = .ok (.tableswitch 84 0 7 #[48, 55, 62, 67, 69, 71, 74, 79], 48) := by decide +kernel
theorem dX8_count_136 : decode cX8_count 136 = .ok (.aload_n 0, 1) := by decide +kernel
theorem dX8_count_137 : decode cX8_count 137 = .ok (.getfield 7, 3) := by decide +kernel
theorem dX8_count_140 : decode cX8_count 140 = .ok (.iconst 0, 1) := by decide +kernel
theorem dX8_count_141 : decode cX8_count 141 = .ok (.iaload, 1) := by decide +kernel
theorem dX8_count_142 : decode cX8_count 142 = .ok (.ireturn, 1) := by decide +kernel
theorem dX8_count_143 : decode cX8_count 143 = .ok (.aload_n 0, 1) := by decide +kernel
theorem dX8_count_144 : decode cX8_count 144 = .ok (.getfield 7, 3) := by decide +kernel
theorem dX8_count_147 : decode cX8_count 147 = .ok (.iconst 1, 1) := by decide +kernel
theorem dX8_count_148 : decode cX8_count 148 = .ok (.iaload, 1) := by decide +kernel
theorem dX8_count_149 : decode cX8_count 149 = .ok (.ireturn, 1) := by decide +kernel
theorem dX8_count_150 : decode cX8_count 150 = .ok (.iload_n 3, 1) := by decide +kernel
theorem dX8_count_151 : decode cX8_count 151 = .ok (.iload 4, 2) := by decide +kernel
theorem dX8_count_153 : decode cX8_count 153 = .ok (.iadd, 1) := by decide +kernel
theorem dX8_count_154 : decode cX8_count 154 = .ok (.ireturn, 1) := by decide +kernel
theorem dX8_count_155 : decode cX8_count 155 = .ok (.iload_n 2, 1) := by decide +kernel
theorem dX8_count_156 : decode cX8_count 156 = .ok (.ireturn, 1) := by decide +kernel
theorem dX8_count_157 : decode cX8_count 157 = .ok (.iload_n 3, 1) := by decide +kernel
theorem dX8_count_158 : decode cX8_count 158 = .ok (.ireturn, 1) := by decide +kernel
theorem dX8_count_159 : decode cX8_count 159 = .ok (.iload 4, 2) := by decide +kernel
theorem dX8_count_161 : decode cX8_count 161 = .ok (.ireturn, 1) := by decide +kernel
theorem dX8_count_162 : decode cX8_count 162 = .ok (.aload_n 0, 1) := by decide +kernel
theorem dX8_count_163 : decode cX8_count 163 = .ok (.getfield 135, 3) := by decide +kernel
theorem dX8_count_166 : decode cX8_count 166 = .ok (.ireturn, 1) := by decide +kernel
theorem dX8_count_167 : decode cX8_count 167 = .ok (.aload_n 0, 1) := by decide +kernel
theorem dX8_count_168 : decode cX8_count 168 = .ok (.getfield 56, 3) := by decide +kernel
theorem dX8_count_171 : decode cX8_count 171 = .ok (.ireturn, 1) := by decide +kernel
theorem dX8_count_172 : decode cX8_count 172 = .ok (.bipush (-2), 2) := by decide +kernel
theorem dX8_count_174 : decode cX8_count 174 = .ok (.ireturn, 1) := by decide +kernel
set_option maxRecDepth 20000 in
theorem ggX8_costWith_X8_whyNoPiece : GoodIn wsX8_costWith wsX8_whyNoPiece := goodIn_r _ [6, 1, 7, 8, 9, 5, 10, 11, 12, 13, 14, 15, 16, 17, 18, 19, 20, 21, 22, 23, 24, 25, 26, 27, 73, 74, 75, 76, 77, 78, 79, 80, 81, 82, 83, 84, 85, 86, 87, 88, 89, 90] (by decide +kernel) (by decide +kernel)
set_option maxRecDepth 20000 in
theorem gX8_costWith_X8_whyNoPiece : GoodIn wsX8_costWith (wsV RX8 141 RX8 yX8_whyNoPiece wsX8_whyNoPiece) := goodIn_app (goodIn_of _ (by decide +kernel)) ggX8_costWith_X8_whyNoPiece
set_option maxRecDepth 20000 in
theorem ggX8_costWith_X8_padText : GoodIn wsX8_costWith wsX8_padText := goodIn_r _ [10, 11, 12, 13, 14, 5, 15, 73, 74, 75, 76, 77, 78, 79, 80, 81, 82, 83, 84, 85, 86, 87, 88, 89, 90] (by decide +kernel) (by decide +kernel)
set_option maxRecDepth 20000 in
theorem gX8_costWith_X8_padText : GoodIn wsX8_costWith (wsV RX8 138 RX8 yX8_padText wsX8_padText) := goodIn_app (goodIn_of _ (by decide +kernel)) ggX8_costWith_X8_padText
set_option maxRecDepth 20000 in
theorem ggX8_costWith_X8_addPiece : GoodIn wsX8_costWith wsX8_addPiece := goodIn_r _ [31, 1, 32, 33, 5, 34, 35, 36, 37, 73, 74, 75, 76, 77, 78, 79, 80, 81, 82, 83, 84, 85, 86, 87, 88, 89, 90] (by decide +kernel) (by decide +kernel)
set_option maxRecDepth 20000 in
theorem gX8_costWith_X8_addPiece : GoodIn wsX8_costWith (wsV RX8 147 RX8 yX8_addPiece wsX8_addPiece) := goodIn_app (goodIn_of _ (by decide +kernel)) ggX8_costWith_X8_addPiece
set_option maxRecDepth 20000 in
theorem ggX8_costWith_X8_allCosts : GoodIn wsX8_costWith wsX8_allCosts := goodIn_r _ [41, 1, 42, 43, 44, 5, 45, 46, 47, 48, 49, 50, 51, 52, 53, 54, 55, 56, 57, 58, 59, 60, 61, 62, 63, 64, 65, 66, 67, 68, 16, 17, 18, 19, 20, 21, 22, 23, 24, 25, 26, 27, 69, 70, 71, 72, 73, 74, 75, 76, 77, 78, 79, 80, 81, 82, 83, 84, 85, 86, 87, 88, 89, 90] (by decide +kernel) (by decide +kernel)
set_option maxRecDepth 20000 in
theorem gX8_costWith_X8_allCosts : GoodIn wsX8_costWith (wsV RX8 113 RX8 yX8_allCosts wsX8_allCosts) := goodIn_app (goodIn_of _ (by decide +kernel)) ggX8_costWith_X8_allCosts
theorem dX8_costWith_0 : decode cX8_costWith 0 = .ok (.aload_n 0, 1) := by decide +kernel
theorem dX8_costWith_1 : decode cX8_costWith 1 = .ok (.iload_n 1, 1) := by decide +kernel
theorem dX8_costWith_2 : decode cX8_costWith 2 = .ok (.invokevirtual 141, 3) := by decide +kernel
theorem dX8_costWith_5 : decode cX8_costWith 5 = .ok (.istore_n 2, 1) := by decide +kernel
theorem dX8_costWith_6 : decode cX8_costWith 6 = .ok (.iload_n 2, 1) := by decide +kernel
theorem dX8_costWith_7 : decode cX8_costWith 7 = .ok (.ifCond .ge 5, 3) := by decide +kernel
theorem dX8_costWith_10 : decode cX8_costWith 10 = .ok (.iload_n 2, 1) := by decide +kernel
theorem dX8_costWith_11 : decode cX8_costWith 11 = .ok (.ireturn, 1) := by decide +kernel
theorem dX8_costWith_12 : decode cX8_costWith 12 = .ok (.aload_n 0, 1) := by decide +kernel
theorem dX8_costWith_13 : decode cX8_costWith 13 = .ok (.aload_n 0, 1) := by decide +kernel
theorem dX8_costWith_14 : decode cX8_costWith 14 = .ok (.iconst 4, 1) := by decide +kernel
theorem dX8_costWith_15 : decode cX8_costWith 15 = .ok (.invokevirtual 138, 3) := by decide +kernel
theorem dX8_costWith_18 : decode cX8_costWith 18 = .ok (.iload_n 1, 1) := by decide +kernel
theorem dX8_costWith_19 : decode cX8_costWith 19 = .ok (.invokevirtual 147, 3) := by decide +kernel
theorem dX8_costWith_22 : decode cX8_costWith 22 = .ok (.pop, 1) := by decide +kernel
theorem dX8_costWith_23 : decode cX8_costWith 23 = .ok (.aload_n 0, 1) := by decide +kernel
theorem dX8_costWith_24 : decode cX8_costWith 24 = .ok (.invokevirtual 113, 3) := by decide +kernel
theorem dX8_costWith_27 : decode cX8_costWith 27 = .ok (.istore_n 3, 1) := by decide +kernel
theorem dX8_costWith_28 : decode cX8_costWith 28 = .ok (.aload_n 0, 1) := by decide +kernel
theorem dX8_costWith_29 : decode cX8_costWith 29 = .ok (.getfield 7, 3) := by decide +kernel
theorem dX8_costWith_32 : decode cX8_costWith 32 = .ok (.iconst 0, 1) := by decide +kernel
theorem dX8_costWith_33 : decode cX8_costWith 33 = .ok (.dup2, 1) := by decide +kernel
theorem dX8_costWith_34 : decode cX8_costWith 34 = .ok (.iaload, 1) := by decide +kernel
theorem dX8_costWith_35 : decode cX8_costWith 35 = .ok (.iconst 1, 1) := by decide +kernel
theorem dX8_costWith_36 : decode cX8_costWith 36 = .ok (.isub, 1) := by decide +kernel
theorem dX8_costWith_37 : decode cX8_costWith 37 = .ok (.iastore, 1) := by decide +kernel
theorem dX8_costWith_38 : decode cX8_costWith 38 = .ok (.iload_n 3, 1) := by decide +kernel
theorem dX8_costWith_39 : decode cX8_costWith 39 = .ok (.ireturn, 1) := by decide +kernel
set_option maxRecDepth 20000 in
theorem ggX8_growing_X8_within : GoodIn wsX8_growing wsX8_within := goodIn_r _ [6] (by decide +kernel) (by decide +kernel)
set_option maxRecDepth 20000 in
theorem gX8_growing_X8_within : GoodIn wsX8_growing (va_wsS RX8 64 yX8_within wsX8_within) := goodIn_app (goodIn_of _ (by decide +kernel)) ggX8_growing_X8_within
set_option maxRecDepth 20000 in
theorem ggX8_growing_X8_growsAt : GoodIn wsX8_growing wsX8_growsAt := goodIn_r _ [10, 11, 1, 12, 13, 14, 5, 15, 16, 17, 18, 2, 19, 20, 21, 22, 23, 24, 25, 26, 27, 28, 29, 30, 31, 32, 33, 34, 35, 36, 37, 38, 39, 40, 41, 42, 43, 44, 45, 46, 47, 48, 49, 50, 51, 52, 53, 54, 55, 56, 63, 64, 65, 66, 67, 68, 69, 70, 71, 72, 73, 74, 75, 76, 77, 78, 79, 80] (by decide +kernel) (by decide +kernel)
set_option maxRecDepth 20000 in
theorem gX8_growing_X8_growsAt : GoodIn wsX8_growing (wsV RX8 157 RX8 yX8_growsAt wsX8_growsAt) := goodIn_app (goodIn_of _ (by decide +kernel)) ggX8_growing_X8_growsAt
set_option maxRecDepth 20000 in
theorem ggX8_growing_X8_lengthOf : GoodIn wsX8_growing wsX8_lengthOf := goodIn_r _ [59] (by decide +kernel) (by decide +kernel)
set_option maxRecDepth 20000 in
theorem gX8_growing_X8_lengthOf : GoodIn wsX8_growing (va_wsS RX8 75 yX8_lengthOf wsX8_lengthOf) := goodIn_app (goodIn_of _ (by decide +kernel)) ggX8_growing_X8_lengthOf
set_option maxRecDepth 20000 in
theorem ggX8_growing_X8_standsSo : GoodIn wsX8_growing wsX8_standsSo := goodIn_r _ [56, 11, 1, 18, 63, 64, 65, 66, 67, 68, 69, 70, 71, 72, 73, 74, 75, 76, 77, 78, 79, 80] (by decide +kernel) (by decide +kernel)
set_option maxRecDepth 20000 in
theorem gX8_growing_X8_standsSo : GoodIn wsX8_growing (wsV RX8 132 RX8 yX8_standsSo wsX8_standsSo) := goodIn_app (goodIn_of _ (by decide +kernel)) ggX8_growing_X8_standsSo
set_option maxRecDepth 20000 in
theorem ggX8_growing_X8_letterOf : GoodIn wsX8_growing wsX8_letterOf := goodIn_r _ [62, 57, 58, 5, 59] (by decide +kernel) (by decide +kernel)
set_option maxRecDepth 20000 in
theorem gX8_growing_X8_letterOf : GoodIn wsX8_growing (va_wsS RX8 123 yX8_letterOf wsX8_letterOf) := goodIn_app (goodIn_of _ (by decide +kernel)) ggX8_growing_X8_letterOf
theorem dX8_growing_0 : decode cX8_growing 0 = .ok (.iload_n 1, 1) := by decide +kernel
theorem dX8_growing_1 : decode cX8_growing 1 = .ok (.iconst 0, 1) := by decide +kernel
theorem dX8_growing_2 : decode cX8_growing 2 = .ok (.bipush 6, 2) := by decide +kernel
theorem dX8_growing_4 : decode cX8_growing 4 = .ok (.invokestatic 64, 3) := by decide +kernel
theorem dX8_growing_7 : decode cX8_growing 7 = .ok (.ifCond .ne 6, 3) := by decide +kernel
theorem dX8_growing_10 : decode cX8_growing 10 = .ok (.bipush (-2), 2) := by decide +kernel
theorem dX8_growing_12 : decode cX8_growing 12 = .ok (.ireturn, 1) := by decide +kernel
theorem dX8_growing_13 : decode cX8_growing 13 = .ok (.aload_n 0, 1) := by decide +kernel
theorem dX8_growing_14 : decode cX8_growing 14 = .ok (.invokevirtual 157, 3) := by decide +kernel
theorem dX8_growing_17 : decode cX8_growing 17 = .ok (.istore_n 2, 1) := by decide +kernel
theorem dX8_growing_18 : decode cX8_growing 18 = .ok (.iload_n 2, 1) := by decide +kernel
theorem dX8_growing_19 : decode cX8_growing 19 = .ok (.bipush (-6), 2) := by decide +kernel
theorem dX8_growing_21 : decode cX8_growing 21 = .ok (.if_icmp .ne 6, 3) := by decide +kernel
theorem dX8_growing_24 : decode cX8_growing 24 = .ok (.bipush (-6), 2) := by decide +kernel
theorem dX8_growing_26 : decode cX8_growing 26 = .ok (.ireturn, 1) := by decide +kernel
theorem dX8_growing_27 : decode cX8_growing 27 = .ok (.iload_n 1, 1) := by decide +kernel
theorem dX8_growing_28 : decode cX8_growing 28 = .ok (.ifCond .ne 15, 3) := by decide +kernel
theorem dX8_growing_31 : decode cX8_growing 31 = .ok (.aload_n 0, 1) := by decide +kernel
theorem dX8_growing_32 : decode cX8_growing 32 = .ok (.getfield 44, 3) := by decide +kernel
theorem dX8_growing_35 : decode cX8_growing 35 = .ok (.iload_n 2, 1) := by decide +kernel
theorem dX8_growing_36 : decode cX8_growing 36 = .ok (.iaload, 1) := by decide +kernel
theorem dX8_growing_37 : decode cX8_growing 37 = .ok (.invokestatic 75, 3) := by decide +kernel
theorem dX8_growing_40 : decode cX8_growing 40 = .ok (.goto 47, 3) := by decide +kernel
theorem dX8_growing_43 : decode cX8_growing 43 = .ok (.iload_n 1, 1) := by decide +kernel
theorem dX8_growing_44 : decode cX8_growing 44 = .ok (.iconst 1, 1) := by decide +kernel
theorem dX8_growing_45 : decode cX8_growing 45 = .ok (.if_icmp .ne 16, 3) := by decide +kernel
theorem dX8_growing_48 : decode cX8_growing 48 = .ok (.aload_n 0, 1) := by decide +kernel
theorem dX8_growing_49 : decode cX8_growing 49 = .ok (.aload_n 0, 1) := by decide +kernel
theorem dX8_growing_50 : decode cX8_growing 50 = .ok (.getfield 44, 3) := by decide +kernel
theorem dX8_growing_53 : decode cX8_growing 53 = .ok (.iload_n 2, 1) := by decide +kernel
theorem dX8_growing_54 : decode cX8_growing 54 = .ok (.iaload, 1) := by decide +kernel
theorem dX8_growing_55 : decode cX8_growing 55 = .ok (.invokevirtual 132, 3) := by decide +kernel
theorem dX8_growing_58 : decode cX8_growing 58 = .ok (.goto 29, 3) := by decide +kernel
theorem dX8_growing_61 : decode cX8_growing 61 = .ok (.iload_n 1, 1) := by decide +kernel
theorem dX8_growing_62 : decode cX8_growing 62 = .ok (.iconst 2, 1) := by decide +kernel
theorem dX8_growing_63 : decode cX8_growing 63 = .ok (.if_icmp .ne 12, 3) := by decide +kernel
theorem dX8_growing_66 : decode cX8_growing 66 = .ok (.aload_n 0, 1) := by decide +kernel
theorem dX8_growing_67 : decode cX8_growing 67 = .ok (.getfield 50, 3) := by decide +kernel
theorem dX8_growing_70 : decode cX8_growing 70 = .ok (.iload_n 2, 1) := by decide +kernel
theorem dX8_growing_71 : decode cX8_growing 71 = .ok (.iaload, 1) := by decide +kernel
theorem dX8_growing_72 : decode cX8_growing 72 = .ok (.goto 15, 3) := by decide +kernel
theorem dX8_growing_75 : decode cX8_growing 75 = .ok (.aload_n 0, 1) := by decide +kernel
theorem dX8_growing_76 : decode cX8_growing 76 = .ok (.getfield 44, 3) := by decide +kernel
theorem dX8_growing_79 : decode cX8_growing 79 = .ok (.iload_n 2, 1) := by decide +kernel
theorem dX8_growing_80 : decode cX8_growing 80 = .ok (.iaload, 1) := by decide +kernel
theorem dX8_growing_81 : decode cX8_growing 81 = .ok (.iload_n 1, 1) := by decide +kernel
theorem dX8_growing_82 : decode cX8_growing 82 = .ok (.iconst 3, 1) := by decide +kernel
theorem dX8_growing_83 : decode cX8_growing 83 = .ok (.isub, 1) := by decide +kernel
theorem dX8_growing_84 : decode cX8_growing 84 = .ok (.invokestatic 123, 3) := by decide +kernel
theorem dX8_growing_87 : decode cX8_growing 87 = .ok (.ireturn, 1) := by decide +kernel
set_option maxRecDepth 20000 in
theorem ggX8_least_X8_leastOf : GoodIn wsX8_least wsX8_leastOf := goodIn_r _ [5, 6, 7, 8, 9, 4, 10, 11, 12, 13, 14, 15, 16, 17, 18, 19, 20, 21, 22, 23, 24, 25, 26, 27, 28, 29, 30, 31, 32, 33, 34, 35, 36, 37, 38, 39, 40, 41, 42, 43, 44, 45, 46, 47, 48, 49, 50, 51, 52, 53, 54, 55, 56, 57, 58, 59, 60, 61, 62, 63, 64, 65, 66, 67, 68, 69, 70, 71, 72, 73, 74, 75, 76, 77, 78, 79, 80, 81, 82, 83] (by decide +kernel) (by decide +kernel)
set_option maxRecDepth 20000 in
theorem gX8_least_X8_leastOf : GoodIn wsX8_least (wsV RX8 163 RX8 yX8_leastOf wsX8_leastOf) := goodIn_app (goodIn_of _ (by decide +kernel)) ggX8_least_X8_leastOf
theorem dX8_least_0 : decode cX8_least 0 = .ok (.aload_n 0, 1) := by decide +kernel
theorem dX8_least_1 : decode cX8_least 1 = .ok (.invokevirtual 163, 3) := by decide +kernel
theorem dX8_least_4 : decode cX8_least 4 = .ok (.ireturn, 1) := by decide +kernel
set_option maxRecDepth 20000 in
theorem ggX8_put_X8_within : GoodIn wsX8_put wsX8_within := goodIn_r _ [7] (by decide +kernel) (by decide +kernel)
set_option maxRecDepth 20000 in
theorem gX8_put_X8_within : GoodIn wsX8_put (va_wsS RX8 64 yX8_within wsX8_within) := goodIn_app (goodIn_of _ (by decide +kernel)) ggX8_put_X8_within
theorem dX8_put_0 : decode cX8_put 0 = .ok (.iconst 0, 1) := by decide +kernel
theorem dX8_put_1 : decode cX8_put 1 = .ok (.istore_n 3, 1) := by decide +kernel
theorem dX8_put_2 : decode cX8_put 2 = .ok (.lload_n 1, 1) := by decide +kernel
theorem dX8_put_3 : decode cX8_put 3 = .ok (.lstore 4, 2) := by decide +kernel
theorem dX8_put_5 : decode cX8_put 5 = .ok (.iconst 1, 1) := by decide +kernel
theorem dX8_put_6 : decode cX8_put 6 = .ok (.istore 6, 2) := by decide +kernel
theorem dX8_put_8 : decode cX8_put 8 = .ok (.iload_n 3, 1) := by decide +kernel
theorem dX8_put_9 : decode cX8_put 9 = .ok (.bipush 8, 2) := by decide +kernel
theorem dX8_put_11 : decode cX8_put 11 = .ok (.if_icmp .ge 56, 3) := by decide +kernel
theorem dX8_put_14 : decode cX8_put 14 = .ok (.lload 4, 2) := by decide +kernel
theorem dX8_put_16 : decode cX8_put 16 = .ok (.ldc2_w 177, 3) := by decide +kernel
theorem dX8_put_19 : decode cX8_put 19 = .ok (.land, 1) := by decide +kernel
theorem dX8_put_20 : decode cX8_put 20 = .ok (.lconst 0, 1) := by decide +kernel
theorem dX8_put_21 : decode cX8_put 21 = .ok (.lcmp, 1) := by decide +kernel
theorem dX8_put_22 : decode cX8_put 22 = .ok (.ifCond .eq 45, 3) := by decide +kernel
theorem dX8_put_25 : decode cX8_put 25 = .ok (.iload 6, 2) := by decide +kernel
theorem dX8_put_27 : decode cX8_put 27 = .ok (.ifCond .eq 24, 3) := by decide +kernel
theorem dX8_put_30 : decode cX8_put 30 = .ok (.lload 4, 2) := by decide +kernel
theorem dX8_put_32 : decode cX8_put 32 = .ok (.ldc2_w 177, 3) := by decide +kernel
theorem dX8_put_35 : decode cX8_put 35 = .ok (.land, 1) := by decide +kernel
theorem dX8_put_36 : decode cX8_put 36 = .ok (.l2i, 1) := by decide +kernel
theorem dX8_put_37 : decode cX8_put 37 = .ok (.bipush 33, 2) := by decide +kernel
theorem dX8_put_39 : decode cX8_put 39 = .ok (.bipush 126, 2) := by decide +kernel
theorem dX8_put_41 : decode cX8_put 41 = .ok (.invokestatic 64, 3) := by decide +kernel
theorem dX8_put_44 : decode cX8_put 44 = .ok (.ifCond .eq 7, 3) := by decide +kernel
theorem dX8_put_47 : decode cX8_put 47 = .ok (.iconst 1, 1) := by decide +kernel
theorem dX8_put_48 : decode cX8_put 48 = .ok (.goto 4, 3) := by decide +kernel
theorem dX8_put_51 : decode cX8_put 51 = .ok (.iconst 0, 1) := by decide +kernel
theorem dX8_put_52 : decode cX8_put 52 = .ok (.istore 6, 2) := by decide +kernel
theorem dX8_put_54 : decode cX8_put 54 = .ok (.lload 4, 2) := by decide +kernel
theorem dX8_put_56 : decode cX8_put 56 = .ok (.bipush 8, 2) := by decide +kernel
theorem dX8_put_58 : decode cX8_put 58 = .ok (.lushr, 1) := by decide +kernel
theorem dX8_put_59 : decode cX8_put 59 = .ok (.lstore 4, 2) := by decide +kernel
theorem dX8_put_61 : decode cX8_put 61 = .ok (.iinc 3 1, 3) := by decide +kernel
theorem dX8_put_64 : decode cX8_put 64 = .ok (.goto (-56), 3) := by decide +kernel
theorem dX8_put_67 : decode cX8_put 67 = .ok (.iload_n 3, 1) := by decide +kernel
theorem dX8_put_68 : decode cX8_put 68 = .ok (.ifCond .eq 15, 3) := by decide +kernel
theorem dX8_put_71 : decode cX8_put 71 = .ok (.iload 6, 2) := by decide +kernel
theorem dX8_put_73 : decode cX8_put 73 = .ok (.ifCond .eq 10, 3) := by decide +kernel
theorem dX8_put_76 : decode cX8_put 76 = .ok (.lload 4, 2) := by decide +kernel
theorem dX8_put_78 : decode cX8_put 78 = .ok (.lconst 0, 1) := by decide +kernel
theorem dX8_put_79 : decode cX8_put 79 = .ok (.lcmp, 1) := by decide +kernel
theorem dX8_put_80 : decode cX8_put 80 = .ok (.ifCond .eq 6, 3) := by decide +kernel
theorem dX8_put_83 : decode cX8_put 83 = .ok (.bipush (-2), 2) := by decide +kernel
theorem dX8_put_85 : decode cX8_put 85 = .ok (.ireturn, 1) := by decide +kernel
theorem dX8_put_86 : decode cX8_put 86 = .ok (.aload_n 0, 1) := by decide +kernel
theorem dX8_put_87 : decode cX8_put 87 = .ok (.getfield 135, 3) := by decide +kernel
theorem dX8_put_90 : decode cX8_put 90 = .ok (.iload_n 3, 1) := by decide +kernel
theorem dX8_put_91 : decode cX8_put 91 = .ok (.iadd, 1) := by decide +kernel
theorem dX8_put_92 : decode cX8_put 92 = .ok (.bipush 16, 2) := by decide +kernel
theorem dX8_put_94 : decode cX8_put 94 = .ok (.if_icmp .le 6, 3) := by decide +kernel
theorem dX8_put_97 : decode cX8_put 97 = .ok (.bipush (-4), 2) := by decide +kernel
theorem dX8_put_99 : decode cX8_put 99 = .ok (.ireturn, 1) := by decide +kernel
theorem dX8_put_100 : decode cX8_put 100 = .ok (.iload_n 3, 1) := by decide +kernel
theorem dX8_put_101 : decode cX8_put 101 = .ok (.iconst 1, 1) := by decide +kernel
theorem dX8_put_102 : decode cX8_put 102 = .ok (.isub, 1) := by decide +kernel
theorem dX8_put_103 : decode cX8_put 103 = .ok (.istore 7, 2) := by decide +kernel
theorem dX8_put_105 : decode cX8_put 105 = .ok (.iload 7, 2) := by decide +kernel
theorem dX8_put_107 : decode cX8_put 107 = .ok (.ifCond .lt 40, 3) := by decide +kernel
theorem dX8_put_110 : decode cX8_put 110 = .ok (.aload_n 0, 1) := by decide +kernel
theorem dX8_put_111 : decode cX8_put 111 = .ok (.getfield 25, 3) := by decide +kernel
theorem dX8_put_114 : decode cX8_put 114 = .ok (.aload_n 0, 1) := by decide +kernel
theorem dX8_put_115 : decode cX8_put 115 = .ok (.getfield 135, 3) := by decide +kernel
theorem dX8_put_118 : decode cX8_put 118 = .ok (.lload_n 1, 1) := by decide +kernel
theorem dX8_put_119 : decode cX8_put 119 = .ok (.bipush 8, 2) := by decide +kernel
theorem dX8_put_121 : decode cX8_put 121 = .ok (.iload 7, 2) := by decide +kernel
theorem dX8_put_123 : decode cX8_put 123 = .ok (.imul, 1) := by decide +kernel
theorem dX8_put_124 : decode cX8_put 124 = .ok (.lushr, 1) := by decide +kernel
theorem dX8_put_125 : decode cX8_put 125 = .ok (.ldc2_w 177, 3) := by decide +kernel
theorem dX8_put_128 : decode cX8_put 128 = .ok (.land, 1) := by decide +kernel
theorem dX8_put_129 : decode cX8_put 129 = .ok (.l2i, 1) := by decide +kernel
theorem dX8_put_130 : decode cX8_put 130 = .ok (.iastore, 1) := by decide +kernel
theorem dX8_put_131 : decode cX8_put 131 = .ok (.aload_n 0, 1) := by decide +kernel
theorem dX8_put_132 : decode cX8_put 132 = .ok (.dup, 1) := by decide +kernel
theorem dX8_put_133 : decode cX8_put 133 = .ok (.getfield 135, 3) := by decide +kernel
theorem dX8_put_136 : decode cX8_put 136 = .ok (.iconst 1, 1) := by decide +kernel
theorem dX8_put_137 : decode cX8_put 137 = .ok (.iadd, 1) := by decide +kernel
theorem dX8_put_138 : decode cX8_put 138 = .ok (.putfield 135, 3) := by decide +kernel
theorem dX8_put_141 : decode cX8_put 141 = .ok (.iinc 7 (-1), 3) := by decide +kernel
theorem dX8_put_144 : decode cX8_put 144 = .ok (.goto (-39), 3) := by decide +kernel
theorem dX8_put_147 : decode cX8_put 147 = .ok (.aload_n 0, 1) := by decide +kernel
theorem dX8_put_148 : decode cX8_put 148 = .ok (.getfield 135, 3) := by decide +kernel
theorem dX8_put_151 : decode cX8_put 151 = .ok (.ireturn, 1) := by decide +kernel
theorem dX8_wipe_0 : decode cX8_wipe 0 = .ok (.aload_n 0, 1) := by decide +kernel
theorem dX8_wipe_1 : decode cX8_wipe 1 = .ok (.getfield 135, 3) := by decide +kernel
theorem dX8_wipe_4 : decode cX8_wipe 4 = .ok (.istore_n 1, 1) := by decide +kernel
theorem dX8_wipe_5 : decode cX8_wipe 5 = .ok (.aload_n 0, 1) := by decide +kernel
theorem dX8_wipe_6 : decode cX8_wipe 6 = .ok (.iconst 0, 1) := by decide +kernel
theorem dX8_wipe_7 : decode cX8_wipe 7 = .ok (.putfield 135, 3) := by decide +kernel
theorem dX8_wipe_10 : decode cX8_wipe 10 = .ok (.iload_n 1, 1) := by decide +kernel
theorem dX8_wipe_11 : decode cX8_wipe 11 = .ok (.ireturn, 1) := by decide +kernel
set_option maxRecDepth 20000 in
theorem ggX8_fault_X8_within : GoodIn wsX8_fault wsX8_within := goodIn_r _ [6] (by decide +kernel) (by decide +kernel)
set_option maxRecDepth 20000 in
theorem gX8_fault_X8_within : GoodIn wsX8_fault (va_wsS RX8 64 yX8_within wsX8_within) := goodIn_app (goodIn_of _ (by decide +kernel)) ggX8_fault_X8_within
theorem dX8_fault_0 : decode cX8_fault 0 = .ok (.iconst 0, 1) := by decide +kernel
theorem dX8_fault_1 : decode cX8_fault 1 = .ok (.istore_n 1, 1) := by decide +kernel
theorem dX8_fault_2 : decode cX8_fault 2 = .ok (.iload_n 1, 1) := by decide +kernel
theorem dX8_fault_3 : decode cX8_fault 3 = .ok (.aload_n 0, 1) := by decide +kernel
theorem dX8_fault_4 : decode cX8_fault 4 = .ok (.getfield 135, 3) := by decide +kernel
theorem dX8_fault_7 : decode cX8_fault 7 = .ok (.if_icmp .ge 27, 3) := by decide +kernel
theorem dX8_fault_10 : decode cX8_fault 10 = .ok (.aload_n 0, 1) := by decide +kernel
theorem dX8_fault_11 : decode cX8_fault 11 = .ok (.getfield 25, 3) := by decide +kernel
theorem dX8_fault_14 : decode cX8_fault 14 = .ok (.iload_n 1, 1) := by decide +kernel
theorem dX8_fault_15 : decode cX8_fault 15 = .ok (.iaload, 1) := by decide +kernel
theorem dX8_fault_16 : decode cX8_fault 16 = .ok (.bipush 97, 2) := by decide +kernel
theorem dX8_fault_18 : decode cX8_fault 18 = .ok (.bipush 102, 2) := by decide +kernel
theorem dX8_fault_20 : decode cX8_fault 20 = .ok (.invokestatic 64, 3) := by decide +kernel
theorem dX8_fault_23 : decode cX8_fault 23 = .ok (.ifCond .ne 5, 3) := by decide +kernel
theorem dX8_fault_26 : decode cX8_fault 26 = .ok (.iload_n 1, 1) := by decide +kernel
theorem dX8_fault_27 : decode cX8_fault 27 = .ok (.ireturn, 1) := by decide +kernel
theorem dX8_fault_28 : decode cX8_fault 28 = .ok (.iinc 1 1, 3) := by decide +kernel
theorem dX8_fault_31 : decode cX8_fault 31 = .ok (.goto (-29), 3) := by decide +kernel
theorem dX8_fault_34 : decode cX8_fault 34 = .ok (.bipush (-6), 2) := by decide +kernel
theorem dX8_fault_36 : decode cX8_fault 36 = .ok (.ireturn, 1) := by decide +kernel
set_option maxRecDepth 20000 in
theorem ggX8_undo_X8_copy : GoodIn wsX8_undo wsX8_copy := goodIn_r _ [7] (by decide +kernel) (by decide +kernel)
set_option maxRecDepth 20000 in
theorem gX8_undo_X8_copy : GoodIn wsX8_undo (va_wsS RX8 60 yX8_copy wsX8_copy) := goodIn_app (goodIn_of _ (by decide +kernel)) ggX8_undo_X8_copy
theorem dX8_undo_0 : decode cX8_undo 0 = .ok (.aload_n 0, 1) := by decide +kernel
theorem dX8_undo_1 : decode cX8_undo 1 = .ok (.getfield 56, 3) := by decide +kernel
theorem dX8_undo_4 : decode cX8_undo 4 = .ok (.ifCond .ne 6, 3) := by decide +kernel
theorem dX8_undo_7 : decode cX8_undo 7 = .ok (.bipush (-5), 2) := by decide +kernel
theorem dX8_undo_9 : decode cX8_undo 9 = .ok (.ireturn, 1) := by decide +kernel
theorem dX8_undo_10 : decode cX8_undo 10 = .ok (.aload_n 0, 1) := by decide +kernel
theorem dX8_undo_11 : decode cX8_undo 11 = .ok (.dup, 1) := by decide +kernel
theorem dX8_undo_12 : decode cX8_undo 12 = .ok (.getfield 56, 3) := by decide +kernel
theorem dX8_undo_15 : decode cX8_undo 15 = .ok (.iconst 1, 1) := by decide +kernel
theorem dX8_undo_16 : decode cX8_undo 16 = .ok (.isub, 1) := by decide +kernel
theorem dX8_undo_17 : decode cX8_undo 17 = .ok (.putfield 56, 3) := by decide +kernel
theorem dX8_undo_20 : decode cX8_undo 20 = .ok (.aload_n 0, 1) := by decide +kernel
theorem dX8_undo_21 : decode cX8_undo 21 = .ok (.getfield 16, 3) := by decide +kernel
theorem dX8_undo_24 : decode cX8_undo 24 = .ok (.aload_n 0, 1) := by decide +kernel
theorem dX8_undo_25 : decode cX8_undo 25 = .ok (.getfield 56, 3) := by decide +kernel
theorem dX8_undo_28 : decode cX8_undo 28 = .ok (.sipush 210, 3) := by decide +kernel
theorem dX8_undo_31 : decode cX8_undo 31 = .ok (.imul, 1) := by decide +kernel
theorem dX8_undo_32 : decode cX8_undo 32 = .ok (.aload_n 0, 1) := by decide +kernel
theorem dX8_undo_33 : decode cX8_undo 33 = .ok (.getfield 7, 3) := by decide +kernel
theorem dX8_undo_36 : decode cX8_undo 36 = .ok (.iconst 0, 1) := by decide +kernel
theorem dX8_undo_37 : decode cX8_undo 37 = .ok (.invokestatic 60, 3) := by decide +kernel
theorem dX8_undo_40 : decode cX8_undo 40 = .ok (.aload_n 0, 1) := by decide +kernel
theorem dX8_undo_41 : decode cX8_undo 41 = .ok (.getfield 56, 3) := by decide +kernel
theorem dX8_undo_44 : decode cX8_undo 44 = .ok (.ireturn, 1) := by decide +kernel
set_option maxRecDepth 20000 in
theorem ggX8_save_X8_within : GoodIn wsX8_save wsX8_within := goodIn_r _ [7] (by decide +kernel) (by decide +kernel)
set_option maxRecDepth 20000 in
theorem gX8_save_X8_within : GoodIn wsX8_save (va_wsS RX8 64 yX8_within wsX8_within) := goodIn_app (goodIn_of _ (by decide +kernel)) ggX8_save_X8_within
set_option maxRecDepth 20000 in
theorem ggX8_save_X8_copy : GoodIn wsX8_save wsX8_copy := goodIn_r _ [10] (by decide +kernel) (by decide +kernel)
set_option maxRecDepth 20000 in
theorem gX8_save_X8_copy : GoodIn wsX8_save (va_wsS RX8 60 yX8_copy wsX8_copy) := goodIn_app (goodIn_of _ (by decide +kernel)) ggX8_save_X8_copy
theorem dX8_save_0 : decode cX8_save 0 = .ok (.iload_n 1, 1) := by decide +kernel
theorem dX8_save_1 : decode cX8_save 1 = .ok (.iconst 0, 1) := by decide +kernel
theorem dX8_save_2 : decode cX8_save 2 = .ok (.iconst 1, 1) := by decide +kernel
theorem dX8_save_3 : decode cX8_save 3 = .ok (.invokestatic 64, 3) := by decide +kernel
theorem dX8_save_6 : decode cX8_save 6 = .ok (.ifCond .ne 6, 3) := by decide +kernel
theorem dX8_save_9 : decode cX8_save 9 = .ok (.bipush (-2), 2) := by decide +kernel
theorem dX8_save_11 : decode cX8_save 11 = .ok (.ireturn, 1) := by decide +kernel
theorem dX8_save_12 : decode cX8_save 12 = .ok (.aload_n 0, 1) := by decide +kernel
theorem dX8_save_13 : decode cX8_save 13 = .ok (.getfield 7, 3) := by decide +kernel
theorem dX8_save_16 : decode cX8_save 16 = .ok (.iconst 0, 1) := by decide +kernel
theorem dX8_save_17 : decode cX8_save 17 = .ok (.aload_n 0, 1) := by decide +kernel
theorem dX8_save_18 : decode cX8_save 18 = .ok (.getfield 19, 3) := by decide +kernel
theorem dX8_save_21 : decode cX8_save 21 = .ok (.sipush 210, 3) := by decide +kernel
theorem dX8_save_24 : decode cX8_save 24 = .ok (.iload_n 1, 1) := by decide +kernel
theorem dX8_save_25 : decode cX8_save 25 = .ok (.imul, 1) := by decide +kernel
theorem dX8_save_26 : decode cX8_save 26 = .ok (.invokestatic 60, 3) := by decide +kernel
theorem dX8_save_29 : decode cX8_save 29 = .ok (.aload_n 0, 1) := by decide +kernel
theorem dX8_save_30 : decode cX8_save 30 = .ok (.getfield 22, 3) := by decide +kernel
theorem dX8_save_33 : decode cX8_save 33 = .ok (.iload_n 1, 1) := by decide +kernel
theorem dX8_save_34 : decode cX8_save 34 = .ok (.iconst 1, 1) := by decide +kernel
theorem dX8_save_35 : decode cX8_save 35 = .ok (.iastore, 1) := by decide +kernel
theorem dX8_save_36 : decode cX8_save 36 = .ok (.aload_n 0, 1) := by decide +kernel
theorem dX8_save_37 : decode cX8_save 37 = .ok (.getfield 7, 3) := by decide +kernel
theorem dX8_save_40 : decode cX8_save 40 = .ok (.iconst 0, 1) := by decide +kernel
theorem dX8_save_41 : decode cX8_save 41 = .ok (.iaload, 1) := by decide +kernel
theorem dX8_save_42 : decode cX8_save 42 = .ok (.ireturn, 1) := by decide +kernel
set_option maxRecDepth 20000 in
theorem ggX8_restore_X8_within : GoodIn wsX8_restore wsX8_within := goodIn_r _ [7] (by decide +kernel) (by decide +kernel)
set_option maxRecDepth 20000 in
theorem gX8_restore_X8_within : GoodIn wsX8_restore (va_wsS RX8 64 yX8_within wsX8_within) := goodIn_app (goodIn_of _ (by decide +kernel)) ggX8_restore_X8_within
set_option maxRecDepth 20000 in
theorem ggX8_restore_X8_record : GoodIn wsX8_restore wsX8_record := goodIn_r _ [11, 12, 13, 3, 14, 15, 6, 16, 17, 18, 19, 20, 21, 22, 23, 24, 25, 26, 27, 28, 29, 30, 31, 32, 33, 34] (by decide +kernel) (by decide +kernel)
set_option maxRecDepth 20000 in
theorem gX8_restore_X8_record : GoodIn wsX8_restore (wsV RX8 144 RX8 yX8_record wsX8_record) := goodIn_app (goodIn_of _ (by decide +kernel)) ggX8_restore_X8_record
set_option maxRecDepth 20000 in
theorem ggX8_restore_X8_copy : GoodIn wsX8_restore wsX8_copy := goodIn_r _ [16] (by decide +kernel) (by decide +kernel)
set_option maxRecDepth 20000 in
theorem gX8_restore_X8_copy : GoodIn wsX8_restore (va_wsS RX8 60 yX8_copy wsX8_copy) := goodIn_app (goodIn_of _ (by decide +kernel)) ggX8_restore_X8_copy
theorem dX8_restore_0 : decode cX8_restore 0 = .ok (.iload_n 1, 1) := by decide +kernel
theorem dX8_restore_1 : decode cX8_restore 1 = .ok (.iconst 0, 1) := by decide +kernel
theorem dX8_restore_2 : decode cX8_restore 2 = .ok (.iconst 1, 1) := by decide +kernel
theorem dX8_restore_3 : decode cX8_restore 3 = .ok (.invokestatic 64, 3) := by decide +kernel
theorem dX8_restore_6 : decode cX8_restore 6 = .ok (.ifCond .ne 6, 3) := by decide +kernel
theorem dX8_restore_9 : decode cX8_restore 9 = .ok (.bipush (-2), 2) := by decide +kernel
theorem dX8_restore_11 : decode cX8_restore 11 = .ok (.ireturn, 1) := by decide +kernel
theorem dX8_restore_12 : decode cX8_restore 12 = .ok (.aload_n 0, 1) := by decide +kernel
theorem dX8_restore_13 : decode cX8_restore 13 = .ok (.getfield 22, 3) := by decide +kernel
theorem dX8_restore_16 : decode cX8_restore 16 = .ok (.iload_n 1, 1) := by decide +kernel
theorem dX8_restore_17 : decode cX8_restore 17 = .ok (.iaload, 1) := by decide +kernel
theorem dX8_restore_18 : decode cX8_restore 18 = .ok (.ifCond .ne 6, 3) := by decide +kernel
theorem dX8_restore_21 : decode cX8_restore 21 = .ok (.bipush (-5), 2) := by decide +kernel
theorem dX8_restore_23 : decode cX8_restore 23 = .ok (.ireturn, 1) := by decide +kernel
theorem dX8_restore_24 : decode cX8_restore 24 = .ok (.aload_n 0, 1) := by decide +kernel
theorem dX8_restore_25 : decode cX8_restore 25 = .ok (.invokevirtual 144, 3) := by decide +kernel
theorem dX8_restore_28 : decode cX8_restore 28 = .ok (.aload_n 0, 1) := by decide +kernel
theorem dX8_restore_29 : decode cX8_restore 29 = .ok (.getfield 19, 3) := by decide +kernel
theorem dX8_restore_32 : decode cX8_restore 32 = .ok (.sipush 210, 3) := by decide +kernel
theorem dX8_restore_35 : decode cX8_restore 35 = .ok (.iload_n 1, 1) := by decide +kernel
theorem dX8_restore_36 : decode cX8_restore 36 = .ok (.imul, 1) := by decide +kernel
theorem dX8_restore_37 : decode cX8_restore 37 = .ok (.aload_n 0, 1) := by decide +kernel
theorem dX8_restore_38 : decode cX8_restore 38 = .ok (.getfield 7, 3) := by decide +kernel
theorem dX8_restore_41 : decode cX8_restore 41 = .ok (.iconst 0, 1) := by decide +kernel
theorem dX8_restore_42 : decode cX8_restore 42 = .ok (.invokestatic 60, 3) := by decide +kernel
theorem dX8_restore_45 : decode cX8_restore 45 = .ok (.aload_n 0, 1) := by decide +kernel
theorem dX8_restore_46 : decode cX8_restore 46 = .ok (.getfield 7, 3) := by decide +kernel
theorem dX8_restore_49 : decode cX8_restore 49 = .ok (.iconst 0, 1) := by decide +kernel
theorem dX8_restore_50 : decode cX8_restore 50 = .ok (.iaload, 1) := by decide +kernel
theorem dX8_restore_51 : decode cX8_restore 51 = .ok (.ireturn, 1) := by decide +kernel
theorem dJ9_max_7cf53_0 : decode cJ9_max_7cf53 0 = .ok (.iload_n 0, 1) := by decide +kernel
theorem dJ9_max_7cf53_1 : decode cJ9_max_7cf53 1 = .ok (.iload_n 1, 1) := by decide +kernel
theorem dJ9_max_7cf53_2 : decode cJ9_max_7cf53 2 = .ok (.if_icmp .lt 7, 3) := by decide +kernel
theorem dJ9_max_7cf53_5 : decode cJ9_max_7cf53 5 = .ok (.iload_n 0, 1) := by decide +kernel
theorem dJ9_max_7cf53_6 : decode cJ9_max_7cf53 6 = .ok (.goto 4, 3) := by decide +kernel
theorem dJ9_max_7cf53_9 : decode cJ9_max_7cf53 9 = .ok (.iload_n 1, 1) := by decide +kernel
theorem dJ9_max_7cf53_10 : decode cJ9_max_7cf53 10 = .ok (.ireturn, 1) := by decide +kernel
theorem dJ9_min_7cf53_0 : decode cJ9_min_7cf53 0 = .ok (.iload_n 0, 1) := by decide +kernel
theorem dJ9_min_7cf53_1 : decode cJ9_min_7cf53 1 = .ok (.iload_n 1, 1) := by decide +kernel
theorem dJ9_min_7cf53_2 : decode cJ9_min_7cf53 2 = .ok (.if_icmp .gt 7, 3) := by decide +kernel
theorem dJ9_min_7cf53_5 : decode cJ9_min_7cf53 5 = .ok (.iload_n 0, 1) := by decide +kernel
theorem dJ9_min_7cf53_6 : decode cJ9_min_7cf53 6 = .ok (.goto 4, 3) := by decide +kernel
theorem dJ9_min_7cf53_9 : decode cJ9_min_7cf53 9 = .ok (.iload_n 1, 1) := by decide +kernel
theorem dJ9_min_7cf53_10 : decode cJ9_min_7cf53 10 = .ok (.ireturn, 1) := by decide +kernel
theorem dJ7_fill_d0a16_0 : decode cJ7_fill_d0a16 0 = .ok (.iconst 0, 1) := by decide +kernel
theorem dJ7_fill_d0a16_1 : decode cJ7_fill_d0a16 1 = .ok (.istore_n 3, 1) := by decide +kernel
theorem dJ7_fill_d0a16_2 : decode cJ7_fill_d0a16 2 = .ok (.aload_n 0, 1) := by decide +kernel
theorem dJ7_fill_d0a16_3 : decode cJ7_fill_d0a16 3 = .ok (.arraylength, 1) := by decide +kernel
theorem dJ7_fill_d0a16_4 : decode cJ7_fill_d0a16 4 = .ok (.istore 4, 2) := by decide +kernel
theorem dJ7_fill_d0a16_6 : decode cJ7_fill_d0a16 6 = .ok (.iload_n 3, 1) := by decide +kernel
theorem dJ7_fill_d0a16_7 : decode cJ7_fill_d0a16 7 = .ok (.iload 4, 2) := by decide +kernel
theorem dJ7_fill_d0a16_9 : decode cJ7_fill_d0a16 9 = .ok (.if_icmp .ge 13, 3) := by decide +kernel
theorem dJ7_fill_d0a16_12 : decode cJ7_fill_d0a16 12 = .ok (.aload_n 0, 1) := by decide +kernel
theorem dJ7_fill_d0a16_13 : decode cJ7_fill_d0a16 13 = .ok (.iload_n 3, 1) := by decide +kernel
theorem dJ7_fill_d0a16_14 : decode cJ7_fill_d0a16 14 = .ok (.lload_n 1, 1) := by decide +kernel
theorem dJ7_fill_d0a16_15 : decode cJ7_fill_d0a16 15 = .ok (.lastore, 1) := by decide +kernel
theorem dJ7_fill_d0a16_16 : decode cJ7_fill_d0a16 16 = .ok (.iinc 3 1, 3) := by decide +kernel
theorem dJ7_fill_d0a16_19 : decode cJ7_fill_d0a16 19 = .ok (.goto (-13), 3) := by decide +kernel
theorem dJ7_fill_d0a16_22 : decode cJ7_fill_d0a16 22 = .ok (.return_, 1) := by decide +kernel
theorem dJ7_fill_53178_0 : decode cJ7_fill_53178 0 = .ok (.iconst 0, 1) := by decide +kernel
theorem dJ7_fill_53178_1 : decode cJ7_fill_53178 1 = .ok (.istore_n 2, 1) := by decide +kernel
theorem dJ7_fill_53178_2 : decode cJ7_fill_53178 2 = .ok (.aload_n 0, 1) := by decide +kernel
theorem dJ7_fill_53178_3 : decode cJ7_fill_53178 3 = .ok (.arraylength, 1) := by decide +kernel
theorem dJ7_fill_53178_4 : decode cJ7_fill_53178 4 = .ok (.istore_n 3, 1) := by decide +kernel
theorem dJ7_fill_53178_5 : decode cJ7_fill_53178 5 = .ok (.iload_n 2, 1) := by decide +kernel
theorem dJ7_fill_53178_6 : decode cJ7_fill_53178 6 = .ok (.iload_n 3, 1) := by decide +kernel
theorem dJ7_fill_53178_7 : decode cJ7_fill_53178 7 = .ok (.if_icmp .ge 13, 3) := by decide +kernel
theorem dJ7_fill_53178_10 : decode cJ7_fill_53178 10 = .ok (.aload_n 0, 1) := by decide +kernel
theorem dJ7_fill_53178_11 : decode cJ7_fill_53178 11 = .ok (.iload_n 2, 1) := by decide +kernel
theorem dJ7_fill_53178_12 : decode cJ7_fill_53178 12 = .ok (.iload_n 1, 1) := by decide +kernel
theorem dJ7_fill_53178_13 : decode cJ7_fill_53178 13 = .ok (.iastore, 1) := by decide +kernel
theorem dJ7_fill_53178_14 : decode cJ7_fill_53178 14 = .ok (.iinc 2 1, 3) := by decide +kernel
theorem dJ7_fill_53178_17 : decode cJ7_fill_53178 17 = .ok (.goto (-12), 3) := by decide +kernel
theorem dJ7_fill_53178_20 : decode cJ7_fill_53178 20 = .ok (.return_, 1) := by decide +kernel
