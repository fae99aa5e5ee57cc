theorem dX8_findCut_102 : decode cX8_findCut 102 = .ok (.ifCond .gt 26, 3) := by decide +kernel
theorem dX8_findCut_105 : decode cX8_findCut 105 = .ok (.lload 6, 2) := by decide +kernel
theorem dX8_findCut_107 : decode cX8_findCut 107 = .ok (.aload_n 0, 1) := by decide +kernel
theorem dX8_findCut_108 : decode cX8_findCut 108 = .ok (.getfield 28, 3) := by decide +kernel
theorem dX8_findCut_111 : decode cX8_findCut 111 = .ok (.iload_n 3, 1) := by decide +kernel
theorem dX8_findCut_112 : decode cX8_findCut 112 = .ok (.laload, 1) := by decide +kernel
theorem dX8_findCut_113 : decode cX8_findCut 113 = .ok (.lcmp, 1) := by decide +kernel
theorem dX8_findCut_114 : decode cX8_findCut 114 = .ok (.ifCond .ne 38, 3) := by decide +kernel
theorem dX8_findCut_117 : decode cX8_findCut 117 = .ok (.iload 8, 2) := by decide +kernel
theorem dX8_findCut_119 : decode cX8_findCut 119 = .ok (.aload_n 0, 1) := by decide +kernel
theorem dX8_findCut_120 : decode cX8_findCut 120 = .ok (.getfield 32, 3) := by decide +kernel
theorem dX8_findCut_123 : decode cX8_findCut 123 = .ok (.iload_n 3, 1) := by decide +kernel
theorem dX8_findCut_124 : decode cX8_findCut 124 = .ok (.iaload, 1) := by decide +kernel
theorem dX8_findCut_125 : decode cX8_findCut 125 = .ok (.if_icmp .gt 27, 3) := by decide +kernel
theorem dX8_findCut_128 : decode cX8_findCut 128 = .ok (.aload_n 0, 1) := by decide +kernel
theorem dX8_findCut_129 : decode cX8_findCut 129 = .ok (.getfield 28, 3) := by decide +kernel
theorem dX8_findCut_132 : decode cX8_findCut 132 = .ok (.iload_n 3, 1) := by decide +kernel
theorem dX8_findCut_133 : decode cX8_findCut 133 = .ok (.lload 6, 2) := by decide +kernel
theorem dX8_findCut_135 : decode cX8_findCut 135 = .ok (.lastore, 1) := by decide +kernel
theorem dX8_findCut_136 : decode cX8_findCut 136 = .ok (.aload_n 0, 1) := by decide +kernel
theorem dX8_findCut_137 : decode cX8_findCut 137 = .ok (.getfield 32, 3) := by decide +kernel
theorem dX8_findCut_140 : decode cX8_findCut 140 = .ok (.iload_n 3, 1) := by decide +kernel
theorem dX8_findCut_141 : decode cX8_findCut 141 = .ok (.iload 8, 2) := by decide +kernel
theorem dX8_findCut_143 : decode cX8_findCut 143 = .ok (.iastore, 1) := by decide +kernel
theorem dX8_findCut_144 : decode cX8_findCut 144 = .ok (.aload_n 0, 1) := by decide +kernel
theorem dX8_findCut_145 : decode cX8_findCut 145 = .ok (.getfield 35, 3) := by decide +kernel
theorem dX8_findCut_148 : decode cX8_findCut 148 = .ok (.iload_n 3, 1) := by decide +kernel
theorem dX8_findCut_149 : decode cX8_findCut 149 = .ok (.iload 4, 2) := by decide +kernel
theorem dX8_findCut_151 : decode cX8_findCut 151 = .ok (.iastore, 1) := by decide +kernel
theorem dX8_findCut_152 : decode cX8_findCut 152 = .ok (.iinc 4 1, 3) := by decide +kernel
theorem dX8_findCut_155 : decode cX8_findCut 155 = .ok (.goto (-116), 3) := by decide +kernel
theorem dX8_findCut_158 : decode cX8_findCut 158 = .ok (.iinc 3 (-1), 3) := by decide +kernel
theorem dX8_findCut_161 : decode cX8_findCut 161 = .ok (.goto (-136), 3) := by decide +kernel
theorem dX8_findCut_164 : decode cX8_findCut 164 = .ok (.return_, 1) := by decide +kernel
set_option maxRecDepth 20000 in
theorem ggX8_unseenIn_X8_wordPart : GoodIn wsX8_unseenIn wsX8_wordPart := goodIn_r _ [6, 7, 24, 25, 26, 27, 28, 29, 30, 31, 32, 33, 34, 35, 36, 37, 38, 39, 40, 41] (by decide +kernel) (by decide +kernel)
set_option maxRecDepth 20000 in
theorem gX8_unseenIn_X8_wordPart : GoodIn wsX8_unseenIn (wsV RX8 72 RX8 yX8_wordPart wsX8_wordPart) := goodIn_app (goodIn_of _ (by decide +kernel)) ggX8_unseenIn_X8_wordPart
set_option maxRecDepth 20000 in
theorem ggX8_unseenIn_X8_textIn : GoodIn wsX8_unseenIn wsX8_textIn := goodIn_r _ [11, 2, 3, 4, 5, 6, 7, 24, 25, 26, 27, 28, 29, 30, 31, 32, 33, 34, 35, 36, 37, 38, 39, 40, 41] (by decide +kernel) (by decide +kernel)
set_option maxRecDepth 20000 in
theorem gX8_unseenIn_X8_textIn : GoodIn wsX8_unseenIn (wsV RX8 82 RX8 yX8_textIn wsX8_textIn) := goodIn_app (goodIn_of _ (by decide +kernel)) ggX8_unseenIn_X8_textIn
set_option maxRecDepth 20000 in
theorem ggX8_unseenIn_X8_pieceOf : GoodIn wsX8_unseenIn wsX8_pieceOf := goodIn_r _ [15, 7, 16, 17, 18, 5, 19, 20, 21, 22, 23, 24, 25, 26, 27, 28, 29, 30, 31, 32, 33, 34, 35, 36, 37, 38, 39, 40, 41] (by decide +kernel) (by decide +kernel)
set_option maxRecDepth 20000 in
theorem gX8_unseenIn_X8_pieceOf : GoodIn wsX8_unseenIn (wsV RX8 86 RX8 yX8_pieceOf wsX8_pieceOf) := goodIn_app (goodIn_of _ (by decide +kernel)) ggX8_unseenIn_X8_pieceOf
theorem dX8_unseenIn_0 : decode cX8_unseenIn 0 = .ok (.iconst 0, 1) := by decide +kernel
theorem dX8_unseenIn_1 : decode cX8_unseenIn 1 = .ok (.istore_n 2, 1) := by decide +kernel
theorem dX8_unseenIn_2 : decode cX8_unseenIn 2 = .ok (.iconst 0, 1) := by decide +kernel
theorem dX8_unseenIn_3 : decode cX8_unseenIn 3 = .ok (.istore_n 3, 1) := by decide +kernel
theorem dX8_unseenIn_4 : decode cX8_unseenIn 4 = .ok (.iload_n 3, 1) := by decide +kernel
theorem dX8_unseenIn_5 : decode cX8_unseenIn 5 = .ok (.aload_n 0, 1) := by decide +kernel
theorem dX8_unseenIn_6 : decode cX8_unseenIn 6 = .ok (.iload_n 1, 1) := by decide +kernel
theorem dX8_unseenIn_7 : decode cX8_unseenIn 7 = .ok (.iconst 0, 1) := by decide +kernel
theorem dX8_unseenIn_8 : decode cX8_unseenIn 8 = .ok (.invokevirtual 72, 3) := by decide +kernel
theorem dX8_unseenIn_11 : decode cX8_unseenIn 11 = .ok (.if_icmp .ge 44, 3) := by decide +kernel
theorem dX8_unseenIn_14 : decode cX8_unseenIn 14 = .ok (.iload_n 2, 1) := by decide +kernel
theorem dX8_unseenIn_15 : decode cX8_unseenIn 15 = .ok (.aload_n 0, 1) := by decide +kernel
theorem dX8_unseenIn_16 : decode cX8_unseenIn 16 = .ok (.aload_n 0, 1) := by decide +kernel
theorem dX8_unseenIn_17 : decode cX8_unseenIn 17 = .ok (.iload_n 1, 1) := by decide +kernel
theorem dX8_unseenIn_18 : decode cX8_unseenIn 18 = .ok (.iload_n 3, 1) := by decide +kernel
theorem dX8_unseenIn_19 : decode cX8_unseenIn 19 = .ok (.aload_n 0, 1) := by decide +kernel
theorem dX8_unseenIn_20 : decode cX8_unseenIn 20 = .ok (.getfield 35, 3) := by decide +kernel
theorem dX8_unseenIn_23 : decode cX8_unseenIn 23 = .ok (.iload_n 3, 1) := by decide +kernel
theorem dX8_unseenIn_24 : decode cX8_unseenIn 24 = .ok (.iaload, 1) := by decide +kernel
theorem dX8_unseenIn_25 : decode cX8_unseenIn 25 = .ok (.invokevirtual 82, 3) := by decide +kernel
theorem dX8_unseenIn_28 : decode cX8_unseenIn 28 = .ok (.invokevirtual 86, 3) := by decide +kernel
theorem dX8_unseenIn_31 : decode cX8_unseenIn 31 = .ok (.bipush (-6), 2) := by decide +kernel
theorem dX8_unseenIn_33 : decode cX8_unseenIn 33 = .ok (.if_icmp .ne 7, 3) := by decide +kernel
theorem dX8_unseenIn_36 : decode cX8_unseenIn 36 = .ok (.iconst 1, 1) := by decide +kernel
theorem dX8_unseenIn_37 : decode cX8_unseenIn 37 = .ok (.goto 4, 3) := by decide +kernel
theorem dX8_unseenIn_40 : decode cX8_unseenIn 40 = .ok (.iconst 0, 1) := by decide +kernel
theorem dX8_unseenIn_41 : decode cX8_unseenIn 41 = .ok (.iadd, 1) := by decide +kernel
theorem dX8_unseenIn_42 : decode cX8_unseenIn 42 = .ok (.istore_n 2, 1) := by decide +kernel
theorem dX8_unseenIn_43 : decode cX8_unseenIn 43 = .ok (.iload_n 3, 1) := by decide +kernel
theorem dX8_unseenIn_44 : decode cX8_unseenIn 44 = .ok (.aload_n 0, 1) := by decide +kernel
theorem dX8_unseenIn_45 : decode cX8_unseenIn 45 = .ok (.getfield 35, 3) := by decide +kernel
theorem dX8_unseenIn_48 : decode cX8_unseenIn 48 = .ok (.iload_n 3, 1) := by decide +kernel
theorem dX8_unseenIn_49 : decode cX8_unseenIn 49 = .ok (.iaload, 1) := by decide +kernel
theorem dX8_unseenIn_50 : decode cX8_unseenIn 50 = .ok (.iadd, 1) := by decide +kernel
theorem dX8_unseenIn_51 : decode cX8_unseenIn 51 = .ok (.istore_n 3, 1) := by decide +kernel
theorem dX8_unseenIn_52 : decode cX8_unseenIn 52 = .ok (.goto (-48), 3) := by decide +kernel
theorem dX8_unseenIn_55 : decode cX8_unseenIn 55 = .ok (.iload_n 2, 1) := by decide +kernel
theorem dX8_unseenIn_56 : decode cX8_unseenIn 56 = .ok (.ireturn, 1) := by decide +kernel
set_option maxRecDepth 20000 in
theorem ggX8_costOf_X8_findCut : GoodIn wsX8_costOf wsX8_findCut := goodIn_r _ [6, 7, 1, 8, 9, 10, 11, 5, 12, 13, 14, 15, 16, 17, 18, 19, 20, 21, 22, 23, 24, 25, 26, 27, 28, 29, 30, 31, 32, 33, 34, 35, 36, 37, 42, 43, 44, 45, 46, 47, 48, 49, 50, 51, 52, 53, 54, 55, 56, 57, 58, 59] (by decide +kernel) (by decide +kernel)
set_option maxRecDepth 20000 in
theorem gX8_costOf_X8_findCut : GoodIn wsX8_costOf (wsV RX8 95 RX8 yX8_findCut wsX8_findCut) := goodIn_app (goodIn_of _ (by decide +kernel)) ggX8_costOf_X8_findCut
set_option maxRecDepth 20000 in
theorem ggX8_costOf_X8_unseenIn : GoodIn wsX8_costOf wsX8_unseenIn := goodIn_r _ [41, 8, 9, 10, 11, 5, 12, 13, 22, 23, 24, 25, 26, 27, 28, 29, 30, 31, 32, 33, 34, 35, 36, 37, 42, 43, 44, 45, 46, 47, 48, 49, 50, 51, 52, 53, 54, 55, 56, 57, 58, 59] (by decide +kernel) (by decide +kernel)
set_option maxRecDepth 20000 in
theorem gX8_costOf_X8_unseenIn : GoodIn wsX8_costOf (wsV RX8 99 RX8 yX8_unseenIn wsX8_unseenIn) := goodIn_app (goodIn_of _ (by decide +kernel)) ggX8_costOf_X8_unseenIn
set_option maxRecDepth 20000 in
theorem ggX8_costOf_X8_wordPart : GoodIn wsX8_costOf wsX8_wordPart := goodIn_r _ [12, 13, 42, 43, 44, 45, 46, 47, 48, 49, 50, 51, 52, 53, 54, 55, 56, 57, 58, 59] (by decide +kernel) (by decide +kernel)
set_option maxRecDepth 20000 in
theorem gX8_costOf_X8_wordPart : GoodIn wsX8_costOf (wsV RX8 72 RX8 yX8_wordPart wsX8_wordPart) := goodIn_app (goodIn_of _ (by decide +kernel)) ggX8_costOf_X8_wordPart
theorem dX8_costOf_0 : decode cX8_costOf 0 = .ok (.aload_n 0, 1) := by decide +kernel
theorem dX8_costOf_1 : decode cX8_costOf 1 = .ok (.iload_n 1, 1) := by decide +kernel
theorem dX8_costOf_2 : decode cX8_costOf 2 = .ok (.invokevirtual 95, 3) := by decide +kernel
theorem dX8_costOf_5 : decode cX8_costOf 5 = .ok (.aload_n 0, 1) := by decide +kernel
theorem dX8_costOf_6 : decode cX8_costOf 6 = .ok (.getfield 32, 3) := by decide +kernel
theorem dX8_costOf_9 : decode cX8_costOf 9 = .ok (.iconst 0, 1) := by decide +kernel
theorem dX8_costOf_10 : decode cX8_costOf 10 = .ok (.iaload, 1) := by decide +kernel
theorem dX8_costOf_11 : decode cX8_costOf 11 = .ok (.aload_n 0, 1) := by decide +kernel
theorem dX8_costOf_12 : decode cX8_costOf 12 = .ok (.iload_n 1, 1) := by decide +kernel
theorem dX8_costOf_13 : decode cX8_costOf 13 = .ok (.invokevirtual 99, 3) := by decide +kernel
theorem dX8_costOf_16 : decode cX8_costOf 16 = .ok (.iadd, 1) := by decide +kernel
theorem dX8_costOf_17 : decode cX8_costOf 17 = .ok (.aload_n 0, 1) := by decide +kernel
theorem dX8_costOf_18 : decode cX8_costOf 18 = .ok (.iload_n 1, 1) := by decide +kernel
theorem dX8_costOf_19 : decode cX8_costOf 19 = .ok (.iconst 1, 1) := by decide +kernel
theorem dX8_costOf_20 : decode cX8_costOf 20 = .ok (.invokevirtual 72, 3) := by decide +kernel
theorem dX8_costOf_23 : decode cX8_costOf 23 = .ok (.imul, 1) := by decide +kernel
theorem dX8_costOf_24 : decode cX8_costOf 24 = .ok (.ireturn, 1) := by decide +kernel
set_option maxRecDepth 20000 in
theorem ggX8_allCosts_X8_costOf : GoodIn wsX8_allCosts wsX8_costOf := goodIn_r _ [6, 7, 8, 9, 10, 5, 11, 12, 13, 14, 15, 16, 17, 1, 18, 19, 20, 21, 22, 23, 24, 25, 26, 27, 28, 29, 30, 31, 32, 33, 34, 35, 36, 37, 38, 39, 40, 41, 42, 43, 44, 45, 46, 47, 48, 49, 50, 51, 52, 53, 54, 55, 56, 57, 58, 59, 60, 61, 62, 63] (by decide +kernel) (by decide +kernel)
set_option maxRecDepth 20000 in
theorem gX8_allCosts_X8_costOf : GoodIn wsX8_allCosts (wsV RX8 102 RX8 yX8_costOf wsX8_costOf) := goodIn_app (goodIn_of _ (by decide +kernel)) ggX8_allCosts_X8_costOf
theorem dX8_allCosts_0 : decode cX8_allCosts 0 = .ok (.iconst 0, 1) := by decide +kernel
theorem dX8_allCosts_1 : decode cX8_allCosts 1 = .ok (.istore_n 1, 1) := by decide +kernel
theorem dX8_allCosts_2 : decode cX8_allCosts 2 = .ok (.iconst 0, 1) := by decide +kernel
theorem dX8_allCosts_3 : decode cX8_allCosts 3 = .ok (.istore_n 2, 1) := by decide +kernel
theorem dX8_allCosts_4 : decode cX8_allCosts 4 = .ok (.iload_n 2, 1) := by decide +kernel
theorem dX8_allCosts_5 : decode cX8_allCosts 5 = .ok (.aload_n 0, 1) := by decide +kernel
theorem dX8_allCosts_6 : decode cX8_allCosts 6 = .ok (.getfield 7, 3) := by decide +kernel
theorem dX8_allCosts_9 : decode cX8_allCosts 9 = .ok (.iconst 1, 1) := by decide +kernel
theorem dX8_allCosts_10 : decode cX8_allCosts 10 = .ok (.iaload, 1) := by decide +kernel
theorem dX8_allCosts_11 : decode cX8_allCosts 11 = .ok (.if_icmp .ge 17, 3) := by decide +kernel
theorem dX8_allCosts_14 : decode cX8_allCosts 14 = .ok (.iload_n 1, 1) := by decide +kernel
theorem dX8_allCosts_15 : decode cX8_allCosts 15 = .ok (.aload_n 0, 1) := by decide +kernel
theorem dX8_allCosts_16 : decode cX8_allCosts 16 = .ok (.iload_n 2, 1) := by decide +kernel
theorem dX8_allCosts_17 : decode cX8_allCosts 17 = .ok (.invokevirtual 102, 3) := by decide +kernel
theorem dX8_allCosts_20 : decode cX8_allCosts 20 = .ok (.iadd, 1) := by decide +kernel
theorem dX8_allCosts_21 : decode cX8_allCosts 21 = .ok (.istore_n 1, 1) := by decide +kernel
theorem dX8_allCosts_22 : decode cX8_allCosts 22 = .ok (.iinc 2 1, 3) := by decide +kernel
theorem dX8_allCosts_25 : decode cX8_allCosts 25 = .ok (.goto (-21), 3) := by decide +kernel
theorem dX8_allCosts_28 : decode cX8_allCosts 28 = .ok (.iload_n 1, 1) := by decide +kernel
theorem dX8_allCosts_29 : decode cX8_allCosts 29 = .ok (.ireturn, 1) := by decide +kernel
set_option maxRecDepth 20000 in
theorem ggX8_findTotals_X8_wordPart : GoodIn wsX8_findTotals wsX8_wordPart := goodIn_r _ [7, 8, 33, 34, 35, 36, 37, 38, 39, 40, 41, 42, 43, 44, 45, 46, 47, 48, 49, 50] (by decide +kernel) (by decide +kernel)
set_option maxRecDepth 20000 in
theorem gX8_findTotals_X8_wordPart : GoodIn wsX8_findTotals (wsV RX8 72 RX8 yX8_wordPart wsX8_wordPart) := goodIn_app (goodIn_of _ (by decide +kernel)) ggX8_findTotals_X8_wordPart
set_option maxRecDepth 20000 in
theorem ggX8_findTotals_X8_longestAt : GoodIn wsX8_findTotals wsX8_longestAt := goodIn_r _ [12, 3, 4, 5, 6, 7, 8, 33, 34, 35, 36, 37, 38, 39, 40, 41, 42, 43, 44, 45, 46, 47, 48, 49, 50] (by decide +kernel) (by decide +kernel)
set_option maxRecDepth 20000 in
theorem gX8_findTotals_X8_longestAt : GoodIn wsX8_findTotals (wsV RX8 89 RX8 yX8_longestAt wsX8_longestAt) := goodIn_app (goodIn_of _ (by decide +kernel)) ggX8_findTotals_X8_longestAt
set_option maxRecDepth 20000 in
theorem ggX8_findTotals_X8_weightIn : GoodIn wsX8_findTotals wsX8_weightIn := goodIn_r _ [16, 17, 18, 19, 6, 20, 3, 4, 5, 7, 8, 21, 22, 23, 24, 25, 26, 27, 28, 29, 30, 31, 32, 33, 34, 35, 36, 37, 38, 39, 40, 41, 42, 43, 44, 45, 46, 47, 48, 49, 50] (by decide +kernel) (by decide +kernel)
set_option maxRecDepth 20000 in
theorem gX8_findTotals_X8_weightIn : GoodIn wsX8_findTotals (wsV RX8 92 RX8 yX8_weightIn wsX8_weightIn) := goodIn_app (goodIn_of _ (by decide +kernel)) ggX8_findTotals_X8_weightIn
theorem dX8_findTotals_0 : decode cX8_findTotals 0 = .ok (.aload_n 0, 1) := by decide +kernel
theorem dX8_findTotals_1 : decode cX8_findTotals 1 = .ok (.iload_n 1, 1) := by decide +kernel
theorem dX8_findTotals_2 : decode cX8_findTotals 2 = .ok (.iconst 0, 1) := by decide +kernel
theorem dX8_findTotals_3 : decode cX8_findTotals 3 = .ok (.invokevirtual 72, 3) := by decide +kernel
theorem dX8_findTotals_6 : decode cX8_findTotals 6 = .ok (.istore_n 2, 1) := by decide +kernel
theorem dX8_findTotals_7 : decode cX8_findTotals 7 = .ok (.iconst 0, 1) := by decide +kernel
theorem dX8_findTotals_8 : decode cX8_findTotals 8 = .ok (.istore_n 3, 1) := by decide +kernel
theorem dX8_findTotals_9 : decode cX8_findTotals 9 = .ok (.iload_n 3, 1) := by decide +kernel
theorem dX8_findTotals_10 : decode cX8_findTotals 10 = .ok (.iload_n 2, 1) := by decide +kernel
theorem dX8_findTotals_11 : decode cX8_findTotals 11 = .ok (.if_icmp .gt 40, 3) := by decide +kernel
theorem dX8_findTotals_14 : decode cX8_findTotals 14 = .ok (.aload_n 0, 1) := by decide +kernel
theorem dX8_findTotals_15 : decode cX8_findTotals 15 = .ok (.getfield 38, 3) := by decide +kernel
theorem dX8_findTotals_18 : decode cX8_findTotals 18 = .ok (.iload_n 3, 1) := by decide +kernel
theorem dX8_findTotals_19 : decode cX8_findTotals 19 = .ok (.iload_n 3, 1) := by decide +kernel
theorem dX8_findTotals_20 : decode cX8_findTotals 20 = .ok (.ifCond .ne 7, 3) := by decide +kernel
theorem dX8_findTotals_23 : decode cX8_findTotals 23 = .ok (.lconst 1, 1) := by decide +kernel
theorem dX8_findTotals_24 : decode cX8_findTotals 24 = .ok (.goto 4, 3) := by decide +kernel
theorem dX8_findTotals_27 : decode cX8_findTotals 27 = .ok (.lconst 0, 1) := by decide +kernel
theorem dX8_findTotals_28 : decode cX8_findTotals 28 = .ok (.lastore, 1) := by decide +kernel
theorem dX8_findTotals_29 : decode cX8_findTotals 29 = .ok (.aload_n 0, 1) := by decide +kernel
theorem dX8_findTotals_30 : decode cX8_findTotals 30 = .ok (.getfield 41, 3) := by decide +kernel
theorem dX8_findTotals_33 : decode cX8_findTotals 33 = .ok (.iload_n 3, 1) := by decide +kernel
theorem dX8_findTotals_34 : decode cX8_findTotals 34 = .ok (.iload_n 3, 1) := by decide +kernel
theorem dX8_findTotals_35 : decode cX8_findTotals 35 = .ok (.iload_n 2, 1) := by decide +kernel
theorem dX8_findTotals_36 : decode cX8_findTotals 36 = .ok (.if_icmp .ne 7, 3) := by decide +kernel
theorem dX8_findTotals_39 : decode cX8_findTotals 39 = .ok (.lconst 1, 1) := by decide +kernel
theorem dX8_findTotals_40 : decode cX8_findTotals 40 = .ok (.goto 4, 3) := by decide +kernel
theorem dX8_findTotals_43 : decode cX8_findTotals 43 = .ok (.lconst 0, 1) := by decide +kernel
theorem dX8_findTotals_44 : decode cX8_findTotals 44 = .ok (.lastore, 1) := by decide +kernel
theorem dX8_findTotals_45 : decode cX8_findTotals 45 = .ok (.iinc 3 1, 3) := by decide +kernel
theorem dX8_findTotals_48 : decode cX8_findTotals 48 = .ok (.goto (-39), 3) := by decide +kernel
theorem dX8_findTotals_51 : decode cX8_findTotals 51 = .ok (.iconst 0, 1) := by decide +kernel
theorem dX8_findTotals_52 : decode cX8_findTotals 52 = .ok (.istore_n 3, 1) := by decide +kernel
theorem dX8_findTotals_53 : decode cX8_findTotals 53 = .ok (.iload_n 3, 1) := by decide +kernel
theorem dX8_findTotals_54 : decode cX8_findTotals 54 = .ok (.iload_n 2, 1) := by decide +kernel
theorem dX8_findTotals_55 : decode cX8_findTotals 55 = .ok (.if_icmp .ge 57, 3) := by decide +kernel
theorem dX8_findTotals_58 : decode cX8_findTotals 58 = .ok (.iconst 1, 1) := by decide +kernel
theorem dX8_findTotals_59 : decode cX8_findTotals 59 = .ok (.istore 4, 2) := by decide +kernel
theorem dX8_findTotals_61 : decode cX8_findTotals 61 = .ok (.iload 4, 2) := by decide +kernel
theorem dX8_findTotals_63 : decode cX8_findTotals 63 = .ok (.aload_n 0, 1) := by decide +kernel
theorem dX8_findTotals_64 : decode cX8_findTotals 64 = .ok (.iload_n 1, 1) := by decide +kernel
theorem dX8_findTotals_65 : decode cX8_findTotals 65 = .ok (.iload_n 3, 1) := by decide +kernel
theorem dX8_findTotals_66 : decode cX8_findTotals 66 = .ok (.invokevirtual 89, 3) := by decide +kernel
theorem dX8_findTotals_69 : decode cX8_findTotals 69 = .ok (.if_icmp .gt 37, 3) := by decide +kernel
theorem dX8_findTotals_72 : decode cX8_findTotals 72 = .ok (.aload_n 0, 1) := by decide +kernel
theorem dX8_findTotals_73 : decode cX8_findTotals 73 = .ok (.getfield 38, 3) := by decide +kernel
theorem dX8_findTotals_76 : decode cX8_findTotals 76 = .ok (.iload_n 3, 1) := by decide +kernel
theorem dX8_findTotals_77 : decode cX8_findTotals 77 = .ok (.iload 4, 2) := by decide +kernel
theorem dX8_findTotals_79 : decode cX8_findTotals 79 = .ok (.iadd, 1) := by decide +kernel
theorem dX8_findTotals_80 : decode cX8_findTotals 80 = .ok (.dup2, 1) := by decide +kernel
theorem dX8_findTotals_81 : decode cX8_findTotals 81 = .ok (.laload, 1) := by decide +kernel
theorem dX8_findTotals_82 : decode cX8_findTotals 82 = .ok (.aload_n 0, 1) := by decide +kernel
theorem dX8_findTotals_83 : decode cX8_findTotals 83 = .ok (.iload_n 1, 1) := by decide +kernel
theorem dX8_findTotals_84 : decode cX8_findTotals 84 = .ok (.iload_n 3, 1) := by decide +kernel
theorem dX8_findTotals_85 : decode cX8_findTotals 85 = .ok (.iload 4, 2) := by decide +kernel
theorem dX8_findTotals_87 : decode cX8_findTotals 87 = .ok (.invokevirtual 92, 3) := by decide +kernel
theorem dX8_findTotals_90 : decode cX8_findTotals 90 = .ok (.i2l, 1) := by decide +kernel
theorem dX8_findTotals_91 : decode cX8_findTotals 91 = .ok (.aload_n 0, 1) := by decide +kernel
theorem dX8_findTotals_92 : decode cX8_findTotals 92 = .ok (.getfield 38, 3) := by decide +kernel
theorem dX8_findTotals_95 : decode cX8_findTotals 95 = .ok (.iload_n 3, 1) := by decide +kernel
theorem dX8_findTotals_96 : decode cX8_findTotals 96 = .ok (.laload, 1) := by decide +kernel
theorem dX8_findTotals_97 : decode cX8_findTotals 97 = .ok (.lmul, 1) := by decide +kernel
theorem dX8_findTotals_98 : decode cX8_findTotals 98 = .ok (.ladd, 1) := by decide +kernel
theorem dX8_findTotals_99 : decode cX8_findTotals 99 = .ok (.lastore, 1) := by decide +kernel
theorem dX8_findTotals_100 : decode cX8_findTotals 100 = .ok (.iinc 4 1, 3) := by decide +kernel
theorem dX8_findTotals_103 : decode cX8_findTotals 103 = .ok (.goto (-42), 3) := by decide +kernel
theorem dX8_findTotals_106 : decode cX8_findTotals 106 = .ok (.iinc 3 1, 3) := by decide +kernel
theorem dX8_findTotals_109 : decode cX8_findTotals 109 = .ok (.goto (-56), 3) := by decide +kernel
theorem dX8_findTotals_112 : decode cX8_findTotals 112 = .ok (.iload_n 2, 1) := by decide +kernel
theorem dX8_findTotals_113 : decode cX8_findTotals 113 = .ok (.iconst 1, 1) := by decide +kernel
theorem dX8_findTotals_114 : decode cX8_findTotals 114 = .ok (.isub, 1) := by decide +kernel
theorem dX8_findTotals_115 : decode cX8_findTotals 115 = .ok (.istore_n 3, 1) := by decide +kernel
theorem dX8_findTotals_116 : decode cX8_findTotals 116 = .ok (.iload_n 3, 1) := by decide +kernel
theorem dX8_findTotals_117 : decode cX8_findTotals 117 = .ok (.ifCond .lt 57, 3) := by decide +kernel
theorem dX8_findTotals_120 : decode cX8_findTotals 120 = .ok (.iconst 1, 1) := by decide +kernel
theorem dX8_findTotals_121 : decode cX8_findTotals 121 = .ok (.istore 4, 2) := by decide +kernel
theorem dX8_findTotals_123 : decode cX8_findTotals 123 = .ok (.iload 4, 2) := by decide +kernel
theorem dX8_findTotals_125 : decode cX8_findTotals 125 = .ok (.aload_n 0, 1) := by decide +kernel
theorem dX8_findTotals_126 : decode cX8_findTotals 126 = .ok (.iload_n 1, 1) := by decide +kernel
theorem dX8_findTotals_127 : decode cX8_findTotals 127 = .ok (.iload_n 3, 1) := by decide +kernel
theorem dX8_findTotals_128 : decode cX8_findTotals 128 = .ok (.invokevirtual 89, 3) := by decide +kernel
theorem dX8_findTotals_131 : decode cX8_findTotals 131 = .ok (.if_icmp .gt 37, 3) := by decide +kernel
theorem dX8_findTotals_134 : decode cX8_findTotals 134 = .ok (.aload_n 0, 1) := by decide +kernel
theorem dX8_findTotals_135 : decode cX8_findTotals 135 = .ok (.getfield 41, 3) := by decide +kernel
theorem dX8_findTotals_138 : decode cX8_findTotals 138 = .ok (.iload_n 3, 1) := by decide +kernel
theorem dX8_findTotals_139 : decode cX8_findTotals 139 = .ok (.dup2, 1) := by decide +kernel
theorem dX8_findTotals_140 : decode cX8_findTotals 140 = .ok (.laload, 1) := by decide +kernel
theorem dX8_findTotals_141 : decode cX8_findTotals 141 = .ok (.aload_n 0, 1) := by decide +kernel
theorem dX8_findTotals_142 : decode cX8_findTotals 142 = .ok (.iload_n 1, 1) := by decide +kernel
theorem dX8_findTotals_143 : decode cX8_findTotals 143 = .ok (.iload_n 3, 1) := by decide +kernel
theorem dX8_findTotals_144 : decode cX8_findTotals 144 = .ok (.iload 4, 2) := by decide +kernel
theorem dX8_findTotals_146 : decode cX8_findTotals 146 = .ok (.invokevirtual 92, 3) := by decide +kernel
theorem dX8_findTotals_149 : decode cX8_findTotals 149 = .ok (.i2l, 1) := by decide +kernel
theorem dX8_findTotals_150 : decode cX8_findTotals 150 = .ok (.aload_n 0, 1) := by decide +kernel
theorem dX8_findTotals_151 : decode cX8_findTotals 151 = .ok (.getfield 41, 3) := by decide +kernel
theorem dX8_findTotals_154 : decode cX8_findTotals 154 = .ok (.iload_n 3, 1) := by decide +kernel
theorem dX8_findTotals_155 : decode cX8_findTotals 155 = .ok (.iload 4, 2) := by decide +kernel
theorem dX8_findTotals_157 : decode cX8_findTotals 157 = .ok (.iadd, 1) := by decide +kernel
theorem dX8_findTotals_158 : decode cX8_findTotals 158 = .ok (.laload, 1) := by decide +kernel
theorem dX8_findTotals_159 : decode cX8_findTotals 159 = .ok (.lmul, 1) := by decide +kernel
theorem dX8_findTotals_160 : decode cX8_findTotals 160 = .ok (.ladd, 1) := by decide +kernel
theorem dX8_findTotals_161 : decode cX8_findTotals 161 = .ok (.lastore, 1) := by decide +kernel
theorem dX8_findTotals_162 : decode cX8_findTotals 162 = .ok (.iinc 4 1, 3) := by decide +kernel
theorem dX8_findTotals_165 : decode cX8_findTotals 165 = .ok (.goto (-42), 3) := by decide +kernel
theorem dX8_findTotals_168 : decode cX8_findTotals 168 = .ok (.iinc 3 (-1), 3) := by decide +kernel
theorem dX8_findTotals_171 : decode cX8_findTotals 171 = .ok (.goto (-55), 3) := by decide +kernel
theorem dX8_findTotals_174 : decode cX8_findTotals 174 = .ok (.return_, 1) := by decide +kernel
set_option maxRecDepth 20000 in
theorem ggX8_shareIn_X8_piecePart : GoodIn wsX8_shareIn wsX8_piecePart := goodIn_r _ [8, 9, 22, 23, 24, 25, 26, 27, 28, 29, 30, 31, 32, 33, 34, 35, 36, 37, 38, 39] (by decide +kernel) (by decide +kernel)
set_option maxRecDepth 20000 in
theorem gX8_shareIn_X8_piecePart : GoodIn wsX8_shareIn (wsV RX8 68 RX8 yX8_piecePart wsX8_piecePart) := goodIn_app (goodIn_of _ (by decide +kernel)) ggX8_shareIn_X8_piecePart
set_option maxRecDepth 20000 in
theorem ggX8_shareIn_X8_textOf : GoodIn wsX8_shareIn wsX8_textOf := goodIn_r _ [13, 4, 5, 6, 7, 8, 9, 22, 23, 24, 25, 26, 27, 28, 29, 30, 31, 32, 33, 34, 35, 36, 37, 38, 39] (by decide +kernel) (by decide +kernel)
set_option maxRecDepth 20000 in
theorem gX8_shareIn_X8_textOf : GoodIn wsX8_shareIn (wsV RX8 79 RX8 yX8_textOf wsX8_textOf) := goodIn_app (goodIn_of _ (by decide +kernel)) ggX8_shareIn_X8_textOf
set_option maxRecDepth 20000 in
theorem ggX8_shareIn_X8_wordPart : GoodIn wsX8_shareIn wsX8_wordPart := goodIn_r _ [17, 9, 22, 23, 24, 25, 26, 27, 28, 29, 30, 31, 32, 33, 34, 35, 36, 37, 38, 39] (by decide +kernel) (by decide +kernel)
set_option maxRecDepth 20000 in
theorem gX8_shareIn_X8_wordPart : GoodIn wsX8_shareIn (wsV RX8 72 RX8 yX8_wordPart wsX8_wordPart) := goodIn_app (goodIn_of _ (by decide +kernel)) ggX8_shareIn_X8_wordPart
set_option maxRecDepth 20000 in
theorem ggX8_shareIn_X8_textIn : GoodIn wsX8_shareIn wsX8_textIn := goodIn_r _ [21, 14, 15, 16, 7, 17, 9, 22, 23, 24, 25, 26, 27, 28, 29, 30, 31, 32, 33, 34, 35, 36, 37, 38, 39] (by decide +kernel) (by decide +kernel)
set_option maxRecDepth 20000 in
theorem gX8_shareIn_X8_textIn : GoodIn wsX8_shareIn (wsV RX8 82 RX8 yX8_textIn wsX8_textIn) := goodIn_app (goodIn_of _ (by decide +kernel)) ggX8_shareIn_X8_textIn
theorem dX8_shareIn_0 : decode cX8_shareIn 0 = .ok (.aload_n 0, 1) := by decide +kernel
theorem dX8_shareIn_1 : decode cX8_shareIn 1 = .ok (.iload_n 2, 1) := by decide +kernel
theorem dX8_shareIn_2 : decode cX8_shareIn 2 = .ok (.iconst 0, 1) := by decide +kernel
theorem dX8_shareIn_3 : decode cX8_shareIn 3 = .ok (.invokevirtual 68, 3) := by decide +kernel
theorem dX8_shareIn_6 : decode cX8_shareIn 6 = .ok (.istore_n 3, 1) := by decide +kernel
theorem dX8_shareIn_7 : decode cX8_shareIn 7 = .ok (.aload_n 0, 1) := by decide +kernel
theorem dX8_shareIn_8 : decode cX8_shareIn 8 = .ok (.iload_n 2, 1) := by decide +kernel
theorem dX8_shareIn_9 : decode cX8_shareIn 9 = .ok (.invokevirtual 79, 3) := by decide +kernel
theorem dX8_shareIn_12 : decode cX8_shareIn 12 = .ok (.istore 4, 2) := by decide +kernel
theorem dX8_shareIn_14 : decode cX8_shareIn 14 = .ok (.lconst 0, 1) := by decide +kernel
theorem dX8_shareIn_15 : decode cX8_shareIn 15 = .ok (.lstore 5, 2) := by decide +kernel
theorem dX8_shareIn_17 : decode cX8_shareIn 17 = .ok (.iconst 0, 1) := by decide +kernel
theorem dX8_shareIn_18 : decode cX8_shareIn 18 = .ok (.istore 7, 2) := by decide +kernel
theorem dX8_shareIn_20 : decode cX8_shareIn 20 = .ok (.iload 7, 2) := by decide +kernel
theorem dX8_shareIn_22 : decode cX8_shareIn 22 = .ok (.iload_n 3, 1) := by decide +kernel
theorem dX8_shareIn_23 : decode cX8_shareIn 23 = .ok (.iadd, 1) := by decide +kernel
theorem dX8_shareIn_24 : decode cX8_shareIn 24 = .ok (.aload_n 0, 1) := by decide +kernel
theorem dX8_shareIn_25 : decode cX8_shareIn 25 = .ok (.iload_n 1, 1) := by decide +kernel
theorem dX8_shareIn_26 : decode cX8_shareIn 26 = .ok (.iconst 0, 1) := by decide +kernel
theorem dX8_shareIn_27 : decode cX8_shareIn 27 = .ok (.invokevirtual 72, 3) := by decide +kernel
theorem dX8_shareIn_30 : decode cX8_shareIn 30 = .ok (.if_icmp .gt 56, 3) := by decide +kernel
theorem dX8_shareIn_33 : decode cX8_shareIn 33 = .ok (.lload 5, 2) := by decide +kernel
theorem dX8_shareIn_35 : decode cX8_shareIn 35 = .ok (.aload_n 0, 1) := by decide +kernel
theorem dX8_shareIn_36 : decode cX8_shareIn 36 = .ok (.iload_n 1, 1) := by decide +kernel
theorem dX8_shareIn_37 : decode cX8_shareIn 37 = .ok (.iload 7, 2) := by decide +kernel
theorem dX8_shareIn_39 : decode cX8_shareIn 39 = .ok (.iload_n 3, 1) := by decide +kernel
theorem dX8_shareIn_40 : decode cX8_shareIn 40 = .ok (.invokevirtual 82, 3) := by decide +kernel
theorem dX8_shareIn_43 : decode cX8_shareIn 43 = .ok (.iload 4, 2) := by decide +kernel
theorem dX8_shareIn_45 : decode cX8_shareIn 45 = .ok (.if_icmp .ne 31, 3) := by decide +kernel
theorem dX8_shareIn_48 : decode cX8_shareIn 48 = .ok (.aload_n 0, 1) := by decide +kernel
theorem dX8_shareIn_49 : decode cX8_shareIn 49 = .ok (.getfield 38, 3) := by decide +kernel
theorem dX8_shareIn_52 : decode cX8_shareIn 52 = .ok (.iload 7, 2) := by decide +kernel
theorem dX8_shareIn_54 : decode cX8_shareIn 54 = .ok (.laload, 1) := by decide +kernel
theorem dX8_shareIn_55 : decode cX8_shareIn 55 = .ok (.aload_n 0, 1) := by decide +kernel
theorem dX8_shareIn_56 : decode cX8_shareIn 56 = .ok (.iload_n 2, 1) := by decide +kernel
theorem dX8_shareIn_57 : decode cX8_shareIn 57 = .ok (.iconst 1, 1) := by decide +kernel
theorem dX8_shareIn_58 : decode cX8_shareIn 58 = .ok (.invokevirtual 68, 3) := by decide +kernel
theorem dX8_shareIn_61 : decode cX8_shareIn 61 = .ok (.i2l, 1) := by decide +kernel
theorem dX8_shareIn_62 : decode cX8_shareIn 62 = .ok (.lmul, 1) := by decide +kernel
theorem dX8_shareIn_63 : decode cX8_shareIn 63 = .ok (.aload_n 0, 1) := by decide +kernel
theorem dX8_shareIn_64 : decode cX8_shareIn 64 = .ok (.getfield 41, 3) := by decide +kernel
theorem dX8_shareIn_67 : decode cX8_shareIn 67 = .ok (.iload 7, 2) := by decide +kernel
theorem dX8_shareIn_69 : decode cX8_shareIn 69 = .ok (.iload_n 3, 1) := by decide +kernel
theorem dX8_shareIn_70 : decode cX8_shareIn 70 = .ok (.iadd, 1) := by decide +kernel
theorem dX8_shareIn_71 : decode cX8_shareIn 71 = .ok (.laload, 1) := by decide +kernel
theorem dX8_shareIn_72 : decode cX8_shareIn 72 = .ok (.lmul, 1) := by decide +kernel
theorem dX8_shareIn_73 : decode cX8_shareIn 73 = .ok (.goto 4, 3) := by decide +kernel
theorem dX8_shareIn_76 : decode cX8_shareIn 76 = .ok (.lconst 0, 1) := by decide +kernel
theorem dX8_shareIn_77 : decode cX8_shareIn 77 = .ok (.ladd, 1) := by decide +kernel
theorem dX8_shareIn_78 : decode cX8_shareIn 78 = .ok (.lstore 5, 2) := by decide +kernel
theorem dX8_shareIn_80 : decode cX8_shareIn 80 = .ok (.iinc 7 1, 3) := by decide +kernel
theorem dX8_shareIn_83 : decode cX8_shareIn 83 = .ok (.goto (-63), 3) := by decide +kernel
theorem dX8_shareIn_86 : decode cX8_shareIn 86 = .ok (.ldc2_w 105, 3) := by decide +kernel
theorem dX8_shareIn_89 : decode cX8_shareIn 89 = .ok (.lload 5, 2) := by decide +kernel
theorem dX8_shareIn_91 : decode cX8_shareIn 91 = .ok (.lmul, 1) := by decide +kernel
theorem dX8_shareIn_92 : decode cX8_shareIn 92 = .ok (.aload_n 0, 1) := by decide +kernel
theorem dX8_shareIn_93 : decode cX8_shareIn 93 = .ok (.getfield 41, 3) := by decide +kernel
theorem dX8_shareIn_96 : decode cX8_shareIn 96 = .ok (.iconst 0, 1) := by decide +kernel
theorem dX8_shareIn_97 : decode cX8_shareIn 97 = .ok (.laload, 1) := by decide +kernel
theorem dX8_shareIn_98 : decode cX8_shareIn 98 = .ok (.ldiv, 1) := by decide +kernel
theorem dX8_shareIn_99 : decode cX8_shareIn 99 = .ok (.l2i, 1) := by decide +kernel
theorem dX8_shareIn_100 : decode cX8_shareIn 100 = .ok (.ireturn, 1) := by decide +kernel
set_option maxRecDepth 20000 in
theorem ggX8_cutsOf_X8_wordPart : GoodIn wsX8_cutsOf wsX8_wordPart := goodIn_r _ [6, 7, 32, 33, 34, 35, 36, 37, 38, 39, 40, 41, 42, 43, 44, 45, 46, 47, 48, 49] (by decide +kernel) (by decide +kernel)
set_option maxRecDepth 20000 in
theorem gX8_cutsOf_X8_wordPart : GoodIn wsX8_cutsOf (wsV RX8 72 RX8 yX8_wordPart wsX8_wordPart) := goodIn_app (goodIn_of _ (by decide +kernel)) ggX8_cutsOf_X8_wordPart
set_option maxRecDepth 20000 in
theorem ggX8_cutsOf_X8_longestAt : GoodIn wsX8_cutsOf wsX8_longestAt := goodIn_r _ [11, 2, 3, 4, 5, 6, 7, 32, 33, 34, 35, 36, 37, 38, 39, 40, 41, 42, 43, 44, 45, 46, 47, 48, 49] (by decide +kernel) (by decide +kernel)
set_option maxRecDepth 20000 in
theorem gX8_cutsOf_X8_longestAt : GoodIn wsX8_cutsOf (wsV RX8 89 RX8 yX8_longestAt wsX8_longestAt) := goodIn_app (goodIn_of _ (by decide +kernel)) ggX8_cutsOf_X8_longestAt
set_option maxRecDepth 20000 in
theorem ggX8_cutsOf_X8_weightIn : GoodIn wsX8_cutsOf wsX8_weightIn := goodIn_r _ [15, 16, 17, 18, 5, 19, 2, 3, 4, 6, 7, 20, 21, 22, 23, 24, 25, 26, 27, 28, 29, 30, 31, 32, 33, 34, 35, 36, 37, 38, 39, 40, 41, 42, 43, 44, 45, 46, 47, 48, 49] (by decide +kernel) (by decide +kernel)
set_option maxRecDepth 20000 in
theorem gX8_cutsOf_X8_weightIn : GoodIn wsX8_cutsOf (wsV RX8 92 RX8 yX8_weightIn wsX8_weightIn) := goodIn_app (goodIn_of _ (by decide +kernel)) ggX8_cutsOf_X8_weightIn
theorem dX8_cutsOf_0 : decode cX8_cutsOf 0 = .ok (.aload_n 0, 1) := by decide +kernel
theorem dX8_cutsOf_1 : decode cX8_cutsOf 1 = .ok (.iload_n 1, 1) := by decide +kernel
theorem dX8_cutsOf_2 : decode cX8_cutsOf 2 = .ok (.iconst 0, 1) := by decide +kernel
theorem dX8_cutsOf_3 : decode cX8_cutsOf 3 = .ok (.invokevirtual 72, 3) := by decide +kernel
theorem dX8_cutsOf_6 : decode cX8_cutsOf 6 = .ok (.istore_n 2, 1) := by decide +kernel
theorem dX8_cutsOf_7 : decode cX8_cutsOf 7 = .ok (.iconst 0, 1) := by decide +kernel
theorem dX8_cutsOf_8 : decode cX8_cutsOf 8 = .ok (.istore_n 3, 1) := by decide +kernel
theorem dX8_cutsOf_9 : decode cX8_cutsOf 9 = .ok (.iload_n 3, 1) := by decide +kernel
theorem dX8_cutsOf_10 : decode cX8_cutsOf 10 = .ok (.iload_n 2, 1) := by decide +kernel
theorem dX8_cutsOf_11 : decode cX8_cutsOf 11 = .ok (.if_icmp .gt 25, 3) := by decide +kernel
theorem dX8_cutsOf_14 : decode cX8_cutsOf 14 = .ok (.aload_n 0, 1) := by decide +kernel
theorem dX8_cutsOf_15 : decode cX8_cutsOf 15 = .ok (.getfield 41, 3) := by decide +kernel
theorem dX8_cutsOf_18 : decode cX8_cutsOf 18 = .ok (.iload_n 3, 1) := by decide +kernel
theorem dX8_cutsOf_19 : decode cX8_cutsOf 19 = .ok (.iload_n 3, 1) := by decide +kernel
theorem dX8_cutsOf_20 : decode cX8_cutsOf 20 = .ok (.iload_n 2, 1) := by decide +kernel
theorem dX8_cutsOf_21 : decode cX8_cutsOf 21 = .ok (.if_icmp .ne 7, 3) := by decide +kernel
theorem dX8_cutsOf_24 : decode cX8_cutsOf 24 = .ok (.lconst 1, 1) := by decide +kernel
theorem dX8_cutsOf_25 : decode cX8_cutsOf 25 = .ok (.goto 4, 3) := by decide +kernel
theorem dX8_cutsOf_28 : decode cX8_cutsOf 28 = .ok (.lconst 0, 1) := by decide +kernel
theorem dX8_cutsOf_29 : decode cX8_cutsOf 29 = .ok (.lastore, 1) := by decide +kernel
theorem dX8_cutsOf_30 : decode cX8_cutsOf 30 = .ok (.iinc 3 1, 3) := by decide +kernel
theorem dX8_cutsOf_33 : decode cX8_cutsOf 33 = .ok (.goto (-24), 3) := by decide +kernel
theorem dX8_cutsOf_36 : decode cX8_cutsOf 36 = .ok (.iload_n 2, 1) := by decide +kernel
theorem dX8_cutsOf_37 : decode cX8_cutsOf 37 = .ok (.iconst 1, 1) := by decide +kernel
theorem dX8_cutsOf_38 : decode cX8_cutsOf 38 = .ok (.isub, 1) := by decide +kernel
theorem dX8_cutsOf_39 : decode cX8_cutsOf 39 = .ok (.istore_n 3, 1) := by decide +kernel
theorem dX8_cutsOf_40 : decode cX8_cutsOf 40 = .ok (.iload_n 3, 1) := by decide +kernel
theorem dX8_cutsOf_41 : decode cX8_cutsOf 41 = .ok (.ifCond .lt 62, 3) := by decide +kernel
theorem dX8_cutsOf_44 : decode cX8_cutsOf 44 = .ok (.iconst 1, 1) := by decide +kernel
theorem dX8_cutsOf_45 : decode cX8_cutsOf 45 = .ok (.istore 4, 2) := by decide +kernel
theorem dX8_cutsOf_47 : decode cX8_cutsOf 47 = .ok (.iload 4, 2) := by decide +kernel
theorem dX8_cutsOf_49 : decode cX8_cutsOf 49 = .ok (.aload_n 0, 1) := by decide +kernel
theorem dX8_cutsOf_50 : decode cX8_cutsOf 50 = .ok (.iload_n 1, 1) := by decide +kernel
theorem dX8_cutsOf_51 : decode cX8_cutsOf 51 = .ok (.iload_n 3, 1) := by decide +kernel
theorem dX8_cutsOf_52 : decode cX8_cutsOf 52 = .ok (.invokevirtual 89, 3) := by decide +kernel
theorem dX8_cutsOf_55 : decode cX8_cutsOf 55 = .ok (.if_icmp .gt 42, 3) := by decide +kernel
theorem dX8_cutsOf_58 : decode cX8_cutsOf 58 = .ok (.aload_n 0, 1) := by decide +kernel
theorem dX8_cutsOf_59 : decode cX8_cutsOf 59 = .ok (.getfield 41, 3) := by decide +kernel
theorem dX8_cutsOf_62 : decode cX8_cutsOf 62 = .ok (.iload_n 3, 1) := by decide +kernel
theorem dX8_cutsOf_63 : decode cX8_cutsOf 63 = .ok (.dup2, 1) := by decide +kernel
theorem dX8_cutsOf_64 : decode cX8_cutsOf 64 = .ok (.laload, 1) := by decide +kernel
theorem dX8_cutsOf_65 : decode cX8_cutsOf 65 = .ok (.aload_n 0, 1) := by decide +kernel
theorem dX8_cutsOf_66 : decode cX8_cutsOf 66 = .ok (.iload_n 1, 1) := by decide +kernel
theorem dX8_cutsOf_67 : decode cX8_cutsOf 67 = .ok (.iload_n 3, 1) := by decide +kernel
theorem dX8_cutsOf_68 : decode cX8_cutsOf 68 = .ok (.iload 4, 2) := by decide +kernel
theorem dX8_cutsOf_70 : decode cX8_cutsOf 70 = .ok (.invokevirtual 92, 3) := by decide +kernel
theorem dX8_cutsOf_73 : decode cX8_cutsOf 73 = .ok (.ifCond .le 15, 3) := by decide +kernel
theorem dX8_cutsOf_76 : decode cX8_cutsOf 76 = .ok (.aload_n 0, 1) := by decide +kernel
theorem dX8_cutsOf_77 : decode cX8_cutsOf 77 = .ok (.getfield 41, 3) := by decide +kernel
theorem dX8_cutsOf_80 : decode cX8_cutsOf 80 = .ok (.iload_n 3, 1) := by decide +kernel
theorem dX8_cutsOf_81 : decode cX8_cutsOf 81 = .ok (.iload 4, 2) := by decide +kernel
theorem dX8_cutsOf_83 : decode cX8_cutsOf 83 = .ok (.iadd, 1) := by decide +kernel
theorem dX8_cutsOf_84 : decode cX8_cutsOf 84 = .ok (.laload, 1) := by decide +kernel
theorem dX8_cutsOf_85 : decode cX8_cutsOf 85 = .ok (.goto 4, 3) := by decide +kernel
theorem dX8_cutsOf_88 : decode cX8_cutsOf 88 = .ok (.lconst 0, 1) := by decide +kernel
theorem dX8_cutsOf_89 : decode cX8_cutsOf 89 = .ok (.ladd, 1) := by decide +kernel
theorem dX8_cutsOf_90 : decode cX8_cutsOf 90 = .ok (.lastore, 1) := by decide +kernel
theorem dX8_cutsOf_91 : decode cX8_cutsOf 91 = .ok (.iinc 4 1, 3) := by decide +kernel
theorem dX8_cutsOf_94 : decode cX8_cutsOf 94 = .ok (.goto (-47), 3) := by decide +kernel
theorem dX8_cutsOf_97 : decode cX8_cutsOf 97 = .ok (.iinc 3 (-1), 3) := by decide +kernel
theorem dX8_cutsOf_100 : decode cX8_cutsOf 100 = .ok (.goto (-60), 3) := by decide +kernel
theorem dX8_cutsOf_103 : decode cX8_cutsOf 103 = .ok (.aload_n 0, 1) := by decide +kernel
theorem dX8_cutsOf_104 : decode cX8_cutsOf 104 = .ok (.getfield 41, 3) := by decide +kernel
theorem dX8_cutsOf_107 : decode cX8_cutsOf 107 = .ok (.iconst 0, 1) := by decide +kernel
theorem dX8_cutsOf_108 : decode cX8_cutsOf 108 = .ok (.laload, 1) := by decide +kernel
theorem dX8_cutsOf_109 : decode cX8_cutsOf 109 = .ok (.l2i, 1) := by decide +kernel
theorem dX8_cutsOf_110 : decode cX8_cutsOf 110 = .ok (.ireturn, 1) := by decide +kernel
set_option maxRecDepth 20000 in
theorem ggX8_findBears_X8_findTotals : GoodIn wsX8_findBears wsX8_findTotals := goodIn_r _ [7, 8, 9, 10, 11, 12, 6, 13, 1, 14, 15, 16, 17, 18, 19, 20, 21, 22, 23, 24, 25, 26, 27, 28, 29, 30, 31, 32, 33, 34, 35, 36, 37, 43, 44, 45, 46, 47, 48, 49, 50, 51, 52, 53, 54, 55, 56, 57, 58, 59, 60] (by decide +kernel) (by decide +kernel)
set_option maxRecDepth 20000 in
theorem gX8_findBears_X8_findTotals : GoodIn wsX8_findBears (wsV RX8 107 RX8 yX8_findTotals wsX8_findTotals) := goodIn_app (goodIn_of _ (by decide +kernel)) ggX8_findBears_X8_findTotals
set_option maxRecDepth 20000 in
theorem ggX8_findBears_X8_wordPart : GoodIn wsX8_findBears wsX8_wordPart := goodIn_r _ [13, 1, 43, 44, 45, 46, 47, 48, 49, 50, 51, 52, 53, 54, 55, 56, 57, 58, 59, 60] (by decide +kernel) (by decide +kernel)
set_option maxRecDepth 20000 in
theorem gX8_findBears_X8_wordPart : GoodIn wsX8_findBears (wsV RX8 72 RX8 yX8_wordPart wsX8_wordPart) := goodIn_app (goodIn_of _ (by decide +kernel)) ggX8_findBears_X8_wordPart
set_option maxRecDepth 20000 in
theorem ggX8_findBears_X8_shareIn : GoodIn wsX8_findBears wsX8_shareIn := goodIn_r _ [41, 8, 9, 42, 34, 35, 36, 6, 37, 1, 30, 31, 32, 33, 10, 11, 12, 13, 22, 23, 24, 25, 43, 44, 45, 46, 47, 48, 49, 50, 51, 52, 53, 54, 55, 56, 57, 58, 59, 60] (by decide +kernel) (by decide +kernel)
set_option maxRecDepth 20000 in
theorem gX8_findBears_X8_shareIn : GoodIn wsX8_findBears (wsV RX8 110 RX8 yX8_shareIn wsX8_shareIn) := goodIn_app (goodIn_of _ (by decide +kernel)) ggX8_findBears_X8_shareIn
theorem dX8_findBears_0 : decode cX8_findBears 0 = .ok (.iconst 0, 1) := by decide +kernel
theorem dX8_findBears_1 : decode cX8_findBears 1 = .ok (.istore_n 1, 1) := by decide +kernel
theorem dX8_findBears_2 : decode cX8_findBears 2 = .ok (.iload_n 1, 1) := by decide +kernel
theorem dX8_findBears_3 : decode cX8_findBears 3 = .ok (.aload_n 0, 1) := by decide +kernel
theorem dX8_findBears_4 : decode cX8_findBears 4 = .ok (.getfield 7, 3) := by decide +kernel
theorem dX8_findBears_7 : decode cX8_findBears 7 = .ok (.iconst 0, 1) := by decide +kernel
theorem dX8_findBears_8 : decode cX8_findBears 8 = .ok (.iaload, 1) := by decide +kernel
theorem dX8_findBears_9 : decode cX8_findBears 9 = .ok (.if_icmp .ge 16, 3) := by decide +kernel
theorem dX8_findBears_12 : decode cX8_findBears 12 = .ok (.aload_n 0, 1) := by decide +kernel
theorem dX8_findBears_13 : decode cX8_findBears 13 = .ok (.getfield 53, 3) := by decide +kernel
theorem dX8_findBears_16 : decode cX8_findBears 16 = .ok (.iload_n 1, 1) := by decide +kernel
theorem dX8_findBears_17 : decode cX8_findBears 17 = .ok (.iconst 0, 1) := by decide +kernel
theorem dX8_findBears_18 : decode cX8_findBears 18 = .ok (.iastore, 1) := by decide +kernel
theorem dX8_findBears_19 : decode cX8_findBears 19 = .ok (.iinc 1 1, 3) := by decide +kernel
theorem dX8_findBears_22 : decode cX8_findBears 22 = .ok (.goto (-20), 3) := by decide +kernel
theorem dX8_findBears_25 : decode cX8_findBears 25 = .ok (.iconst 0, 1) := by decide +kernel
theorem dX8_findBears_26 : decode cX8_findBears 26 = .ok (.istore_n 1, 1) := by decide +kernel
theorem dX8_findBears_27 : decode cX8_findBears 27 = .ok (.iload_n 1, 1) := by decide +kernel
theorem dX8_findBears_28 : decode cX8_findBears 28 = .ok (.aload_n 0, 1) := by decide +kernel
theorem dX8_findBears_29 : decode cX8_findBears 29 = .ok (.getfield 7, 3) := by decide +kernel
theorem dX8_findBears_32 : decode cX8_findBears 32 = .ok (.iconst 1, 1) := by decide +kernel
theorem dX8_findBears_33 : decode cX8_findBears 33 = .ok (.iaload, 1) := by decide +kernel
theorem dX8_findBears_34 : decode cX8_findBears 34 = .ok (.if_icmp .ge 54, 3) := by decide +kernel
theorem dX8_findBears_37 : decode cX8_findBears 37 = .ok (.aload_n 0, 1) := by decide +kernel
theorem dX8_findBears_38 : decode cX8_findBears 38 = .ok (.iload_n 1, 1) := by decide +kernel
theorem dX8_findBears_39 : decode cX8_findBears 39 = .ok (.invokevirtual 107, 3) := by decide +kernel
theorem dX8_findBears_42 : decode cX8_findBears 42 = .ok (.iconst 0, 1) := by decide +kernel
theorem dX8_findBears_43 : decode cX8_findBears 43 = .ok (.istore_n 2, 1) := by decide +kernel
theorem dX8_findBears_44 : decode cX8_findBears 44 = .ok (.iload_n 2, 1) := by decide +kernel
theorem dX8_findBears_45 : decode cX8_findBears 45 = .ok (.aload_n 0, 1) := by decide +kernel
theorem dX8_findBears_46 : decode cX8_findBears 46 = .ok (.getfield 7, 3) := by decide +kernel
theorem dX8_findBears_49 : decode cX8_findBears 49 = .ok (.iconst 0, 1) := by decide +kernel
theorem dX8_findBears_50 : decode cX8_findBears 50 = .ok (.iaload, 1) := by decide +kernel
theorem dX8_findBears_51 : decode cX8_findBears 51 = .ok (.if_icmp .ge 31, 3) := by decide +kernel
theorem dX8_findBears_54 : decode cX8_findBears 54 = .ok (.aload_n 0, 1) := by decide +kernel
theorem dX8_findBears_55 : decode cX8_findBears 55 = .ok (.getfield 53, 3) := by decide +kernel
theorem dX8_findBears_58 : decode cX8_findBears 58 = .ok (.iload_n 2, 1) := by decide +kernel
theorem dX8_findBears_59 : decode cX8_findBears 59 = .ok (.dup2, 1) := by decide +kernel
theorem dX8_findBears_60 : decode cX8_findBears 60 = .ok (.iaload, 1) := by decide +kernel
theorem dX8_findBears_61 : decode cX8_findBears 61 = .ok (.aload_n 0, 1) := by decide +kernel
theorem dX8_findBears_62 : decode cX8_findBears 62 = .ok (.iload_n 1, 1) := by decide +kernel
theorem dX8_findBears_63 : decode cX8_findBears 63 = .ok (.iconst 1, 1) := by decide +kernel
theorem dX8_findBears_64 : decode cX8_findBears 64 = .ok (.invokevirtual 72, 3) := by decide +kernel
theorem dX8_findBears_67 : decode cX8_findBears 67 = .ok (.aload_n 0, 1) := by decide +kernel
theorem dX8_findBears_68 : decode cX8_findBears 68 = .ok (.iload_n 1, 1) := by decide +kernel
theorem dX8_findBears_69 : decode cX8_findBears 69 = .ok (.iload_n 2, 1) := by decide +kernel
theorem dX8_findBears_70 : decode cX8_findBears 70 = .ok (.invokevirtual 110, 3) := by decide +kernel
theorem dX8_findBears_73 : decode cX8_findBears 73 = .ok (.imul, 1) := by decide +kernel
theorem dX8_findBears_74 : decode cX8_findBears 74 = .ok (.iadd, 1) := by decide +kernel
theorem dX8_findBears_75 : decode cX8_findBears 75 = .ok (.iastore, 1) := by decide +kernel
theorem dX8_findBears_76 : decode cX8_findBears 76 = .ok (.iinc 2 1, 3) := by decide +kernel
theorem dX8_findBears_79 : decode cX8_findBears 79 = .ok (.goto (-35), 3) := by decide +kernel
theorem dX8_findBears_82 : decode cX8_findBears 82 = .ok (.iinc 1 1, 3) := by decide +kernel
theorem dX8_findBears_85 : decode cX8_findBears 85 = .ok (.goto (-58), 3) := by decide +kernel
theorem dX8_findBears_88 : decode cX8_findBears 88 = .ok (.return_, 1) := by decide +kernel
theorem dX8_dropPiece_0 : decode cX8_dropPiece 0 = .ok (.iconst 2, 1) := by decide +kernel
theorem dX8_dropPiece_1 : decode cX8_dropPiece 1 = .ok (.bipush 6, 2) := by decide +kernel
theorem dX8_dropPiece_3 : decode cX8_dropPiece 3 = .ok (.iload_n 1, 1) := by decide +kernel
theorem dX8_dropPiece_4 : decode cX8_dropPiece 4 = .ok (.imul, 1) := by decide +kernel
theorem dX8_dropPiece_5 : decode cX8_dropPiece 5 = .ok (.iadd, 1) := by decide +kernel
theorem dX8_dropPiece_6 : decode cX8_dropPiece 6 = .ok (.istore_n 2, 1) := by decide +kernel
theorem dX8_dropPiece_7 : decode cX8_dropPiece 7 = .ok (.iload_n 2, 1) := by decide +kernel
theorem dX8_dropPiece_8 : decode cX8_dropPiece 8 = .ok (.iconst 2, 1) := by decide +kernel
theorem dX8_dropPiece_9 : decode cX8_dropPiece 9 = .ok (.bipush 6, 2) := by decide +kernel
theorem dX8_dropPiece_11 : decode cX8_dropPiece 11 = .ok (.aload_n 0, 1) := by decide +kernel
theorem dX8_dropPiece_12 : decode cX8_dropPiece 12 = .ok (.getfield 7, 3) := by decide +kernel
theorem dX8_dropPiece_15 : decode cX8_dropPiece 15 = .ok (.iconst 0, 1) := by decide +kernel
theorem dX8_dropPiece_16 : decode cX8_dropPiece 16 = .ok (.iaload, 1) := by decide +kernel
theorem dX8_dropPiece_17 : decode cX8_dropPiece 17 = .ok (.iconst 1, 1) := by decide +kernel
theorem dX8_dropPiece_18 : decode cX8_dropPiece 18 = .ok (.isub, 1) := by decide +kernel
theorem dX8_dropPiece_19 : decode cX8_dropPiece 19 = .ok (.imul, 1) := by decide +kernel
theorem dX8_dropPiece_20 : decode cX8_dropPiece 20 = .ok (.iadd, 1) := by decide +kernel
theorem dX8_dropPiece_21 : decode cX8_dropPiece 21 = .ok (.if_icmp .ge 24, 3) := by decide +kernel
theorem dX8_dropPiece_24 : decode cX8_dropPiece 24 = .ok (.aload_n 0, 1) := by decide +kernel
theorem dX8_dropPiece_25 : decode cX8_dropPiece 25 = .ok (.getfield 7, 3) := by decide +kernel
theorem dX8_dropPiece_28 : decode cX8_dropPiece 28 = .ok (.iload_n 2, 1) := by decide +kernel
theorem dX8_dropPiece_29 : decode cX8_dropPiece 29 = .ok (.aload_n 0, 1) := by decide +kernel
theorem dX8_dropPiece_30 : decode cX8_dropPiece 30 = .ok (.getfield 7, 3) := by decide +kernel
theorem dX8_dropPiece_33 : decode cX8_dropPiece 33 = .ok (.iload_n 2, 1) := by decide +kernel
theorem dX8_dropPiece_34 : decode cX8_dropPiece 34 = .ok (.bipush 6, 2) := by decide +kernel
theorem dX8_dropPiece_36 : decode cX8_dropPiece 36 = .ok (.iadd, 1) := by decide +kernel
theorem dX8_dropPiece_37 : decode cX8_dropPiece 37 = .ok (.iaload, 1) := by decide +kernel
theorem dX8_dropPiece_38 : decode cX8_dropPiece 38 = .ok (.iastore, 1) := by decide +kernel
theorem dX8_dropPiece_39 : decode cX8_dropPiece 39 = .ok (.iinc 2 1, 3) := by decide +kernel
theorem dX8_dropPiece_42 : decode cX8_dropPiece 42 = .ok (.goto (-35), 3) := by decide +kernel
theorem dX8_dropPiece_45 : decode cX8_dropPiece 45 = .ok (.aload_n 0, 1) := by decide +kernel
theorem dX8_dropPiece_46 : decode cX8_dropPiece 46 = .ok (.getfield 7, 3) := by decide +kernel
theorem dX8_dropPiece_49 : decode cX8_dropPiece 49 = .ok (.iconst 0, 1) := by decide +kernel
theorem dX8_dropPiece_50 : decode cX8_dropPiece 50 = .ok (.dup2, 1) := by decide +kernel
theorem dX8_dropPiece_51 : decode cX8_dropPiece 51 = .ok (.iaload, 1) := by decide +kernel
theorem dX8_dropPiece_52 : decode cX8_dropPiece 52 = .ok (.iconst 1, 1) := by decide +kernel
theorem dX8_dropPiece_53 : decode cX8_dropPiece 53 = .ok (.isub, 1) := by decide +kernel
theorem dX8_dropPiece_54 : decode cX8_dropPiece 54 = .ok (.iastore, 1) := by decide +kernel
theorem dX8_dropPiece_55 : decode cX8_dropPiece 55 = .ok (.return_, 1) := by decide +kernel
set_option maxRecDepth 20000 in
theorem ggX8_lossOf_X8_allCosts : GoodIn wsX8_lossOf wsX8_allCosts := goodIn_r _ [7, 1, 8, 9, 10, 6, 11, 12, 13, 14, 15, 16, 17, 18, 19, 20, 21, 22, 23, 24, 25, 26, 27, 28, 29, 30, 31, 32, 33, 34, 35, 36, 37, 38, 39, 40, 41, 42, 43, 44, 45, 46, 47, 48, 49, 50, 58, 59, 60, 61, 62, 63, 64, 65, 66, 67, 68, 69, 70, 71, 72, 73, 74, 75] (by decide +kernel) (by decide +kernel)
set_option maxRecDepth 20000 in
theorem gX8_lossOf_X8_allCosts : GoodIn wsX8_lossOf (wsV RX8 113 RX8 yX8_allCosts wsX8_allCosts) := goodIn_app (goodIn_of _ (by decide +kernel)) ggX8_lossOf_X8_allCosts
set_option maxRecDepth 20000 in
theorem ggX8_lossOf_X8_copy : GoodIn wsX8_lossOf wsX8_copy := goodIn_r _ [53] (by decide +kernel) (by decide +kernel)
set_option maxRecDepth 20000 in
theorem gX8_lossOf_X8_copy : GoodIn wsX8_lossOf (va_wsS RX8 60 yX8_copy wsX8_copy) := goodIn_app (goodIn_of _ (by decide +kernel)) ggX8_lossOf_X8_copy
set_option maxRecDepth 20000 in
theorem ggX8_lossOf_X8_dropPiece : GoodIn wsX8_lossOf wsX8_dropPiece := goodIn_r _ [57, 1, 58, 59, 60, 61, 62, 63, 64, 65, 66, 67, 68, 69, 70, 71, 72, 73, 74, 75] (by decide +kernel) (by decide +kernel)
set_option maxRecDepth 20000 in
theorem gX8_lossOf_X8_dropPiece : GoodIn wsX8_lossOf (wsV RX8 117 RX8 yX8_dropPiece wsX8_dropPiece) := goodIn_app (goodIn_of _ (by decide +kernel)) ggX8_lossOf_X8_dropPiece
theorem dX8_lossOf_0 : decode cX8_lossOf 0 = .ok (.aload_n 0, 1) := by decide +kernel
theorem dX8_lossOf_1 : decode cX8_lossOf 1 = .ok (.invokevirtual 113, 3) := by decide +kernel
theorem dX8_lossOf_4 : decode cX8_lossOf 4 = .ok (.istore_n 2, 1) := by decide +kernel
theorem dX8_lossOf_5 : decode cX8_lossOf 5 = .ok (.aload_n 0, 1) := by decide +kernel
theorem dX8_lossOf_6 : decode cX8_lossOf 6 = .ok (.getfield 7, 3) := by decide +kernel
theorem dX8_lossOf_9 : decode cX8_lossOf 9 = .ok (.iconst 0, 1) := by decide +kernel
theorem dX8_lossOf_10 : decode cX8_lossOf 10 = .ok (.aload_n 0, 1) := by decide +kernel
theorem dX8_lossOf_11 : decode cX8_lossOf 11 = .ok (.getfield 13, 3) := by decide +kernel
theorem dX8_lossOf_14 : decode cX8_lossOf 14 = .ok (.iconst 0, 1) := by decide +kernel
theorem dX8_lossOf_15 : decode cX8_lossOf 15 = .ok (.invokestatic 60, 3) := by decide +kernel
theorem dX8_lossOf_18 : decode cX8_lossOf 18 = .ok (.aload_n 0, 1) := by decide +kernel
theorem dX8_lossOf_19 : decode cX8_lossOf 19 = .ok (.iload_n 1, 1) := by decide +kernel
theorem dX8_lossOf_20 : decode cX8_lossOf 20 = .ok (.invokevirtual 117, 3) := by decide +kernel
theorem dX8_lossOf_23 : decode cX8_lossOf 23 = .ok (.aload_n 0, 1) := by decide +kernel
theorem dX8_lossOf_24 : decode cX8_lossOf 24 = .ok (.invokevirtual 113, 3) := by decide +kernel
theorem dX8_lossOf_27 : decode cX8_lossOf 27 = .ok (.istore_n 3, 1) := by decide +kernel
theorem dX8_lossOf_28 : decode cX8_lossOf 28 = .ok (.aload_n 0, 1) := by decide +kernel
theorem dX8_lossOf_29 : decode cX8_lossOf 29 = .ok (.getfield 13, 3) := by decide +kernel
theorem dX8_lossOf_32 : decode cX8_lossOf 32 = .ok (.iconst 0, 1) := by decide +kernel
theorem dX8_lossOf_33 : decode cX8_lossOf 33 = .ok (.aload_n 0, 1) := by decide +kernel
theorem dX8_lossOf_34 : decode cX8_lossOf 34 = .ok (.getfield 7, 3) := by decide +kernel
theorem dX8_lossOf_37 : decode cX8_lossOf 37 = .ok (.iconst 0, 1) := by decide +kernel
theorem dX8_lossOf_38 : decode cX8_lossOf 38 = .ok (.invokestatic 60, 3) := by decide +kernel
theorem dX8_lossOf_41 : decode cX8_lossOf 41 = .ok (.iload_n 3, 1) := by decide +kernel
theorem dX8_lossOf_42 : decode cX8_lossOf 42 = .ok (.iload_n 2, 1) := by decide +kernel
theorem dX8_lossOf_43 : decode cX8_lossOf 43 = .ok (.isub, 1) := by decide +kernel
theorem dX8_lossOf_44 : decode cX8_lossOf 44 = .ok (.ireturn, 1) := by decide +kernel
set_option maxRecDepth 20000 in
theorem ggX8_leastOf_X8_lossOf : GoodIn wsX8_leastOf wsX8_lossOf := goodIn_r _ [6, 1, 7, 8, 9, 10, 5, 11, 12, 13, 14, 15, 16, 17, 18, 19, 20, 21, 22, 23, 24, 25, 26, 27, 28, 29, 30, 31, 32, 33, 34, 35, 36, 37, 38, 39, 40, 41, 42, 43, 44, 45, 46, 47, 48, 49, 50, 51, 52, 53, 54, 55, 56, 57, 58, 59, 60, 61, 62, 63, 64, 65, 66, 67, 68, 69, 70, 71, 72, 73, 74, 75, 76, 77, 78, 79] (by decide +kernel) (by decide +kernel)
set_option maxRecDepth 20000 in
theorem gX8_leastOf_X8_lossOf : GoodIn wsX8_leastOf (wsV RX8 120 RX8 yX8_lossOf wsX8_lossOf) := goodIn_app (goodIn_of _ (by decide +kernel)) ggX8_leastOf_X8_lossOf
set_option maxRecDepth 20000 in
theorem ggX8_leastOf_X8_piecePart : GoodIn wsX8_leastOf wsX8_piecePart := goodIn_r _ [50, 1, 62, 63, 64, 65, 66, 67, 68, 69, 70, 71, 72, 73, 74, 75, 76, 77, 78, 79] (by decide +kernel) (by decide +kernel)
set_option maxRecDepth 20000 in
theorem gX8_leastOf_X8_piecePart : GoodIn wsX8_leastOf (wsV RX8 68 RX8 yX8_piecePart wsX8_piecePart) := goodIn_app (goodIn_of _ (by decide +kernel)) ggX8_leastOf_X8_piecePart
theorem dX8_leastOf_0 : decode cX8_leastOf 0 = .ok (.bipush (-6), 2) := by decide +kernel
theorem dX8_leastOf_2 : decode cX8_leastOf 2 = .ok (.istore_n 1, 1) := by decide +kernel
theorem dX8_leastOf_3 : decode cX8_leastOf 3 = .ok (.iconst 0, 1) := by decide +kernel
theorem dX8_leastOf_4 : decode cX8_leastOf 4 = .ok (.istore_n 2, 1) := by decide +kernel
theorem dX8_leastOf_5 : decode cX8_leastOf 5 = .ok (.iconst 0, 1) := by decide +kernel
theorem dX8_leastOf_6 : decode cX8_leastOf 6 = .ok (.istore_n 3, 1) := by decide +kernel
theorem dX8_leastOf_7 : decode cX8_leastOf 7 = .ok (.iload_n 3, 1) := by decide +kernel
theorem dX8_leastOf_8 : decode cX8_leastOf 8 = .ok (.aload_n 0, 1) := by decide +kernel
theorem dX8_leastOf_9 : decode cX8_leastOf 9 = .ok (.getfield 7, 3) := by decide +kernel
theorem dX8_leastOf_12 : decode cX8_leastOf 12 = .ok (.iconst 0, 1) := by decide +kernel
theorem dX8_leastOf_13 : decode cX8_leastOf 13 = .ok (.iaload, 1) := by decide +kernel
theorem dX8_leastOf_14 : decode cX8_leastOf 14 = .ok (.if_icmp .ge 79, 3) := by decide +kernel
theorem dX8_leastOf_17 : decode cX8_leastOf 17 = .ok (.aload_n 0, 1) := by decide +kernel
theorem dX8_leastOf_18 : decode cX8_leastOf 18 = .ok (.iload_n 3, 1) := by decide +kernel
theorem dX8_leastOf_19 : decode cX8_leastOf 19 = .ok (.invokevirtual 120, 3) := by decide +kernel
theorem dX8_leastOf_22 : decode cX8_leastOf 22 = .ok (.istore 4, 2) := by decide +kernel
theorem dX8_leastOf_24 : decode cX8_leastOf 24 = .ok (.iload_n 1, 1) := by decide +kernel
theorem dX8_leastOf_25 : decode cX8_leastOf 25 = .ok (.bipush (-6), 2) := by decide +kernel
theorem dX8_leastOf_27 : decode cX8_leastOf 27 = .ok (.if_icmp .eq 30, 3) := by decide +kernel
theorem dX8_leastOf_30 : decode cX8_leastOf 30 = .ok (.iload 4, 2) := by decide +kernel
theorem dX8_leastOf_32 : decode cX8_leastOf 32 = .ok (.iload_n 2, 1) := by decide +kernel
theorem dX8_leastOf_33 : decode cX8_leastOf 33 = .ok (.if_icmp .lt 24, 3) := by decide +kernel
theorem dX8_leastOf_36 : decode cX8_leastOf 36 = .ok (.iload 4, 2) := by decide +kernel
theorem dX8_leastOf_38 : decode cX8_leastOf 38 = .ok (.iload_n 2, 1) := by decide +kernel
theorem dX8_leastOf_39 : decode cX8_leastOf 39 = .ok (.if_icmp .ne 22, 3) := by decide +kernel
theorem dX8_leastOf_42 : decode cX8_leastOf 42 = .ok (.aload_n 0, 1) := by decide +kernel
theorem dX8_leastOf_43 : decode cX8_leastOf 43 = .ok (.iload_n 3, 1) := by decide +kernel
theorem dX8_leastOf_44 : decode cX8_leastOf 44 = .ok (.iconst 1, 1) := by decide +kernel
theorem dX8_leastOf_45 : decode cX8_leastOf 45 = .ok (.invokevirtual 68, 3) := by decide +kernel
theorem dX8_leastOf_48 : decode cX8_leastOf 48 = .ok (.aload_n 0, 1) := by decide +kernel
theorem dX8_leastOf_49 : decode cX8_leastOf 49 = .ok (.iload_n 1, 1) := by decide +kernel
theorem dX8_leastOf_50 : decode cX8_leastOf 50 = .ok (.iconst 1, 1) := by decide +kernel
theorem dX8_leastOf_51 : decode cX8_leastOf 51 = .ok (.invokevirtual 68, 3) := by decide +kernel
theorem dX8_leastOf_54 : decode cX8_leastOf 54 = .ok (.if_icmp .gt 7, 3) := by decide +kernel
theorem dX8_leastOf_57 : decode cX8_leastOf 57 = .ok (.iconst 1, 1) := by decide +kernel
theorem dX8_leastOf_58 : decode cX8_leastOf 58 = .ok (.goto 4, 3) := by decide +kernel
theorem dX8_leastOf_61 : decode cX8_leastOf 61 = .ok (.iconst 0, 1) := by decide +kernel
theorem dX8_leastOf_62 : decode cX8_leastOf 62 = .ok (.istore 5, 2) := by decide +kernel
theorem dX8_leastOf_64 : decode cX8_leastOf 64 = .ok (.iload 5, 2) := by decide +kernel
theorem dX8_leastOf_66 : decode cX8_leastOf 66 = .ok (.ifCond .eq 7, 3) := by decide +kernel
theorem dX8_leastOf_69 : decode cX8_leastOf 69 = .ok (.iload_n 3, 1) := by decide +kernel
theorem dX8_leastOf_70 : decode cX8_leastOf 70 = .ok (.goto 4, 3) := by decide +kernel
theorem dX8_leastOf_73 : decode cX8_leastOf 73 = .ok (.iload_n 1, 1) := by decide +kernel
theorem dX8_leastOf_74 : decode cX8_leastOf 74 = .ok (.istore_n 1, 1) := by decide +kernel
theorem dX8_leastOf_75 : decode cX8_leastOf 75 = .ok (.iload 5, 2) := by decide +kernel
theorem dX8_leastOf_77 : decode cX8_leastOf 77 = .ok (.ifCond .eq 8, 3) := by decide +kernel
theorem dX8_leastOf_80 : decode cX8_leastOf 80 = .ok (.iload 4, 2) := by decide +kernel
theorem dX8_leastOf_82 : decode cX8_leastOf 82 = .ok (.goto 4, 3) := by decide +kernel
theorem dX8_leastOf_85 : decode cX8_leastOf 85 = .ok (.iload_n 2, 1) := by decide +kernel
theorem dX8_leastOf_86 : decode cX8_leastOf 86 = .ok (.istore_n 2, 1) := by decide +kernel
theorem dX8_leastOf_87 : decode cX8_leastOf 87 = .ok (.iinc 3 1, 3) := by decide +kernel
theorem dX8_leastOf_90 : decode cX8_leastOf 90 = .ok (.goto (-83), 3) := by decide +kernel
theorem dX8_leastOf_93 : decode cX8_leastOf 93 = .ok (.iload_n 1, 1) := by decide +kernel
theorem dX8_leastOf_94 : decode cX8_leastOf 94 = .ok (.ireturn, 1) := by decide +kernel
set_option maxRecDepth 20000 in
theorem ggX8_addPiece_X8_lengthOf : GoodIn wsX8_addPiece wsX8_lengthOf := goodIn_r _ [5] (by decide +kernel) (by decide +kernel)
set_option maxRecDepth 20000 in
theorem gX8_addPiece_X8_lengthOf : GoodIn wsX8_addPiece (va_wsS RX8 75 yX8_lengthOf wsX8_lengthOf) := goodIn_app (goodIn_of _ (by decide +kernel)) ggX8_addPiece_X8_lengthOf
set_option maxRecDepth 20000 in
theorem ggX8_addPiece_X8_letterOf : GoodIn wsX8_addPiece wsX8_letterOf := goodIn_r _ [8, 2, 3, 4, 5] (by decide +kernel) (by decide +kernel)
set_option maxRecDepth 20000 in
theorem gX8_addPiece_X8_letterOf : GoodIn wsX8_addPiece (va_wsS RX8 123 yX8_letterOf wsX8_letterOf) := goodIn_app (goodIn_of _ (by decide +kernel)) ggX8_addPiece_X8_letterOf
theorem dX8_addPiece_0 : decode cX8_addPiece 0 = .ok (.aload_n 0, 1) := by decide +kernel
theorem dX8_addPiece_1 : decode cX8_addPiece 1 = .ok (.getfield 7, 3) := by decide +kernel
theorem dX8_addPiece_4 : decode cX8_addPiece 4 = .ok (.iconst 0, 1) := by decide +kernel
theorem dX8_addPiece_5 : decode cX8_addPiece 5 = .ok (.iaload, 1) := by decide +kernel
theorem dX8_addPiece_6 : decode cX8_addPiece 6 = .ok (.istore_n 3, 1) := by decide +kernel
theorem dX8_addPiece_7 : decode cX8_addPiece 7 = .ok (.iconst 2, 1) := by decide +kernel
theorem dX8_addPiece_8 : decode cX8_addPiece 8 = .ok (.bipush 6, 2) := by decide +kernel
theorem dX8_addPiece_10 : decode cX8_addPiece 10 = .ok (.iload_n 3, 1) := by decide +kernel
theorem dX8_addPiece_11 : decode cX8_addPiece 11 = .ok (.imul, 1) := by decide +kernel
theorem dX8_addPiece_12 : decode cX8_addPiece 12 = .ok (.iadd, 1) := by decide +kernel
theorem dX8_addPiece_13 : decode cX8_addPiece 13 = .ok (.istore 4, 2) := by decide +kernel
theorem dX8_addPiece_15 : decode cX8_addPiece 15 = .ok (.iload_n 1, 1) := by decide +kernel
theorem dX8_addPiece_16 : decode cX8_addPiece 16 = .ok (.invokestatic 75, 3) := by decide +kernel
theorem dX8_addPiece_19 : decode cX8_addPiece 19 = .ok (.istore 5, 2) := by decide +kernel
theorem dX8_addPiece_21 : decode cX8_addPiece 21 = .ok (.aload_n 0, 1) := by decide +kernel
theorem dX8_addPiece_22 : decode cX8_addPiece 22 = .ok (.getfield 7, 3) := by decide +kernel
theorem dX8_addPiece_25 : decode cX8_addPiece 25 = .ok (.iload 4, 2) := by decide +kernel
theorem dX8_addPiece_27 : decode cX8_addPiece 27 = .ok (.iconst 0, 1) := by decide +kernel
theorem dX8_addPiece_28 : decode cX8_addPiece 28 = .ok (.iadd, 1) := by decide +kernel
theorem dX8_addPiece_29 : decode cX8_addPiece 29 = .ok (.iload 5, 2) := by decide +kernel
theorem dX8_addPiece_31 : decode cX8_addPiece 31 = .ok (.iastore, 1) := by decide +kernel
theorem dX8_addPiece_32 : decode cX8_addPiece 32 = .ok (.aload_n 0, 1) := by decide +kernel
theorem dX8_addPiece_33 : decode cX8_addPiece 33 = .ok (.getfield 7, 3) := by decide +kernel
theorem dX8_addPiece_36 : decode cX8_addPiece 36 = .ok (.iload 4, 2) := by decide +kernel
theorem dX8_addPiece_38 : decode cX8_addPiece 38 = .ok (.iconst 1, 1) := by decide +kernel
theorem dX8_addPiece_39 : decode cX8_addPiece 39 = .ok (.iadd, 1) := by decide +kernel
theorem dX8_addPiece_40 : decode cX8_addPiece 40 = .ok (.iload_n 2, 1) := by decide +kernel
theorem dX8_addPiece_41 : decode cX8_addPiece 41 = .ok (.iastore, 1) := by decide +kernel
theorem dX8_addPiece_42 : decode cX8_addPiece 42 = .ok (.iconst 0, 1) := by decide +kernel
theorem dX8_addPiece_43 : decode cX8_addPiece 43 = .ok (.istore 6, 2) := by decide +kernel
theorem dX8_addPiece_45 : decode cX8_addPiece 45 = .ok (.iload 6, 2) := by decide +kernel
theorem dX8_addPiece_47 : decode cX8_addPiece 47 = .ok (.iconst 4, 1) := by decide +kernel
theorem dX8_addPiece_48 : decode cX8_addPiece 48 = .ok (.if_icmp .ge 40, 3) := by decide +kernel
theorem dX8_addPiece_51 : decode cX8_addPiece 51 = .ok (.aload_n 0, 1) := by decide +kernel
theorem dX8_addPiece_52 : decode cX8_addPiece 52 = .ok (.getfield 7, 3) := by decide +kernel
theorem dX8_addPiece_55 : decode cX8_addPiece 55 = .ok (.iload 4, 2) := by decide +kernel
theorem dX8_addPiece_57 : decode cX8_addPiece 57 = .ok (.iconst 2, 1) := by decide +kernel
theorem dX8_addPiece_58 : decode cX8_addPiece 58 = .ok (.iadd, 1) := by decide +kernel
theorem dX8_addPiece_59 : decode cX8_addPiece 59 = .ok (.iload 6, 2) := by decide +kernel
theorem dX8_addPiece_61 : decode cX8_addPiece 61 = .ok (.iadd, 1) := by decide +kernel
theorem dX8_addPiece_62 : decode cX8_addPiece 62 = .ok (.iload 6, 2) := by decide +kernel
theorem dX8_addPiece_64 : decode cX8_addPiece 64 = .ok (.iload 5, 2) := by decide +kernel
theorem dX8_addPiece_66 : decode cX8_addPiece 66 = .ok (.if_icmp .ge 14, 3) := by decide +kernel
theorem dX8_addPiece_69 : decode cX8_addPiece 69 = .ok (.iload_n 1, 1) := by decide +kernel
theorem dX8_addPiece_70 : decode cX8_addPiece 70 = .ok (.iload 6, 2) := by decide +kernel
theorem dX8_addPiece_72 : decode cX8_addPiece 72 = .ok (.invokestatic 123, 3) := by decide +kernel
theorem dX8_addPiece_75 : decode cX8_addPiece 75 = .ok (.iconst 1, 1) := by decide +kernel
theorem dX8_addPiece_76 : decode cX8_addPiece 76 = .ok (.iadd, 1) := by decide +kernel
theorem dX8_addPiece_77 : decode cX8_addPiece 77 = .ok (.goto 4, 3) := by decide +kernel
theorem dX8_addPiece_80 : decode cX8_addPiece 80 = .ok (.iconst 0, 1) := by decide +kernel
theorem dX8_addPiece_81 : decode cX8_addPiece 81 = .ok (.iastore, 1) := by decide +kernel
theorem dX8_addPiece_82 : decode cX8_addPiece 82 = .ok (.iinc 6 1, 3) := by decide +kernel
theorem dX8_addPiece_85 : decode cX8_addPiece 85 = .ok (.goto (-40), 3) := by decide +kernel
theorem dX8_addPiece_88 : decode cX8_addPiece 88 = .ok (.aload_n 0, 1) := by decide +kernel
theorem dX8_addPiece_89 : decode cX8_addPiece 89 = .ok (.getfield 7, 3) := by decide +kernel
theorem dX8_addPiece_92 : decode cX8_addPiece 92 = .ok (.iconst 0, 1) := by decide +kernel
theorem dX8_addPiece_93 : decode cX8_addPiece 93 = .ok (.dup2, 1) := by decide +kernel
theorem dX8_addPiece_94 : decode cX8_addPiece 94 = .ok (.iaload, 1) := by decide +kernel
theorem dX8_addPiece_95 : decode cX8_addPiece 95 = .ok (.iconst 1, 1) := by decide +kernel
theorem dX8_addPiece_96 : decode cX8_addPiece 96 = .ok (.iadd, 1) := by decide +kernel
theorem dX8_addPiece_97 : decode cX8_addPiece 97 = .ok (.iastore, 1) := by decide +kernel
theorem dX8_addPiece_98 : decode cX8_addPiece 98 = .ok (.iload_n 3, 1) := by decide +kernel
theorem dX8_addPiece_99 : decode cX8_addPiece 99 = .ok (.ireturn, 1) := by decide +kernel
set_option maxRecDepth 20000 in
theorem ggX8_findNeighbours_X8_findCut : GoodIn wsX8_findNeighbours wsX8_findCut := goodIn_r _ [11, 12, 13, 3, 14, 15, 16, 10, 17, 2, 18, 19, 20, 21, 22, 23, 24, 25, 26, 27, 28, 29, 30, 31, 32, 33, 34, 35, 36, 37, 38, 39, 40, 41, 42, 43, 44, 45, 46, 47, 48, 49, 50, 51, 52, 53, 54, 55, 56, 57, 58, 59] (by decide +kernel) (by decide +kernel)
set_option maxRecDepth 20000 in
theorem gX8_findNeighbours_X8_findCut : GoodIn wsX8_findNeighbours (wsV RX8 95 RX8 yX8_findCut wsX8_findCut) := goodIn_app (goodIn_of _ (by decide +kernel)) ggX8_findNeighbours_X8_findCut
set_option maxRecDepth 20000 in
theorem ggX8_findNeighbours_X8_wordPart : GoodIn wsX8_findNeighbours wsX8_wordPart := goodIn_r _ [17, 2, 42, 43, 44, 45, 46, 47, 48, 49, 50, 51, 52, 53, 54, 55, 56, 57, 58, 59] (by decide +kernel) (by decide +kernel)
set_option maxRecDepth 20000 in
theorem gX8_findNeighbours_X8_wordPart : GoodIn wsX8_findNeighbours (wsV RX8 72 RX8 yX8_wordPart wsX8_wordPart) := goodIn_app (goodIn_of _ (by decide +kernel)) ggX8_findNeighbours_X8_wordPart
set_option maxRecDepth 20000 in
theorem ggX8_findNeighbours_X8_textIn : GoodIn wsX8_findNeighbours wsX8_textIn := goodIn_r _ [29, 14, 15, 16, 10, 17, 2, 42, 43, 44, 45, 46, 47, 48, 49, 50, 51, 52, 53, 54, 55, 56, 57, 58, 59] (by decide +kernel) (by decide +kernel)
set_option maxRecDepth 20000 in
theorem gX8_findNeighbours_X8_textIn : GoodIn wsX8_findNeighbours (wsV RX8 82 RX8 yX8_textIn wsX8_textIn) := goodIn_app (goodIn_of _ (by decide +kernel)) ggX8_findNeighbours_X8_textIn
set_option maxRecDepth 20000 in
theorem ggX8_findNeighbours_X8_pieceOf : GoodIn wsX8_findNeighbours wsX8_pieceOf := goodIn_r _ [33, 2, 34, 35, 36, 10, 37, 38, 39, 40, 41, 42, 43, 44, 45, 46, 47, 48, 49, 50, 51, 52, 53, 54, 55, 56, 57, 58, 59] (by decide +kernel) (by decide +kernel)
set_option maxRecDepth 20000 in
theorem gX8_findNeighbours_X8_pieceOf : GoodIn wsX8_findNeighbours (wsV RX8 86 RX8 yX8_pieceOf wsX8_pieceOf) := goodIn_app (goodIn_of _ (by decide +kernel)) ggX8_findNeighbours_X8_pieceOf
set_option maxRecDepth 20000 in
theorem ggX8_findNeighbours_X8_weightIn : GoodIn wsX8_findNeighbours wsX8_weightIn := goodIn_r _ [25, 26, 27, 28, 10, 29, 14, 15, 16, 17, 2, 30, 31, 32, 33, 34, 35, 36, 37, 38, 39, 40, 41, 42, 43, 44, 45, 46, 47, 48, 49, 50, 51, 52, 53, 54, 55, 56, 57, 58, 59] (by decide +kernel) (by decide +kernel)
set_option maxRecDepth 20000 in
theorem gX8_findNeighbours_X8_weightIn : GoodIn wsX8_findNeighbours (wsV RX8 92 RX8 yX8_weightIn wsX8_weightIn) := goodIn_app (goodIn_of _ (by decide +kernel)) ggX8_findNeighbours_X8_weightIn
theorem dX8_findNeighbours_0 : decode cX8_findNeighbours 0 = .ok (.aload_n 0, 1) := by decide +kernel
theorem dX8_findNeighbours_1 : decode cX8_findNeighbours 1 = .ok (.iconst 0, 1) := by decide +kernel
theorem dX8_findNeighbours_2 : decode cX8_findNeighbours 2 = .ok (.putfield 126, 3) := by decide +kernel
theorem dX8_findNeighbours_5 : decode cX8_findNeighbours 5 = .ok (.iconst 0, 1) := by decide +kernel
theorem dX8_findNeighbours_6 : decode cX8_findNeighbours 6 = .ok (.istore_n 1, 1) := by decide +kernel
theorem dX8_findNeighbours_7 : decode cX8_findNeighbours 7 = .ok (.iload_n 1, 1) := by decide +kernel
theorem dX8_findNeighbours_8 : decode cX8_findNeighbours 8 = .ok (.aload_n 0, 1) := by decide +kernel
theorem dX8_findNeighbours_9 : decode cX8_findNeighbours 9 = .ok (.getfield 7, 3) := by decide +kernel
theorem dX8_findNeighbours_12 : decode cX8_findNeighbours 12 = .ok (.iconst 1, 1) := by decide +kernel
theorem dX8_findNeighbours_13 : decode cX8_findNeighbours 13 = .ok (.iaload, 1) := by decide +kernel
theorem dX8_findNeighbours_14 : decode cX8_findNeighbours 14 = .ok (.if_icmp .ge 198, 3) := by decide +kernel
theorem dX8_findNeighbours_17 : decode cX8_findNeighbours 17 = .ok (.aload_n 0, 1) := by decide +kernel
theorem dX8_findNeighbours_18 : decode cX8_findNeighbours 18 = .ok (.iload_n 1, 1) := by decide +kernel
theorem dX8_findNeighbours_19 : decode cX8_findNeighbours 19 = .ok (.invokevirtual 95, 3) := by decide +kernel
theorem dX8_findNeighbours_22 : decode cX8_findNeighbours 22 = .ok (.aload_n 0, 1) := by decide +kernel
theorem dX8_findNeighbours_23 : decode cX8_findNeighbours 23 = .ok (.iload_n 1, 1) := by decide +kernel
theorem dX8_findNeighbours_24 : decode cX8_findNeighbours 24 = .ok (.iconst 0, 1) := by decide +kernel
theorem dX8_findNeighbours_25 : decode cX8_findNeighbours 25 = .ok (.invokevirtual 72, 3) := by decide +kernel
theorem dX8_findNeighbours_28 : decode cX8_findNeighbours 28 = .ok (.istore_n 2, 1) := by decide +kernel
theorem dX8_findNeighbours_29 : decode cX8_findNeighbours 29 = .ok (.iconst 0, 1) := by decide +kernel
theorem dX8_findNeighbours_30 : decode cX8_findNeighbours 30 = .ok (.istore_n 3, 1) := by decide +kernel
theorem dX8_findNeighbours_31 : decode cX8_findNeighbours 31 = .ok (.iload_n 3, 1) := by decide +kernel
theorem dX8_findNeighbours_32 : decode cX8_findNeighbours 32 = .ok (.aload_n 0, 1) := by decide +kernel
theorem dX8_findNeighbours_33 : decode cX8_findNeighbours 33 = .ok (.getfield 35, 3) := by decide +kernel
theorem dX8_findNeighbours_36 : decode cX8_findNeighbours 36 = .ok (.iload_n 3, 1) := by decide +kernel
theorem dX8_findNeighbours_37 : decode cX8_findNeighbours 37 = .ok (.iaload, 1) := by decide +kernel
theorem dX8_findNeighbours_38 : decode cX8_findNeighbours 38 = .ok (.iadd, 1) := by decide +kernel
theorem dX8_findNeighbours_39 : decode cX8_findNeighbours 39 = .ok (.iload_n 2, 1) := by decide +kernel
theorem dX8_findNeighbours_40 : decode cX8_findNeighbours 40 = .ok (.if_icmp .ge 166, 3) := by decide +kernel
theorem dX8_findNeighbours_43 : decode cX8_findNeighbours 43 = .ok (.iload_n 3, 1) := by decide +kernel
theorem dX8_findNeighbours_44 : decode cX8_findNeighbours 44 = .ok (.aload_n 0, 1) := by decide +kernel
theorem dX8_findNeighbours_45 : decode cX8_findNeighbours 45 = .ok (.getfield 35, 3) := by decide +kernel
theorem dX8_findNeighbours_48 : decode cX8_findNeighbours 48 = .ok (.iload_n 3, 1) := by decide +kernel
theorem dX8_findNeighbours_49 : decode cX8_findNeighbours 49 = .ok (.iaload, 1) := by decide +kernel
theorem dX8_findNeighbours_50 : decode cX8_findNeighbours 50 = .ok (.iadd, 1) := by decide +kernel
theorem dX8_findNeighbours_51 : decode cX8_findNeighbours 51 = .ok (.istore 4, 2) := by decide +kernel
theorem dX8_findNeighbours_53 : decode cX8_findNeighbours 53 = .ok (.aload_n 0, 1) := by decide +kernel
theorem dX8_findNeighbours_54 : decode cX8_findNeighbours 54 = .ok (.getfield 35, 3) := by decide +kernel
theorem dX8_findNeighbours_57 : decode cX8_findNeighbours 57 = .ok (.iload_n 3, 1) := by decide +kernel
theorem dX8_findNeighbours_58 : decode cX8_findNeighbours 58 = .ok (.iaload, 1) := by decide +kernel
theorem dX8_findNeighbours_59 : decode cX8_findNeighbours 59 = .ok (.aload_n 0, 1) := by decide +kernel
theorem dX8_findNeighbours_60 : decode cX8_findNeighbours 60 = .ok (.getfield 35, 3) := by decide +kernel
theorem dX8_findNeighbours_63 : decode cX8_findNeighbours 63 = .ok (.iload 4, 2) := by decide +kernel
theorem dX8_findNeighbours_65 : decode cX8_findNeighbours 65 = .ok (.iaload, 1) := by decide +kernel
theorem dX8_findNeighbours_66 : decode cX8_findNeighbours 66 = .ok (.iadd, 1) := by decide +kernel
theorem dX8_findNeighbours_67 : decode cX8_findNeighbours 67 = .ok (.istore 5, 2) := by decide +kernel
theorem dX8_findNeighbours_69 : decode cX8_findNeighbours 69 = .ok (.iload 5, 2) := by decide +kernel
theorem dX8_findNeighbours_71 : decode cX8_findNeighbours 71 = .ok (.iconst 4, 1) := by decide +kernel
theorem dX8_findNeighbours_72 : decode cX8_findNeighbours 72 = .ok (.if_icmp .le 7, 3) := by decide +kernel
theorem dX8_findNeighbours_75 : decode cX8_findNeighbours 75 = .ok (.iconst 0, 1) := by decide +kernel
theorem dX8_findNeighbours_76 : decode cX8_findNeighbours 76 = .ok (.goto 11, 3) := by decide +kernel
theorem dX8_findNeighbours_79 : decode cX8_findNeighbours 79 = .ok (.aload_n 0, 1) := by decide +kernel
theorem dX8_findNeighbours_80 : decode cX8_findNeighbours 80 = .ok (.iload_n 1, 1) := by decide +kernel
theorem dX8_findNeighbours_81 : decode cX8_findNeighbours 81 = .ok (.iload_n 3, 1) := by decide +kernel
theorem dX8_findNeighbours_82 : decode cX8_findNeighbours 82 = .ok (.iload 5, 2) := by decide +kernel
theorem dX8_findNeighbours_84 : decode cX8_findNeighbours 84 = .ok (.invokevirtual 82, 3) := by decide +kernel
theorem dX8_findNeighbours_87 : decode cX8_findNeighbours 87 = .ok (.istore 6, 2) := by decide +kernel
theorem dX8_findNeighbours_89 : decode cX8_findNeighbours 89 = .ok (.iload 6, 2) := by decide +kernel
theorem dX8_findNeighbours_91 : decode cX8_findNeighbours 91 = .ok (.ifCond .le 103, 3) := by decide +kernel
theorem dX8_findNeighbours_94 : decode cX8_findNeighbours 94 = .ok (.aload_n 0, 1) := by decide +kernel
theorem dX8_findNeighbours_95 : decode cX8_findNeighbours 95 = .ok (.iload 6, 2) := by decide +kernel
theorem dX8_findNeighbours_97 : decode cX8_findNeighbours 97 = .ok (.invokevirtual 86, 3) := by decide +kernel
theorem dX8_findNeighbours_100 : decode cX8_findNeighbours 100 = .ok (.bipush (-6), 2) := by decide +kernel
theorem dX8_findNeighbours_102 : decode cX8_findNeighbours 102 = .ok (.if_icmp .ne 92, 3) := by decide +kernel
theorem dX8_findNeighbours_105 : decode cX8_findNeighbours 105 = .ok (.aload_n 0, 1) := by decide +kernel
theorem dX8_findNeighbours_106 : decode cX8_findNeighbours 106 = .ok (.iload_n 1, 1) := by decide +kernel
theorem dX8_findNeighbours_107 : decode cX8_findNeighbours 107 = .ok (.iload_n 3, 1) := by decide +kernel
theorem dX8_findNeighbours_108 : decode cX8_findNeighbours 108 = .ok (.aload_n 0, 1) := by decide +kernel
theorem dX8_findNeighbours_109 : decode cX8_findNeighbours 109 = .ok (.getfield 35, 3) := by decide +kernel
theorem dX8_findNeighbours_112 : decode cX8_findNeighbours 112 = .ok (.iload_n 3, 1) := by decide +kernel
theorem dX8_findNeighbours_113 : decode cX8_findNeighbours 113 = .ok (.iaload, 1) := by decide +kernel
theorem dX8_findNeighbours_114 : decode cX8_findNeighbours 114 = .ok (.invokevirtual 92, 3) := by decide +kernel
theorem dX8_findNeighbours_117 : decode cX8_findNeighbours 117 = .ok (.istore 7, 2) := by decide +kernel
theorem dX8_findNeighbours_119 : decode cX8_findNeighbours 119 = .ok (.aload_n 0, 1) := by decide +kernel
theorem dX8_findNeighbours_120 : decode cX8_findNeighbours 120 = .ok (.iload_n 1, 1) := by decide +kernel
theorem dX8_findNeighbours_121 : decode cX8_findNeighbours 121 = .ok (.iload 4, 2) := by decide +kernel
theorem dX8_findNeighbours_123 : decode cX8_findNeighbours 123 = .ok (.aload_n 0, 1) := by decide +kernel
theorem dX8_findNeighbours_124 : decode cX8_findNeighbours 124 = .ok (.getfield 35, 3) := by decide +kernel
theorem dX8_findNeighbours_127 : decode cX8_findNeighbours 127 = .ok (.iload 4, 2) := by decide +kernel
theorem dX8_findNeighbours_129 : decode cX8_findNeighbours 129 = .ok (.iaload, 1) := by decide +kernel
theorem dX8_findNeighbours_130 : decode cX8_findNeighbours 130 = .ok (.invokevirtual 92, 3) := by decide +kernel
theorem dX8_findNeighbours_133 : decode cX8_findNeighbours 133 = .ok (.istore 8, 2) := by decide +kernel
theorem dX8_findNeighbours_135 : decode cX8_findNeighbours 135 = .ok (.aload_n 0, 1) := by decide +kernel
theorem dX8_findNeighbours_136 : decode cX8_findNeighbours 136 = .ok (.getfield 44, 3) := by decide +kernel
theorem dX8_findNeighbours_139 : decode cX8_findNeighbours 139 = .ok (.aload_n 0, 1) := by decide +kernel
theorem dX8_findNeighbours_140 : decode cX8_findNeighbours 140 = .ok (.getfield 126, 3) := by decide +kernel
theorem dX8_findNeighbours_143 : decode cX8_findNeighbours 143 = .ok (.iload 6, 2) := by decide +kernel
theorem dX8_findNeighbours_145 : decode cX8_findNeighbours 145 = .ok (.iastore, 1) := by decide +kernel
theorem dX8_findNeighbours_146 : decode cX8_findNeighbours 146 = .ok (.aload_n 0, 1) := by decide +kernel
theorem dX8_findNeighbours_147 : decode cX8_findNeighbours 147 = .ok (.getfield 47, 3) := by decide +kernel
theorem dX8_findNeighbours_150 : decode cX8_findNeighbours 150 = .ok (.aload_n 0, 1) := by decide +kernel
theorem dX8_findNeighbours_151 : decode cX8_findNeighbours 151 = .ok (.getfield 126, 3) := by decide +kernel
theorem dX8_findNeighbours_154 : decode cX8_findNeighbours 154 = .ok (.aload_n 0, 1) := by decide +kernel
theorem dX8_findNeighbours_155 : decode cX8_findNeighbours 155 = .ok (.iload_n 1, 1) := by decide +kernel
theorem dX8_findNeighbours_156 : decode cX8_findNeighbours 156 = .ok (.iconst 1, 1) := by decide +kernel
theorem dX8_findNeighbours_157 : decode cX8_findNeighbours 157 = .ok (.invokevirtual 72, 3) := by decide +kernel
theorem dX8_findNeighbours_160 : decode cX8_findNeighbours 160 = .ok (.iastore, 1) := by decide +kernel
theorem dX8_findNeighbours_161 : decode cX8_findNeighbours 161 = .ok (.aload_n 0, 1) := by decide +kernel
theorem dX8_findNeighbours_162 : decode cX8_findNeighbours 162 = .ok (.getfield 50, 3) := by decide +kernel
theorem dX8_findNeighbours_165 : decode cX8_findNeighbours 165 = .ok (.aload_n 0, 1) := by decide +kernel
theorem dX8_findNeighbours_166 : decode cX8_findNeighbours 166 = .ok (.getfield 126, 3) := by decide +kernel
theorem dX8_findNeighbours_169 : decode cX8_findNeighbours 169 = .ok (.iload 7, 2) := by decide +kernel
theorem dX8_findNeighbours_171 : decode cX8_findNeighbours 171 = .ok (.iload 8, 2) := by decide +kernel
theorem dX8_findNeighbours_173 : decode cX8_findNeighbours 173 = .ok (.if_icmp .ge 8, 3) := by decide +kernel
theorem dX8_findNeighbours_176 : decode cX8_findNeighbours 176 = .ok (.iload 7, 2) := by decide +kernel
theorem dX8_findNeighbours_178 : decode cX8_findNeighbours 178 = .ok (.goto 5, 3) := by decide +kernel
theorem dX8_findNeighbours_181 : decode cX8_findNeighbours 181 = .ok (.iload 8, 2) := by decide +kernel
theorem dX8_findNeighbours_183 : decode cX8_findNeighbours 183 = .ok (.iastore, 1) := by decide +kernel
theorem dX8_findNeighbours_184 : decode cX8_findNeighbours 184 = .ok (.aload_n 0, 1) := by decide +kernel
theorem dX8_findNeighbours_185 : decode cX8_findNeighbours 185 = .ok (.dup, 1) := by decide +kernel
theorem dX8_findNeighbours_186 : decode cX8_findNeighbours 186 = .ok (.getfield 126, 3) := by decide +kernel
theorem dX8_findNeighbours_189 : decode cX8_findNeighbours 189 = .ok (.iconst 1, 1) := by decide +kernel
theorem dX8_findNeighbours_190 : decode cX8_findNeighbours 190 = .ok (.iadd, 1) := by decide +kernel
theorem dX8_findNeighbours_191 : decode cX8_findNeighbours 191 = .ok (.putfield 126, 3) := by decide +kernel
theorem dX8_findNeighbours_194 : decode cX8_findNeighbours 194 = .ok (.iload_n 3, 1) := by decide +kernel
theorem dX8_findNeighbours_195 : decode cX8_findNeighbours 195 = .ok (.aload_n 0, 1) := by decide +kernel
theorem dX8_findNeighbours_196 : decode cX8_findNeighbours 196 = .ok (.getfield 35, 3) := by decide +kernel
theorem dX8_findNeighbours_199 : decode cX8_findNeighbours 199 = .ok (.iload_n 3, 1) := by decide +kernel
theorem dX8_findNeighbours_200 : decode cX8_findNeighbours 200 = .ok (.iaload, 1) := by decide +kernel
theorem dX8_findNeighbours_201 : decode cX8_findNeighbours 201 = .ok (.iadd, 1) := by decide +kernel
theorem dX8_findNeighbours_202 : decode cX8_findNeighbours 202 = .ok (.istore_n 3, 1) := by decide +kernel
theorem dX8_findNeighbours_203 : decode cX8_findNeighbours 203 = .ok (.goto (-172), 3) := by decide +kernel
theorem dX8_findNeighbours_206 : decode cX8_findNeighbours 206 = .ok (.iinc 1 1, 3) := by decide +kernel
theorem dX8_findNeighbours_209 : decode cX8_findNeighbours 209 = .ok (.goto (-202), 3) := by decide +kernel
theorem dX8_findNeighbours_212 : decode cX8_findNeighbours 212 = .ok (.return_, 1) := by decide +kernel
theorem dX8_standsSo_0 : decode cX8_standsSo 0 = .ok (.iconst 0, 1) := by decide +kernel
theorem dX8_standsSo_1 : decode cX8_standsSo 1 = .ok (.istore_n 2, 1) := by decide +kernel
theorem dX8_standsSo_2 : decode cX8_standsSo 2 = .ok (.iconst 0, 1) := by decide +kernel
theorem dX8_standsSo_3 : decode cX8_standsSo 3 = .ok (.istore_n 3, 1) := by decide +kernel
theorem dX8_standsSo_4 : decode cX8_standsSo 4 = .ok (.iload_n 3, 1) := by decide +kernel
theorem dX8_standsSo_5 : decode cX8_standsSo 5 = .ok (.aload_n 0, 1) := by decide +kernel
theorem dX8_standsSo_6 : decode cX8_standsSo 6 = .ok (.getfield 126, 3) := by decide +kernel
theorem dX8_standsSo_9 : decode cX8_standsSo 9 = .ok (.if_icmp .ge 32, 3) := by decide +kernel
theorem dX8_standsSo_12 : decode cX8_standsSo 12 = .ok (.iload_n 2, 1) := by decide +kernel
theorem dX8_standsSo_13 : decode cX8_standsSo 13 = .ok (.aload_n 0, 1) := by decide +kernel
theorem dX8_standsSo_14 : decode cX8_standsSo 14 = .ok (.getfield 44, 3) := by decide +kernel
theorem dX8_standsSo_17 : decode cX8_standsSo 17 = .ok (.iload_n 3, 1) := by decide +kernel
theorem dX8_standsSo_18 : decode cX8_standsSo 18 = .ok (.iaload, 1) := by decide +kernel
theorem dX8_standsSo_19 : decode cX8_standsSo 19 = .ok (.iload_n 1, 1) := by decide +kernel
theorem dX8_standsSo_20 : decode cX8_standsSo 20 = .ok (.if_icmp .ne 12, 3) := by decide +kernel
theorem dX8_standsSo_23 : decode cX8_standsSo 23 = .ok (.aload_n 0, 1) := by decide +kernel
theorem dX8_standsSo_24 : decode cX8_standsSo 24 = .ok (.getfield 47, 3) := by decide +kernel
theorem dX8_standsSo_27 : decode cX8_standsSo 27 = .ok (.iload_n 3, 1) := by decide +kernel
theorem dX8_standsSo_28 : decode cX8_standsSo 28 = .ok (.iaload, 1) := by decide +kernel
theorem dX8_standsSo_29 : decode cX8_standsSo 29 = .ok (.goto 4, 3) := by decide +kernel
theorem dX8_standsSo_32 : decode cX8_standsSo 32 = .ok (.iconst 0, 1) := by decide +kernel
theorem dX8_standsSo_33 : decode cX8_standsSo 33 = .ok (.iadd, 1) := by decide +kernel
theorem dX8_standsSo_34 : decode cX8_standsSo 34 = .ok (.istore_n 2, 1) := by decide +kernel
theorem dX8_standsSo_35 : decode cX8_standsSo 35 = .ok (.iinc 3 1, 3) := by decide +kernel
theorem dX8_standsSo_38 : decode cX8_standsSo 38 = .ok (.goto (-34), 3) := by decide +kernel
theorem dX8_standsSo_41 : decode cX8_standsSo 41 = .ok (.iload_n 2, 1) := by decide +kernel
theorem dX8_standsSo_42 : decode cX8_standsSo 42 = .ok (.ireturn, 1) := by decide +kernel
set_option maxRecDepth 20000 in
theorem ggX8_growsAt_X8_findNeighbours : GoodIn wsX8_growsAt wsX8_findNeighbours := goodIn_r _ [7, 1, 8, 9, 2, 10, 11, 12, 13, 14, 6, 15, 16, 17, 18, 19, 20, 21, 22, 23, 24, 25, 26, 27, 28, 29, 30, 31, 32, 33, 34, 35, 36, 37, 38, 39, 40, 41, 42, 43, 44, 45, 50, 51, 52, 53, 54, 55, 56, 57, 58, 59, 60, 61, 62, 63, 64, 65, 66, 67] (by decide +kernel) (by decide +kernel)
set_option maxRecDepth 20000 in
theorem gX8_growsAt_X8_findNeighbours : GoodIn wsX8_growsAt (wsV RX8 129 RX8 yX8_findNeighbours wsX8_findNeighbours) := goodIn_app (goodIn_of _ (by decide +kernel)) ggX8_growsAt_X8_findNeighbours
set_option maxRecDepth 20000 in
theorem ggX8_growsAt_X8_standsSo : GoodIn wsX8_growsAt wsX8_standsSo := goodIn_r _ [49, 1, 2, 10, 50, 51, 52, 53, 54, 55, 56, 57, 58, 59, 60, 61, 62, 63, 64, 65, 66, 67] (by decide +kernel) (by decide +kernel)
set_option maxRecDepth 20000 in
theorem gX8_growsAt_X8_standsSo : GoodIn wsX8_growsAt (wsV RX8 132 RX8 yX8_standsSo wsX8_standsSo) := goodIn_app (goodIn_of _ (by decide +kernel)) ggX8_growsAt_X8_standsSo
theorem dX8_growsAt_0 : decode cX8_growsAt 0 = .ok (.aload_n 0, 1) := by decide +kernel
theorem dX8_growsAt_1 : decode cX8_growsAt 1 = .ok (.invokevirtual 129, 3) := by decide +kernel
theorem dX8_growsAt_4 : decode cX8_growsAt 4 = .ok (.bipush (-6), 2) := by decide +kernel
theorem dX8_growsAt_6 : decode cX8_growsAt 6 = .ok (.istore_n 1, 1) := by decide +kernel
theorem dX8_growsAt_7 : decode cX8_growsAt 7 = .ok (.iconst 0, 1) := by decide +kernel
theorem dX8_growsAt_8 : decode cX8_growsAt 8 = .ok (.istore_n 2, 1) := by decide +kernel
theorem dX8_growsAt_9 : decode cX8_growsAt 9 = .ok (.iconst 0, 1) := by decide +kernel
theorem dX8_growsAt_10 : decode cX8_growsAt 10 = .ok (.istore_n 3, 1) := by decide +kernel
theorem dX8_growsAt_11 : decode cX8_growsAt 11 = .ok (.iload_n 3, 1) := by decide +kernel
theorem dX8_growsAt_12 : decode cX8_growsAt 12 = .ok (.aload_n 0, 1) := by decide +kernel
theorem dX8_growsAt_13 : decode cX8_growsAt 13 = .ok (.getfield 126, 3) := by decide +kernel
theorem dX8_growsAt_16 : decode cX8_growsAt 16 = .ok (.if_icmp .ge 78, 3) := by decide +kernel
theorem dX8_growsAt_19 : decode cX8_growsAt 19 = .ok (.aload_n 0, 1) := by decide +kernel
theorem dX8_growsAt_20 : decode cX8_growsAt 20 = .ok (.aload_n 0, 1) := by decide +kernel
theorem dX8_growsAt_21 : decode cX8_growsAt 21 = .ok (.getfield 44, 3) := by decide +kernel
theorem dX8_growsAt_24 : decode cX8_growsAt 24 = .ok (.iload_n 3, 1) := by decide +kernel
theorem dX8_growsAt_25 : decode cX8_growsAt 25 = .ok (.iaload, 1) := by decide +kernel
theorem dX8_growsAt_26 : decode cX8_growsAt 26 = .ok (.invokevirtual 132, 3) := by decide +kernel
theorem dX8_growsAt_29 : decode cX8_growsAt 29 = .ok (.istore 4, 2) := by decide +kernel
theorem dX8_growsAt_31 : decode cX8_growsAt 31 = .ok (.iload 4, 2) := by decide +kernel
theorem dX8_growsAt_33 : decode cX8_growsAt 33 = .ok (.iload_n 2, 1) := by decide +kernel
theorem dX8_growsAt_34 : decode cX8_growsAt 34 = .ok (.if_icmp .gt 24, 3) := by decide +kernel
theorem dX8_growsAt_37 : decode cX8_growsAt 37 = .ok (.iload 4, 2) := by decide +kernel
theorem dX8_growsAt_39 : decode cX8_growsAt 39 = .ok (.iload_n 2, 1) := by decide +kernel
theorem dX8_growsAt_40 : decode cX8_growsAt 40 = .ok (.if_icmp .ne 22, 3) := by decide +kernel
theorem dX8_growsAt_43 : decode cX8_growsAt 43 = .ok (.aload_n 0, 1) := by decide +kernel
theorem dX8_growsAt_44 : decode cX8_growsAt 44 = .ok (.getfield 44, 3) := by decide +kernel
theorem dX8_growsAt_47 : decode cX8_growsAt 47 = .ok (.iload_n 3, 1) := by decide +kernel
theorem dX8_growsAt_48 : decode cX8_growsAt 48 = .ok (.iaload, 1) := by decide +kernel
theorem dX8_growsAt_49 : decode cX8_growsAt 49 = .ok (.aload_n 0, 1) := by decide +kernel
theorem dX8_growsAt_50 : decode cX8_growsAt 50 = .ok (.getfield 44, 3) := by decide +kernel
theorem dX8_growsAt_53 : decode cX8_growsAt 53 = .ok (.iload_n 1, 1) := by decide +kernel
theorem dX8_growsAt_54 : decode cX8_growsAt 54 = .ok (.iaload, 1) := by decide +kernel
theorem dX8_growsAt_55 : decode cX8_growsAt 55 = .ok (.if_icmp .ge 7, 3) := by decide +kernel
theorem dX8_growsAt_58 : decode cX8_growsAt 58 = .ok (.iconst 1, 1) := by decide +kernel
theorem dX8_growsAt_59 : decode cX8_growsAt 59 = .ok (.goto 4, 3) := by decide +kernel
theorem dX8_growsAt_62 : decode cX8_growsAt 62 = .ok (.iconst 0, 1) := by decide +kernel
theorem dX8_growsAt_63 : decode cX8_growsAt 63 = .ok (.istore 5, 2) := by decide +kernel
theorem dX8_growsAt_65 : decode cX8_growsAt 65 = .ok (.iload 5, 2) := by decide +kernel
theorem dX8_growsAt_67 : decode cX8_growsAt 67 = .ok (.ifCond .eq 7, 3) := by decide +kernel
theorem dX8_growsAt_70 : decode cX8_growsAt 70 = .ok (.iload_n 3, 1) := by decide +kernel
theorem dX8_growsAt_71 : decode cX8_growsAt 71 = .ok (.goto 4, 3) := by decide +kernel
theorem dX8_growsAt_74 : decode cX8_growsAt 74 = .ok (.iload_n 1, 1) := by decide +kernel
theorem dX8_growsAt_75 : decode cX8_growsAt 75 = .ok (.istore_n 1, 1) := by decide +kernel
theorem dX8_growsAt_76 : decode cX8_growsAt 76 = .ok (.iload 5, 2) := by decide +kernel
theorem dX8_growsAt_78 : decode cX8_growsAt 78 = .ok (.ifCond .eq 8, 3) := by decide +kernel
theorem dX8_growsAt_81 : decode cX8_growsAt 81 = .ok (.iload 4, 2) := by decide +kernel
theorem dX8_growsAt_83 : decode cX8_growsAt 83 = .ok (.goto 4, 3) := by decide +kernel
theorem dX8_growsAt_86 : decode cX8_growsAt 86 = .ok (.iload_n 2, 1) := by decide +kernel
theorem dX8_growsAt_87 : decode cX8_growsAt 87 = .ok (.istore_n 2, 1) := by decide +kernel
theorem dX8_growsAt_88 : decode cX8_growsAt 88 = .ok (.iinc 3 1, 3) := by decide +kernel
theorem dX8_growsAt_91 : decode cX8_growsAt 91 = .ok (.goto (-80), 3) := by decide +kernel
theorem dX8_growsAt_94 : decode cX8_growsAt 94 = .ok (.iload_n 1, 1) := by decide +kernel
theorem dX8_growsAt_95 : decode cX8_growsAt 95 = .ok (.ireturn, 1) := by decide +kernel
set_option maxRecDepth 20000 in
theorem ggX8_padText_X8_within : GoodIn wsX8_padText wsX8_within := goodIn_r _ [6] (by decide +kernel) (by decide +kernel)
set_option maxRecDepth 20000 in
theorem gX8_padText_X8_within : GoodIn wsX8_padText (va_wsS RX8 64 yX8_within wsX8_within) := goodIn_app (goodIn_of _ (by decide +kernel)) ggX8_padText_X8_within
theorem dX8_padText_0 : decode cX8_padText 0 = .ok (.iconst 0, 1) := by decide +kernel
theorem dX8_padText_1 : decode cX8_padText 1 = .ok (.istore_n 2, 1) := by decide +kernel
theorem dX8_padText_2 : decode cX8_padText 2 = .ok (.aload_n 0, 1) := by decide +kernel
theorem dX8_padText_3 : decode cX8_padText 3 = .ok (.getfield 135, 3) := by decide +kernel
theorem dX8_padText_6 : decode cX8_padText 6 = .ok (.iconst 1, 1) := by decide +kernel
theorem dX8_padText_7 : decode cX8_padText 7 = .ok (.iload_n 1, 1) := by decide +kernel
theorem dX8_padText_8 : decode cX8_padText 8 = .ok (.invokestatic 64, 3) := by decide +kernel
theorem dX8_padText_11 : decode cX8_padText 11 = .ok (.istore_n 3, 1) := by decide +kernel
theorem dX8_padText_12 : decode cX8_padText 12 = .ok (.iconst 0, 1) := by decide +kernel
theorem dX8_padText_13 : decode cX8_padText 13 = .ok (.istore 4, 2) := by decide +kernel
theorem dX8_padText_15 : decode cX8_padText 15 = .ok (.iload 4, 2) := by decide +kernel
theorem dX8_padText_17 : decode cX8_padText 17 = .ok (.aload_n 0, 1) := by decide +kernel
theorem dX8_padText_18 : decode cX8_padText 18 = .ok (.getfield 135, 3) := by decide +kernel
theorem dX8_padText_21 : decode cX8_padText 21 = .ok (.if_icmp .ge 64, 3) := by decide +kernel
theorem dX8_padText_24 : decode cX8_padText 24 = .ok (.iload_n 3, 1) := by decide +kernel
theorem dX8_padText_25 : decode cX8_padText 25 = .ok (.ifCond .eq 24, 3) := by decide +kernel
theorem dX8_padText_28 : decode cX8_padText 28 = .ok (.aload_n 0, 1) := by decide +kernel
theorem dX8_padText_29 : decode cX8_padText 29 = .ok (.getfield 25, 3) := by decide +kernel
theorem dX8_padText_32 : decode cX8_padText 32 = .ok (.iload 4, 2) := by decide +kernel
theorem dX8_padText_34 : decode cX8_padText 34 = .ok (.iaload, 1) := by decide +kernel
theorem dX8_padText_35 : decode cX8_padText 35 = .ok (.bipush 97, 2) := by decide +kernel
theorem dX8_padText_37 : decode cX8_padText 37 = .ok (.bipush 102, 2) := by decide +kernel
theorem dX8_padText_39 : decode cX8_padText 39 = .ok (.invokestatic 64, 3) := by decide +kernel
theorem dX8_padText_42 : decode cX8_padText 42 = .ok (.ifCond .eq 7, 3) := by decide +kernel
theorem dX8_padText_45 : decode cX8_padText 45 = .ok (.iconst 1, 1) := by decide +kernel
theorem dX8_padText_46 : decode cX8_padText 46 = .ok (.goto 4, 3) := by decide +kernel
theorem dX8_padText_49 : decode cX8_padText 49 = .ok (.iconst 0, 1) := by decide +kernel
theorem dX8_padText_50 : decode cX8_padText 50 = .ok (.istore_n 3, 1) := by decide +kernel
theorem dX8_padText_51 : decode cX8_padText 51 = .ok (.iload 4, 2) := by decide +kernel
theorem dX8_padText_53 : decode cX8_padText 53 = .ok (.iconst 4, 1) := by decide +kernel
theorem dX8_padText_54 : decode cX8_padText 54 = .ok (.if_icmp .ge 23, 3) := by decide +kernel
theorem dX8_padText_57 : decode cX8_padText 57 = .ok (.bipush 7, 2) := by decide +kernel
theorem dX8_padText_59 : decode cX8_padText 59 = .ok (.iload_n 2, 1) := by decide +kernel
theorem dX8_padText_60 : decode cX8_padText 60 = .ok (.imul, 1) := by decide +kernel
theorem dX8_padText_61 : decode cX8_padText 61 = .ok (.aload_n 0, 1) := by decide +kernel
theorem dX8_padText_62 : decode cX8_padText 62 = .ok (.getfield 25, 3) := by decide +kernel
theorem dX8_padText_65 : decode cX8_padText 65 = .ok (.iload 4, 2) := by decide +kernel
theorem dX8_padText_67 : decode cX8_padText 67 = .ok (.iaload, 1) := by decide +kernel
theorem dX8_padText_68 : decode cX8_padText 68 = .ok (.iadd, 1) := by decide +kernel
theorem dX8_padText_69 : decode cX8_padText 69 = .ok (.bipush 97, 2) := by decide +kernel
theorem dX8_padText_71 : decode cX8_padText 71 = .ok (.isub, 1) := by decide +kernel
theorem dX8_padText_72 : decode cX8_padText 72 = .ok (.iconst 1, 1) := by decide +kernel
theorem dX8_padText_73 : decode cX8_padText 73 = .ok (.iadd, 1) := by decide +kernel
theorem dX8_padText_74 : decode cX8_padText 74 = .ok (.goto 4, 3) := by decide +kernel
theorem dX8_padText_77 : decode cX8_padText 77 = .ok (.iload_n 2, 1) := by decide +kernel
theorem dX8_padText_78 : decode cX8_padText 78 = .ok (.istore_n 2, 1) := by decide +kernel
theorem dX8_padText_79 : decode cX8_padText 79 = .ok (.iinc 4 1, 3) := by decide +kernel
theorem dX8_padText_82 : decode cX8_padText 82 = .ok (.goto (-67), 3) := by decide +kernel
theorem dX8_padText_85 : decode cX8_padText 85 = .ok (.iload_n 3, 1) := by decide +kernel
theorem dX8_padText_86 : decode cX8_padText 86 = .ok (.ifCond .eq 7, 3) := by decide +kernel
theorem dX8_padText_89 : decode cX8_padText 89 = .ok (.iload_n 2, 1) := by decide +kernel
theorem dX8_padText_90 : decode cX8_padText 90 = .ok (.goto 4, 3) := by decide +kernel
theorem dX8_padText_93 : decode cX8_padText 93 = .ok (.iconst 0, 1) := by decide +kernel
theorem dX8_padText_94 : decode cX8_padText 94 = .ok (.ireturn, 1) := by decide +kernel
set_option maxRecDepth 20000 in
theorem ggX8_whyNoPiece_X8_padText : GoodIn wsX8_whyNoPiece wsX8_padText := goodIn_r _ [6, 7, 8, 9, 10, 5, 11, 24, 25, 26, 27, 28, 29, 30, 31, 32, 33, 34, 35, 36, 37, 38, 39, 40, 41] (by decide +kernel) (by decide +kernel)
set_option maxRecDepth 20000 in
theorem gX8_whyNoPiece_X8_padText : GoodIn wsX8_whyNoPiece (wsV RX8 138 RX8 yX8_padText wsX8_padText) := goodIn_app (goodIn_of _ (by decide +kernel)) ggX8_whyNoPiece_X8_padText
set_option maxRecDepth 20000 in
theorem ggX8_whyNoPiece_X8_within : GoodIn wsX8_whyNoPiece wsX8_within := goodIn_r _ [11] (by decide +kernel) (by decide +kernel)
set_option maxRecDepth 20000 in
theorem gX8_whyNoPiece_X8_within : GoodIn wsX8_whyNoPiece (va_wsS RX8 64 yX8_within wsX8_within) := goodIn_app (goodIn_of _ (by decide +kernel)) ggX8_whyNoPiece_X8_within
set_option maxRecDepth 20000 in
theorem ggX8_whyNoPiece_X8_pieceOf : GoodIn wsX8_whyNoPiece wsX8_pieceOf := goodIn_r _ [15, 1, 16, 17, 18, 5, 19, 20, 21, 22, 23, 24, 25, 26, 27, 28, 29, 30, 31, 32, 33, 34, 35, 36, 37, 38, 39, 40, 41] (by decide +kernel) (by decide +kernel)
set_option maxRecDepth 20000 in
theorem gX8_whyNoPiece_X8_pieceOf : GoodIn wsX8_whyNoPiece (wsV RX8 86 RX8 yX8_pieceOf wsX8_pieceOf) := goodIn_app (goodIn_of _ (by decide +kernel)) ggX8_whyNoPiece_X8_pieceOf
theorem dX8_whyNoPiece_0 : decode cX8_whyNoPiece 0 = .ok (.aload_n 0, 1) := by decide +kernel
theorem dX8_whyNoPiece_1 : decode cX8_whyNoPiece 1 = .ok (.iconst 4, 1) := by decide +kernel
theorem dX8_whyNoPiece_2 : decode cX8_whyNoPiece 2 = .ok (.invokevirtual 138, 3) := by decide +kernel
theorem dX8_whyNoPiece_5 : decode cX8_whyNoPiece 5 = .ok (.istore_n 2, 1) := by decide +kernel
theorem dX8_whyNoPiece_6 : decode cX8_whyNoPiece 6 = .ok (.iload_n 2, 1) := by decide +kernel
theorem dX8_whyNoPiece_7 : decode cX8_whyNoPiece 7 = .ok (.ifCond .ne 6, 3) := by decide +kernel
theorem dX8_whyNoPiece_10 : decode cX8_whyNoPiece 10 = .ok (.bipush (-3), 2) := by decide +kernel
theorem dX8_whyNoPiece_12 : decode cX8_whyNoPiece 12 = .ok (.ireturn, 1) := by decide +kernel
theorem dX8_whyNoPiece_13 : decode cX8_whyNoPiece 13 = .ok (.iload_n 1, 1) := by decide +kernel
theorem dX8_whyNoPiece_14 : decode cX8_whyNoPiece 14 = .ok (.iconst 1, 1) := by decide +kernel
theorem dX8_whyNoPiece_15 : decode cX8_whyNoPiece 15 = .ok (.bipush 9, 2) := by decide +kernel
theorem dX8_whyNoPiece_17 : decode cX8_whyNoPiece 17 = .ok (.invokestatic 64, 3) := by decide +kernel
theorem dX8_whyNoPiece_20 : decode cX8_whyNoPiece 20 = .ok (.ifCond .ne 6, 3) := by decide +kernel
theorem dX8_whyNoPiece_23 : decode cX8_whyNoPiece 23 = .ok (.bipush (-2), 2) := by decide +kernel
theorem dX8_whyNoPiece_25 : decode cX8_whyNoPiece 25 = .ok (.ireturn, 1) := by decide +kernel
theorem dX8_whyNoPiece_26 : decode cX8_whyNoPiece 26 = .ok (.aload_n 0, 1) := by decide +kernel
theorem dX8_whyNoPiece_27 : decode cX8_whyNoPiece 27 = .ok (.getfield 7, 3) := by decide +kernel
theorem dX8_whyNoPiece_30 : decode cX8_whyNoPiece 30 = .ok (.iconst 0, 1) := by decide +kernel
theorem dX8_whyNoPiece_31 : decode cX8_whyNoPiece 31 = .ok (.iaload, 1) := by decide +kernel
theorem dX8_whyNoPiece_32 : decode cX8_whyNoPiece 32 = .ok (.bipush 16, 2) := by decide +kernel
theorem dX8_whyNoPiece_34 : decode cX8_whyNoPiece 34 = .ok (.if_icmp .ne 8, 3) := by decide +kernel
theorem dX8_whyNoPiece_37 : decode cX8_whyNoPiece 37 = .ok (.bipush (-4), 2) := by decide +kernel
theorem dX8_whyNoPiece_39 : decode cX8_whyNoPiece 39 = .ok (.goto 19, 3) := by decide +kernel
theorem dX8_whyNoPiece_42 : decode cX8_whyNoPiece 42 = .ok (.aload_n 0, 1) := by decide +kernel
theorem dX8_whyNoPiece_43 : decode cX8_whyNoPiece 43 = .ok (.iload_n 2, 1) := by decide +kernel
theorem dX8_whyNoPiece_44 : decode cX8_whyNoPiece 44 = .ok (.invokevirtual 86, 3) := by decide +kernel
theorem dX8_whyNoPiece_47 : decode cX8_whyNoPiece 47 = .ok (.bipush (-6), 2) := by decide +kernel
theorem dX8_whyNoPiece_49 : decode cX8_whyNoPiece 49 = .ok (.if_icmp .eq 8, 3) := by decide +kernel
theorem dX8_whyNoPiece_52 : decode cX8_whyNoPiece 52 = .ok (.bipush (-5), 2) := by decide +kernel
theorem dX8_whyNoPiece_54 : decode cX8_whyNoPiece 54 = .ok (.goto 4, 3) := by decide +kernel
theorem dX8_whyNoPiece_57 : decode cX8_whyNoPiece 57 = .ok (.iconst 0, 1) := by decide +kernel
theorem dX8_whyNoPiece_58 : decode cX8_whyNoPiece 58 = .ok (.ireturn, 1) := by decide +kernel
set_option maxRecDepth 20000 in
theorem ggX8_piece_X8_whyNoPiece : GoodIn wsX8_piece wsX8_whyNoPiece := goodIn_r _ [6, 7, 8, 9, 10, 5, 11, 1, 12, 13, 14, 15, 16, 17, 18, 19, 20, 21, 22, 23, 24, 25, 26, 27, 47, 48, 49, 50, 51, 52, 53, 54, 55, 56, 57, 58, 59, 60, 61, 62, 63, 64] (by decide +kernel) (by decide +kernel)
set_option maxRecDepth 20000 in
theorem gX8_piece_X8_whyNoPiece : GoodIn wsX8_piece (wsV RX8 141 RX8 yX8_whyNoPiece wsX8_whyNoPiece) := goodIn_app (goodIn_of _ (by decide +kernel)) ggX8_piece_X8_whyNoPiece
set_option maxRecDepth 20000 in
theorem ggX8_piece_X8_record : GoodIn wsX8_piece wsX8_record := goodIn_r _ [31, 32, 33, 7, 34, 35, 5, 36, 47, 48, 49, 50, 51, 52, 53, 54, 55, 56, 57, 58, 59, 60, 61, 62, 63, 64] (by decide +kernel) (by decide +kernel)
set_option maxRecDepth 20000 in
theorem gX8_piece_X8_record : GoodIn wsX8_piece (wsV RX8 144 RX8 yX8_record wsX8_record) := goodIn_app (goodIn_of _ (by decide +kernel)) ggX8_piece_X8_record
set_option maxRecDepth 20000 in
theorem ggX8_piece_X8_padText : GoodIn wsX8_piece wsX8_padText := goodIn_r _ [11, 1, 12, 13, 14, 5, 15, 47, 48, 49, 50, 51, 52, 53, 54, 55, 56, 57, 58, 59, 60, 61, 62, 63, 64] (by decide +kernel) (by decide +kernel)
set_option maxRecDepth 20000 in
theorem gX8_piece_X8_padText : GoodIn wsX8_piece (wsV RX8 138 RX8 yX8_padText wsX8_padText) := goodIn_app (goodIn_of _ (by decide +kernel)) ggX8_piece_X8_padText
set_option maxRecDepth 20000 in
theorem ggX8_piece_X8_addPiece : GoodIn wsX8_piece wsX8_addPiece := goodIn_r _ [40, 7, 41, 42, 5, 43, 44, 45, 46, 47, 48, 49, 50, 51, 52, 53, 54, 55, 56, 57, 58, 59, 60, 61, 62, 63, 64] (by decide +kernel) (by decide +kernel)
set_option maxRecDepth 20000 in
theorem gX8_piece_X8_addPiece : GoodIn wsX8_piece (wsV RX8 147 RX8 yX8_addPiece wsX8_addPiece) := goodIn_app (goodIn_of _ (by decide +kernel)) ggX8_piece_X8_addPiece
theorem dX8_piece_0 : decode cX8_piece 0 = .ok (.aload_n 0, 1) := by decide +kernel
theorem dX8_piece_1 : decode cX8_piece 1 = .ok (.iload_n 1, 1) := by decide +kernel
theorem dX8_piece_2 : decode cX8_piece 2 = .ok (.invokevirtual 141, 3) := by decide +kernel
theorem dX8_piece_5 : decode cX8_piece 5 = .ok (.istore_n 2, 1) := by decide +kernel
theorem dX8_piece_6 : decode cX8_piece 6 = .ok (.iload_n 2, 1) := by decide +kernel
theorem dX8_piece_7 : decode cX8_piece 7 = .ok (.ifCond .ge 5, 3) := by decide +kernel
theorem dX8_piece_10 : decode cX8_piece 10 = .ok (.iload_n 2, 1) := by decide +kernel
theorem dX8_piece_11 : decode cX8_piece 11 = .ok (.ireturn, 1) := by decide +kernel
theorem dX8_piece_12 : decode cX8_piece 12 = .ok (.aload_n 0, 1) := by decide +kernel
theorem dX8_piece_13 : decode cX8_piece 13 = .ok (.invokevirtual 144, 3) := by decide +kernel
theorem dX8_piece_16 : decode cX8_piece 16 = .ok (.aload_n 0, 1) := by decide +kernel
theorem dX8_piece_17 : decode cX8_piece 17 = .ok (.aload_n 0, 1) := by decide +kernel
theorem dX8_piece_18 : decode cX8_piece 18 = .ok (.iconst 4, 1) := by decide +kernel
theorem dX8_piece_19 : decode cX8_piece 19 = .ok (.invokevirtual 138, 3) := by decide +kernel
theorem dX8_piece_22 : decode cX8_piece 22 = .ok (.iload_n 1, 1) := by decide +kernel
theorem dX8_piece_23 : decode cX8_piece 23 = .ok (.invokevirtual 147, 3) := by decide +kernel
theorem dX8_piece_26 : decode cX8_piece 26 = .ok (.istore_n 3, 1) := by decide +kernel
theorem dX8_piece_27 : decode cX8_piece 27 = .ok (.aload_n 0, 1) := by decide +kernel
theorem dX8_piece_28 : decode cX8_piece 28 = .ok (.iconst 0, 1) := by decide +kernel
theorem dX8_piece_29 : decode cX8_piece 29 = .ok (.putfield 135, 3) := by decide +kernel
theorem dX8_piece_32 : decode cX8_piece 32 = .ok (.iload_n 3, 1) := by decide +kernel
theorem dX8_piece_33 : decode cX8_piece 33 = .ok (.ireturn, 1) := by decide +kernel
set_option maxRecDepth 20000 in
theorem ggX8_weigh_X8_isPiece : GoodIn wsX8_weigh wsX8_isPiece := goodIn_r _ [6, 1, 7, 8, 5, 9, 23, 24, 25, 26, 27, 28, 29, 30, 31, 32, 33, 34, 35, 36, 37, 38, 39, 40] (by decide +kernel) (by decide +kernel)
set_option maxRecDepth 20000 in
theorem gX8_weigh_X8_isPiece : GoodIn wsX8_weigh (wsV RX8 150 RX8 yX8_isPiece wsX8_isPiece) := goodIn_app (goodIn_of _ (by decide +kernel)) ggX8_weigh_X8_isPiece
set_option maxRecDepth 20000 in
theorem ggX8_weigh_X8_within : GoodIn wsX8_weigh wsX8_within := goodIn_r _ [9] (by decide +kernel) (by decide +kernel)
set_option maxRecDepth 20000 in
theorem gX8_weigh_X8_within : GoodIn wsX8_weigh (va_wsS RX8 64 yX8_within wsX8_within) := goodIn_app (goodIn_of _ (by decide +kernel)) ggX8_weigh_X8_within
set_option maxRecDepth 20000 in
theorem ggX8_weigh_X8_record : GoodIn wsX8_weigh wsX8_record := goodIn_r _ [13, 14, 15, 1, 16, 17, 5, 18, 23, 24, 25, 26, 27, 28, 29, 30, 31, 32, 33, 34, 35, 36, 37, 38, 39, 40] (by decide +kernel) (by decide +kernel)
set_option maxRecDepth 20000 in
theorem gX8_weigh_X8_record : GoodIn wsX8_weigh (wsV RX8 144 RX8 yX8_record wsX8_record) := goodIn_app (goodIn_of _ (by decide +kernel)) ggX8_weigh_X8_record
set_option maxRecDepth 20000 in
theorem ggX8_weigh_X8_piecePart : GoodIn wsX8_weigh wsX8_piecePart := goodIn_r _ [22, 1, 23, 24, 25, 26, 27, 28, 29, 30, 31, 32, 33, 34, 35, 36, 37, 38, 39, 40] (by decide +kernel) (by decide +kernel)
set_option maxRecDepth 20000 in
theorem gX8_weigh_X8_piecePart : GoodIn wsX8_weigh (wsV RX8 68 RX8 yX8_piecePart wsX8_piecePart) := goodIn_app (goodIn_of _ (by decide +kernel)) ggX8_weigh_X8_piecePart
theorem dX8_weigh_0 : decode cX8_weigh 0 = .ok (.aload_n 0, 1) := by decide +kernel
theorem dX8_weigh_1 : decode cX8_weigh 1 = .ok (.iload_n 1, 1) := by decide +kernel
theorem dX8_weigh_2 : decode cX8_weigh 2 = .ok (.invokevirtual 150, 3) := by decide +kernel
theorem dX8_weigh_5 : decode cX8_weigh 5 = .ok (.ifCond .eq 13, 3) := by decide +kernel
theorem dX8_weigh_8 : decode cX8_weigh 8 = .ok (.iload_n 2, 1) := by decide +kernel
theorem dX8_weigh_9 : decode cX8_weigh 9 = .ok (.iconst 1, 1) := by decide +kernel
theorem dX8_weigh_10 : decode cX8_weigh 10 = .ok (.bipush 9, 2) := by decide +kernel
theorem dX8_weigh_12 : decode cX8_weigh 12 = .ok (.invokestatic 64, 3) := by decide +kernel
theorem dX8_weigh_15 : decode cX8_weigh 15 = .ok (.ifCond .ne 18, 3) := by decide +kernel
theorem dX8_weigh_18 : decode cX8_weigh 18 = .ok (.aload_n 0, 1) := by decide +kernel
theorem dX8_weigh_19 : decode cX8_weigh 19 = .ok (.iload_n 1, 1) := by decide +kernel
theorem dX8_weigh_20 : decode cX8_weigh 20 = .ok (.invokevirtual 150, 3) := by decide +kernel
theorem dX8_weigh_23 : decode cX8_weigh 23 = .ok (.ifCond .eq 8, 3) := by decide +kernel
theorem dX8_weigh_26 : decode cX8_weigh 26 = .ok (.bipush (-2), 2) := by decide +kernel
theorem dX8_weigh_28 : decode cX8_weigh 28 = .ok (.goto 4, 3) := by decide +kernel
theorem dX8_weigh_31 : decode cX8_weigh 31 = .ok (.iconst (-1), 1) := by decide +kernel
theorem dX8_weigh_32 : decode cX8_weigh 32 = .ok (.ireturn, 1) := by decide +kernel
theorem dX8_weigh_33 : decode cX8_weigh 33 = .ok (.aload_n 0, 1) := by decide +kernel
theorem dX8_weigh_34 : decode cX8_weigh 34 = .ok (.invokevirtual 144, 3) := by decide +kernel
theorem dX8_weigh_37 : decode cX8_weigh 37 = .ok (.aload_n 0, 1) := by decide +kernel
theorem dX8_weigh_38 : decode cX8_weigh 38 = .ok (.iload_n 1, 1) := by decide +kernel
theorem dX8_weigh_39 : decode cX8_weigh 39 = .ok (.iconst 1, 1) := by decide +kernel
theorem dX8_weigh_40 : decode cX8_weigh 40 = .ok (.invokevirtual 68, 3) := by decide +kernel
theorem dX8_weigh_43 : decode cX8_weigh 43 = .ok (.istore_n 3, 1) := by decide +kernel
theorem dX8_weigh_44 : decode cX8_weigh 44 = .ok (.aload_n 0, 1) := by decide +kernel
theorem dX8_weigh_45 : decode cX8_weigh 45 = .ok (.getfield 7, 3) := by decide +kernel
theorem dX8_weigh_48 : decode cX8_weigh 48 = .ok (.iconst 2, 1) := by decide +kernel
theorem dX8_weigh_49 : decode cX8_weigh 49 = .ok (.bipush 6, 2) := by decide +kernel
theorem dX8_weigh_51 : decode cX8_weigh 51 = .ok (.iload_n 1, 1) := by decide +kernel
theorem dX8_weigh_52 : decode cX8_weigh 52 = .ok (.imul, 1) := by decide +kernel
theorem dX8_weigh_53 : decode cX8_weigh 53 = .ok (.iadd, 1) := by decide +kernel
theorem dX8_weigh_54 : decode cX8_weigh 54 = .ok (.iconst 1, 1) := by decide +kernel
theorem dX8_weigh_55 : decode cX8_weigh 55 = .ok (.iadd, 1) := by decide +kernel
theorem dX8_weigh_56 : decode cX8_weigh 56 = .ok (.iload_n 2, 1) := by decide +kernel
theorem dX8_weigh_57 : decode cX8_weigh 57 = .ok (.iastore, 1) := by decide +kernel
theorem dX8_weigh_58 : decode cX8_weigh 58 = .ok (.iload_n 3, 1) := by decide +kernel
theorem dX8_weigh_59 : decode cX8_weigh 59 = .ok (.ireturn, 1) := by decide +kernel
set_option maxRecDepth 20000 in
theorem ggX8_drop_X8_isPiece : GoodIn wsX8_drop wsX8_isPiece := goodIn_r _ [6, 1, 7, 8, 5, 9, 23, 24, 25, 26, 27, 28, 29, 30, 31, 32, 33, 34, 35, 36, 37, 38, 39, 40] (by decide +kernel) (by decide +kernel)
set_option maxRecDepth 20000 in
theorem gX8_drop_X8_isPiece : GoodIn wsX8_drop (wsV RX8 150 RX8 yX8_isPiece wsX8_isPiece) := goodIn_app (goodIn_of _ (by decide +kernel)) ggX8_drop_X8_isPiece
set_option maxRecDepth 20000 in
theorem ggX8_drop_X8_record : GoodIn wsX8_drop wsX8_record := goodIn_r _ [13, 14, 15, 1, 16, 17, 5, 18, 23, 24, 25, 26, 27, 28, 29, 30, 31, 32, 33, 34, 35, 36, 37, 38, 39, 40] (by decide +kernel) (by decide +kernel)
set_option maxRecDepth 20000 in
theorem gX8_drop_X8_record : GoodIn wsX8_drop (wsV RX8 144 RX8 yX8_record wsX8_record) := goodIn_app (goodIn_of _ (by decide +kernel)) ggX8_drop_X8_record
set_option maxRecDepth 20000 in
theorem ggX8_drop_X8_dropPiece : GoodIn wsX8_drop wsX8_dropPiece := goodIn_r _ [22, 1, 23, 24, 25, 26, 27, 28, 29, 30, 31, 32, 33, 34, 35, 36, 37, 38, 39, 40] (by decide +kernel) (by decide +kernel)
set_option maxRecDepth 20000 in
theorem gX8_drop_X8_dropPiece : GoodIn wsX8_drop (wsV RX8 117 RX8 yX8_dropPiece wsX8_dropPiece) := goodIn_app (goodIn_of _ (by decide +kernel)) ggX8_drop_X8_dropPiece
theorem dX8_drop_0 : decode cX8_drop 0 = .ok (.aload_n 0, 1) := by decide +kernel
theorem dX8_drop_1 : decode cX8_drop 1 = .ok (.iload_n 1, 1) := by decide +kernel
theorem dX8_drop_2 : decode cX8_drop 2 = .ok (.invokevirtual 150, 3) := by decide +kernel
theorem dX8_drop_5 : decode cX8_drop 5 = .ok (.ifCond .ne 5, 3) := by decide +kernel
theorem dX8_drop_8 : decode cX8_drop 8 = .ok (.iconst (-1), 1) := by decide +kernel
theorem dX8_drop_9 : decode cX8_drop 9 = .ok (.ireturn, 1) := by decide +kernel
theorem dX8_drop_10 : decode cX8_drop 10 = .ok (.aload_n 0, 1) := by decide +kernel
theorem dX8_drop_11 : decode cX8_drop 11 = .ok (.invokevirtual 144, 3) := by decide +kernel
theorem dX8_drop_14 : decode cX8_drop 14 = .ok (.aload_n 0, 1) := by decide +kernel
theorem dX8_drop_15 : decode cX8_drop 15 = .ok (.iload_n 1, 1) := by decide +kernel
theorem dX8_drop_16 : decode cX8_drop 16 = .ok (.invokevirtual 117, 3) := by decide +kernel
theorem dX8_drop_19 : decode cX8_drop 19 = .ok (.aload_n 0, 1) := by decide +kernel
theorem dX8_drop_20 : decode cX8_drop 20 = .ok (.getfield 7, 3) := by decide +kernel
theorem dX8_drop_23 : decode cX8_drop 23 = .ok (.iconst 0, 1) := by decide +kernel
theorem dX8_drop_24 : decode cX8_drop 24 = .ok (.iaload, 1) := by decide +kernel
theorem dX8_drop_25 : decode cX8_drop 25 = .ok (.ireturn, 1) := by decide +kernel
set_option maxRecDepth 20000 in
theorem ggX8_word_X8_padText : GoodIn wsX8_word wsX8_padText := goodIn_r _ [8, 2, 3, 9, 10, 7, 11, 21, 22, 23, 24, 25, 26, 27, 28, 29, 30, 31, 32, 33, 34, 35, 36, 37, 38] (by decide +kernel) (by decide +kernel)
set_option maxRecDepth 20000 in
theorem gX8_word_X8_padText : GoodIn wsX8_word (wsV RX8 138 RX8 yX8_padText wsX8_padText) := goodIn_app (goodIn_of _ (by decide +kernel)) ggX8_word_X8_padText
set_option maxRecDepth 20000 in
theorem ggX8_word_X8_within : GoodIn wsX8_word wsX8_within := goodIn_r _ [11] (by decide +kernel) (by decide +kernel)
set_option maxRecDepth 20000 in
theorem gX8_word_X8_within : GoodIn wsX8_word (va_wsS RX8 64 yX8_within wsX8_within) := goodIn_app (goodIn_of _ (by decide +kernel)) ggX8_word_X8_within
set_option maxRecDepth 20000 in
theorem ggX8_word_X8_record : GoodIn wsX8_word wsX8_record := goodIn_r _ [15, 16, 17, 1, 18, 19, 7, 20, 21, 22, 23, 24, 25, 26, 27, 28, 29, 30, 31, 32, 33, 34, 35, 36, 37, 38] (by decide +kernel) (by decide +kernel)
set_option maxRecDepth 20000 in
theorem gX8_word_X8_record : GoodIn wsX8_word (wsV RX8 144 RX8 yX8_record wsX8_record) := goodIn_app (goodIn_of _ (by decide +kernel)) ggX8_word_X8_record
theorem dX8_word_0 : decode cX8_word 0 = .ok (.aload_n 0, 1) := by decide +kernel
theorem dX8_word_1 : decode cX8_word 1 = .ok (.bipush 12, 2) := by decide +kernel
theorem dX8_word_3 : decode cX8_word 3 = .ok (.invokevirtual 138, 3) := by decide +kernel
theorem dX8_word_6 : decode cX8_word 6 = .ok (.ifCond .ne 6, 3) := by decide +kernel
theorem dX8_word_9 : decode cX8_word 9 = .ok (.bipush (-3), 2) := by decide +kernel
theorem dX8_word_11 : decode cX8_word 11 = .ok (.ireturn, 1) := by decide +kernel
theorem dX8_word_12 : decode cX8_word 12 = .ok (.iload_n 1, 1) := by decide +kernel
theorem dX8_word_13 : decode cX8_word 13 = .ok (.iconst 1, 1) := by decide +kernel
theorem dX8_word_14 : decode cX8_word 14 = .ok (.bipush 99, 2) := by decide +kernel
theorem dX8_word_16 : decode cX8_word 16 = .ok (.invokestatic 64, 3) := by decide +kernel
theorem dX8_word_19 : decode cX8_word 19 = .ok (.ifCond .ne 6, 3) := by decide +kernel
theorem dX8_word_22 : decode cX8_word 22 = .ok (.bipush (-2), 2) := by decide +kernel
theorem dX8_word_24 : decode cX8_word 24 = .ok (.ireturn, 1) := by decide +kernel
theorem dX8_word_25 : decode cX8_word 25 = .ok (.aload_n 0, 1) := by decide +kernel
theorem dX8_word_26 : decode cX8_word 26 = .ok (.getfield 7, 3) := by decide +kernel
theorem dX8_word_29 : decode cX8_word 29 = .ok (.iconst 1, 1) := by decide +kernel
theorem dX8_word_30 : decode cX8_word 30 = .ok (.iaload, 1) := by decide +kernel
theorem dX8_word_31 : decode cX8_word 31 = .ok (.bipush 8, 2) := by decide +kernel
theorem dX8_word_33 : decode cX8_word 33 = .ok (.if_icmp .ne 6, 3) := by decide +kernel
theorem dX8_word_36 : decode cX8_word 36 = .ok (.bipush (-4), 2) := by decide +kernel
theorem dX8_word_38 : decode cX8_word 38 = .ok (.ireturn, 1) := by decide +kernel
theorem dX8_word_39 : decode cX8_word 39 = .ok (.aload_n 0, 1) := by decide +kernel
theorem dX8_word_40 : decode cX8_word 40 = .ok (.invokevirtual 144, 3) := by decide +kernel
theorem dX8_word_43 : decode cX8_word 43 = .ok (.aload_n 0, 1) := by decide +kernel
theorem dX8_word_44 : decode cX8_word 44 = .ok (.getfield 7, 3) := by decide +kernel
theorem dX8_word_47 : decode cX8_word 47 = .ok (.iconst 1, 1) := by decide +kernel
theorem dX8_word_48 : decode cX8_word 48 = .ok (.iaload, 1) := by decide +kernel
theorem dX8_word_49 : decode cX8_word 49 = .ok (.istore_n 2, 1) := by decide +kernel
theorem dX8_word_50 : decode cX8_word 50 = .ok (.bipush 98, 2) := by decide +kernel
theorem dX8_word_52 : decode cX8_word 52 = .ok (.bipush 14, 2) := by decide +kernel
theorem dX8_word_54 : decode cX8_word 54 = .ok (.iload_n 2, 1) := by decide +kernel
theorem dX8_word_55 : decode cX8_word 55 = .ok (.imul, 1) := by decide +kernel
theorem dX8_word_56 : decode cX8_word 56 = .ok (.iadd, 1) := by decide +kernel
theorem dX8_word_57 : decode cX8_word 57 = .ok (.istore_n 3, 1) := by decide +kernel
theorem dX8_word_58 : decode cX8_word 58 = .ok (.aload_n 0, 1) := by decide +kernel
theorem dX8_word_59 : decode cX8_word 59 = .ok (.getfield 7, 3) := by decide +kernel
theorem dX8_word_62 : decode cX8_word 62 = .ok (.iload_n 3, 1) := by decide +kernel
theorem dX8_word_63 : decode cX8_word 63 = .ok (.iconst 0, 1) := by decide +kernel
