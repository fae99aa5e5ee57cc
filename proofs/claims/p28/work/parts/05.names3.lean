theorem dX7_tune_74 : decode cX7_tune 74 = .ok (.iaload, 1) := by decide +kernel
theorem dX7_tune_75 : decode cX7_tune 75 = .ok (.imul, 1) := by decide +kernel
theorem dX7_tune_76 : decode cX7_tune 76 = .ok (.iload_n 1, 1) := by decide +kernel
theorem dX7_tune_77 : decode cX7_tune 77 = .ok (.idiv, 1) := by decide +kernel
theorem dX7_tune_78 : decode cX7_tune 78 = .ok (.iadd, 1) := by decide +kernel
theorem dX7_tune_79 : decode cX7_tune 79 = .ok (.goto 4, 3) := by decide +kernel
theorem dX7_tune_82 : decode cX7_tune 82 = .ok (.iconst 1, 1) := by decide +kernel
theorem dX7_tune_83 : decode cX7_tune 83 = .ok (.istore 4, 2) := by decide +kernel
theorem dX7_tune_85 : decode cX7_tune 85 = .ok (.aload_n 0, 1) := by decide +kernel
theorem dX7_tune_86 : decode cX7_tune 86 = .ok (.getfield 10, 3) := by decide +kernel
theorem dX7_tune_89 : decode cX7_tune 89 = .ok (.getfield 103, 3) := by decide +kernel
theorem dX7_tune_92 : decode cX7_tune 92 = .ok (.iload_n 3, 1) := by decide +kernel
theorem dX7_tune_93 : decode cX7_tune 93 = .ok (.iaload, 1) := by decide +kernel
theorem dX7_tune_94 : decode cX7_tune 94 = .ok (.iload 4, 2) := by decide +kernel
theorem dX7_tune_96 : decode cX7_tune 96 = .ok (.if_icmp .eq 17, 3) := by decide +kernel
theorem dX7_tune_99 : decode cX7_tune 99 = .ok (.aload_n 0, 1) := by decide +kernel
theorem dX7_tune_100 : decode cX7_tune 100 = .ok (.getfield 10, 3) := by decide +kernel
theorem dX7_tune_103 : decode cX7_tune 103 = .ok (.getfield 103, 3) := by decide +kernel
theorem dX7_tune_106 : decode cX7_tune 106 = .ok (.iload_n 3, 1) := by decide +kernel
theorem dX7_tune_107 : decode cX7_tune 107 = .ok (.iload 4, 2) := by decide +kernel
theorem dX7_tune_109 : decode cX7_tune 109 = .ok (.iastore, 1) := by decide +kernel
theorem dX7_tune_110 : decode cX7_tune 110 = .ok (.iinc 2 1, 3) := by decide +kernel
theorem dX7_tune_113 : decode cX7_tune 113 = .ok (.iinc 3 1, 3) := by decide +kernel
theorem dX7_tune_116 : decode cX7_tune 116 = .ok (.goto (-65), 3) := by decide +kernel
theorem dX7_tune_119 : decode cX7_tune 119 = .ok (.iload_n 2, 1) := by decide +kernel
theorem dX7_tune_120 : decode cX7_tune 120 = .ok (.ireturn, 1) := by decide +kernel
set_option maxRecDepth 20000 in
theorem ggX7_shrink_X3_record : GoodIn wsX7_shrink wsX3_record := goodIn_r _ [8, 9, 10, 11, 12, 13, 7, 14, 15, 16, 17, 18, 19, 20, 21, 22, 23, 24, 25, 26, 27, 28, 29, 30, 31, 142, 143, 134, 135, 136, 137, 138, 139, 140, 141] (by decide +kernel) (by decide +kernel)
set_option maxRecDepth 20000 in
theorem gX7_shrink_X3_record : GoodIn wsX7_shrink (wsV RX7 80 RX3 yX3_record wsX3_record) := goodIn_app (goodIn_of _ (by decide +kernel)) ggX7_shrink_X3_record
set_option maxRecDepth 20000 in
theorem ggX7_shrink_X7_findLeast : GoodIn wsX7_shrink wsX7_findLeast := goodIn_r _ [36, 2, 3, 37, 38, 39, 40, 41, 35, 42, 43, 44, 45, 46, 47, 48, 49, 50, 51, 52, 53, 54, 55, 56, 57, 58, 59, 60, 23, 24, 25, 61, 62, 63, 64, 65, 66, 67, 68, 69, 70, 71, 72, 73, 18, 74, 31, 75, 76, 77, 78, 79, 80, 81, 20, 21, 82, 83, 84, 85, 86, 87, 88, 89, 90, 91, 92, 93, 94, 95, 96, 97, 98, 99, 100, 101, 102, 103, 104, 105, 106, 107, 108, 109, 110, 111, 112, 113, 114, 115, 116, 117, 122, 123, 124, 125, 126, 127, 128, 129, 130, 131, 132, 133, 134, 135, 136, 137, 138, 139, 140, 141, 144, 145, 146, 147, 148, 149, 150, 151, 152, 153, 154, 155] (by decide +kernel) (by decide +kernel)
set_option maxRecDepth 20000 in
theorem gX7_shrink_X7_findLeast : GoodIn wsX7_shrink (wsV RX7 149 RX7 yX7_findLeast wsX7_findLeast) := goodIn_app (goodIn_of _ (by decide +kernel)) ggX7_shrink_X7_findLeast
set_option maxRecDepth 20000 in
theorem ggX7_shrink_X2_removePiece : GoodIn wsX7_shrink wsX2_removePiece := goodIn_r _ [121, 20, 21, 22, 23, 24, 25, 26, 27, 134, 135, 136, 137, 138, 139, 140, 141] (by decide +kernel) (by decide +kernel)
set_option maxRecDepth 20000 in
theorem gX7_shrink_X2_removePiece : GoodIn wsX7_shrink (wsV RX7 106 RX2 yX2_removePiece wsX2_removePiece) := goodIn_app (goodIn_of _ (by decide +kernel)) ggX7_shrink_X2_removePiece
theorem dX7_shrink_0 : decode cX7_shrink 0 = .ok (.iload_n 1, 1) := by decide +kernel
theorem dX7_shrink_1 : decode cX7_shrink 1 = .ok (.ifCond .lt 9, 3) := by decide +kernel
theorem dX7_shrink_4 : decode cX7_shrink 4 = .ok (.iload_n 1, 1) := by decide +kernel
theorem dX7_shrink_5 : decode cX7_shrink 5 = .ok (.bipush 16, 2) := by decide +kernel
theorem dX7_shrink_7 : decode cX7_shrink 7 = .ok (.if_icmp .le 6, 3) := by decide +kernel
theorem dX7_shrink_10 : decode cX7_shrink 10 = .ok (.bipush (-2), 2) := by decide +kernel
theorem dX7_shrink_12 : decode cX7_shrink 12 = .ok (.ireturn, 1) := by decide +kernel
theorem dX7_shrink_13 : decode cX7_shrink 13 = .ok (.aload_n 0, 1) := by decide +kernel
theorem dX7_shrink_14 : decode cX7_shrink 14 = .ok (.getfield 30, 3) := by decide +kernel
theorem dX7_shrink_17 : decode cX7_shrink 17 = .ok (.aload_n 0, 1) := by decide +kernel
theorem dX7_shrink_18 : decode cX7_shrink 18 = .ok (.getfield 10, 3) := by decide +kernel
theorem dX7_shrink_21 : decode cX7_shrink 21 = .ok (.invokevirtual 80, 3) := by decide +kernel
theorem dX7_shrink_24 : decode cX7_shrink 24 = .ok (.aload_n 0, 1) := by decide +kernel
theorem dX7_shrink_25 : decode cX7_shrink 25 = .ok (.getfield 10, 3) := by decide +kernel
theorem dX7_shrink_28 : decode cX7_shrink 28 = .ok (.getfield 96, 3) := by decide +kernel
theorem dX7_shrink_31 : decode cX7_shrink 31 = .ok (.istore_n 2, 1) := by decide +kernel
theorem dX7_shrink_32 : decode cX7_shrink 32 = .ok (.iload_n 2, 1) := by decide +kernel
theorem dX7_shrink_33 : decode cX7_shrink 33 = .ok (.istore_n 3, 1) := by decide +kernel
theorem dX7_shrink_34 : decode cX7_shrink 34 = .ok (.iload_n 3, 1) := by decide +kernel
theorem dX7_shrink_35 : decode cX7_shrink 35 = .ok (.iload_n 1, 1) := by decide +kernel
theorem dX7_shrink_36 : decode cX7_shrink 36 = .ok (.if_icmp .le 20, 3) := by decide +kernel
theorem dX7_shrink_39 : decode cX7_shrink 39 = .ok (.aload_n 0, 1) := by decide +kernel
theorem dX7_shrink_40 : decode cX7_shrink 40 = .ok (.getfield 10, 3) := by decide +kernel
theorem dX7_shrink_43 : decode cX7_shrink 43 = .ok (.aload_n 0, 1) := by decide +kernel
theorem dX7_shrink_44 : decode cX7_shrink 44 = .ok (.invokevirtual 149, 3) := by decide +kernel
theorem dX7_shrink_47 : decode cX7_shrink 47 = .ok (.invokevirtual 106, 3) := by decide +kernel
theorem dX7_shrink_50 : decode cX7_shrink 50 = .ok (.iinc 3 (-1), 3) := by decide +kernel
theorem dX7_shrink_53 : decode cX7_shrink 53 = .ok (.goto (-19), 3) := by decide +kernel
theorem dX7_shrink_56 : decode cX7_shrink 56 = .ok (.iload_n 2, 1) := by decide +kernel
theorem dX7_shrink_57 : decode cX7_shrink 57 = .ok (.aload_n 0, 1) := by decide +kernel
theorem dX7_shrink_58 : decode cX7_shrink 58 = .ok (.getfield 10, 3) := by decide +kernel
theorem dX7_shrink_61 : decode cX7_shrink 61 = .ok (.getfield 96, 3) := by decide +kernel
theorem dX7_shrink_64 : decode cX7_shrink 64 = .ok (.isub, 1) := by decide +kernel
theorem dX7_shrink_65 : decode cX7_shrink 65 = .ok (.ireturn, 1) := by decide +kernel
set_option maxRecDepth 20000 in
theorem ggX7_ofPiece_X7_isPiece : GoodIn wsX7_ofPiece wsX7_isPiece := goodIn_r _ [12, 1, 13, 150, 151, 152, 153, 154, 155, 156, 157, 158, 159, 160, 161, 162, 163, 164, 165, 166, 167, 168, 169] (by decide +kernel) (by decide +kernel)
set_option maxRecDepth 20000 in
theorem gX7_ofPiece_X7_isPiece : GoodIn wsX7_ofPiece (wsV RX7 99 RX7 yX7_isPiece wsX7_isPiece) := goodIn_app (goodIn_of _ (by decide +kernel)) ggX7_ofPiece_X7_isPiece
set_option maxRecDepth 20000 in
theorem ggX7_ofPiece_X7_letterOfText : GoodIn wsX7_ofPiece wsX7_letterOfText := goodIn_r _ [16] (by decide +kernel) (by decide +kernel)
set_option maxRecDepth 20000 in
theorem gX7_ofPiece_X7_letterOfText : GoodIn wsX7_ofPiece (va_wsS RX7 158 yX7_letterOfText wsX7_letterOfText) := goodIn_app (goodIn_of _ (by decide +kernel)) ggX7_ofPiece_X7_letterOfText
set_option maxRecDepth 20000 in
theorem ggX7_ofPiece_X7_timesInBestCuts : GoodIn wsX7_ofPiece wsX7_timesInBestCuts := goodIn_r _ [20, 1, 21, 22, 23, 24, 25, 26, 27, 28, 11, 29, 30, 31, 32, 33, 34, 35, 36, 37, 38, 39, 40, 41, 42, 43, 44, 45, 46, 47, 48, 49, 50, 51, 52, 53, 54, 55, 56, 57, 58, 59, 60, 61, 62, 63, 64, 65, 66, 67, 68, 69, 70, 71, 72, 73, 74, 75, 76, 77, 78, 79, 80, 81, 82, 83, 84, 85, 86, 87, 88, 89, 90, 91, 92, 93, 94, 95, 96, 97, 98, 99, 100, 150, 151, 152, 153, 154, 155, 156, 157, 158, 159, 160, 161, 162, 163, 164, 165, 166, 167, 168, 169, 170, 171, 172, 173, 174, 175, 176, 177, 178, 179, 180, 181] (by decide +kernel) (by decide +kernel)
set_option maxRecDepth 20000 in
theorem gX7_ofPiece_X7_timesInBestCuts : GoodIn wsX7_ofPiece (wsV RX7 162 RX7 yX7_timesInBestCuts wsX7_timesInBestCuts) := goodIn_app (goodIn_of _ (by decide +kernel)) ggX7_ofPiece_X7_timesInBestCuts
set_option maxRecDepth 20000 in
theorem ggX7_ofPiece_X7_loseEach : GoodIn wsX7_ofPiece wsX7_loseEach := goodIn_r _ [104, 5, 1, 21, 30, 13, 22, 25, 105, 106, 107, 108, 31, 32, 33, 34, 35, 36, 37, 38, 39, 40, 41, 42, 43, 44, 45, 46, 47, 48, 49, 50, 51, 52, 53, 54, 55, 56, 57, 58, 59, 60, 61, 62, 63, 64, 65, 66, 67, 68, 69, 70, 71, 72, 73, 74, 75, 76, 77, 78, 79, 80, 81, 82, 83, 84, 85, 86, 87, 88, 89, 90, 91, 92, 93, 94, 95, 96, 97, 98, 99, 100, 109, 110, 111, 112, 150, 151, 152, 153, 154, 155, 156, 157, 158, 159, 160, 161, 162, 163, 164, 165, 166, 167, 168, 169, 178, 179, 180, 181, 170, 171, 172, 173, 174, 175, 176, 177] (by decide +kernel) (by decide +kernel)
set_option maxRecDepth 20000 in
theorem gX7_ofPiece_X7_loseEach : GoodIn wsX7_ofPiece (wsV RX7 165 RX7 yX7_loseEach wsX7_loseEach) := goodIn_app (goodIn_of _ (by decide +kernel)) ggX7_ofPiece_X7_loseEach
set_option maxRecDepth 20000 in
theorem ggX7_ofPiece_X7_costOfAll : GoodIn wsX7_ofPiece wsX7_costOfAll := goodIn_r _ [116, 21, 22, 25, 26, 27, 28, 11, 29, 30, 31, 32, 33, 34, 35, 36, 37, 38, 39, 40, 41, 42, 43, 44, 45, 46, 47, 48, 49, 50, 51, 52, 53, 54, 55, 56, 57, 58, 59, 60, 61, 62, 63, 64, 65, 66, 67, 68, 69, 70, 71, 72, 73, 74, 75, 76, 77, 78, 79, 80, 81, 82, 83, 84, 85, 86, 87, 88, 89, 90, 91, 92, 93, 94, 95, 96, 97, 98, 99, 100, 109, 110, 111, 112, 162, 163, 164, 165, 166, 167, 168, 169, 150, 151, 152, 153, 154, 155, 156, 157, 158, 159, 160, 161, 178, 179, 180, 181, 170, 171, 172, 173, 174, 175, 176, 177] (by decide +kernel) (by decide +kernel)
set_option maxRecDepth 20000 in
theorem gX7_ofPiece_X7_costOfAll : GoodIn wsX7_ofPiece (wsV RX7 168 RX7 yX7_costOfAll wsX7_costOfAll) := goodIn_app (goodIn_of _ (by decide +kernel)) ggX7_ofPiece_X7_costOfAll
set_option maxRecDepth 20000 in
theorem ggX7_ofPiece_X7_bearAll : GoodIn wsX7_ofPiece wsX7_bearAll := goodIn_r _ [120, 7, 1, 21, 30, 121, 13, 25, 105, 106, 107, 108, 31, 32, 33, 34, 35, 36, 37, 38, 39, 40, 41, 42, 43, 44, 45, 46, 47, 48, 49, 50, 51, 52, 53, 54, 55, 56, 57, 58, 59, 60, 61, 62, 63, 64, 65, 66, 67, 68, 122, 123, 124, 125, 126, 127, 128, 129, 130, 131, 132, 133, 134, 135, 84, 85, 86, 87, 88, 89, 90, 136, 137, 138, 139, 140, 141, 142, 143, 144, 145, 146, 147, 148, 149, 150, 151, 152, 153, 154, 155, 156, 157, 158, 159, 160, 161, 162, 163, 164, 165, 166, 167, 168, 169, 178, 179, 180, 181, 182, 183, 184] (by decide +kernel) (by decide +kernel)
set_option maxRecDepth 20000 in
theorem gX7_ofPiece_X7_bearAll : GoodIn wsX7_ofPiece (wsV RX7 140 RX7 yX7_bearAll wsX7_bearAll) := goodIn_app (goodIn_of _ (by decide +kernel)) ggX7_ofPiece_X7_bearAll
theorem dX7_ofPiece_0 : decode cX7_ofPiece 0 = .ok (.aload_n 0, 1) := by decide +kernel
theorem dX7_ofPiece_1 : decode cX7_ofPiece 1 = .ok (.iload_n 1, 1) := by decide +kernel
theorem dX7_ofPiece_2 : decode cX7_ofPiece 2 = .ok (.invokevirtual 99, 3) := by decide +kernel
theorem dX7_ofPiece_5 : decode cX7_ofPiece 5 = .ok (.ifCond .ne 5, 3) := by decide +kernel
theorem dX7_ofPiece_8 : decode cX7_ofPiece 8 = .ok (.iconst (-1), 1) := by decide +kernel
theorem dX7_ofPiece_9 : decode cX7_ofPiece 9 = .ok (.ireturn, 1) := by decide +kernel
theorem dX7_ofPiece_10 : decode cX7_ofPiece 10 = .ok (.iload_n 2, 1) := by decide +kernel
theorem dX7_ofPiece_11 : decode cX7_ofPiece 11 = .ok (.tableswitch 134 0 8 #[49, 59, 69, 69, 69, 69, 94, 100, 123], 49) := by decide +kernel
theorem dX7_ofPiece_60 : decode cX7_ofPiece 60 = .ok (.aload_n 0, 1) := by decide +kernel
theorem dX7_ofPiece_61 : decode cX7_ofPiece 61 = .ok (.getfield 10, 3) := by decide +kernel
theorem dX7_ofPiece_64 : decode cX7_ofPiece 64 = .ok (.getfield 152, 3) := by decide +kernel
theorem dX7_ofPiece_67 : decode cX7_ofPiece 67 = .ok (.iload_n 1, 1) := by decide +kernel
theorem dX7_ofPiece_68 : decode cX7_ofPiece 68 = .ok (.iaload, 1) := by decide +kernel
theorem dX7_ofPiece_69 : decode cX7_ofPiece 69 = .ok (.ireturn, 1) := by decide +kernel
theorem dX7_ofPiece_70 : decode cX7_ofPiece 70 = .ok (.aload_n 0, 1) := by decide +kernel
theorem dX7_ofPiece_71 : decode cX7_ofPiece 71 = .ok (.getfield 10, 3) := by decide +kernel
theorem dX7_ofPiece_74 : decode cX7_ofPiece 74 = .ok (.getfield 103, 3) := by decide +kernel
theorem dX7_ofPiece_77 : decode cX7_ofPiece 77 = .ok (.iload_n 1, 1) := by decide +kernel
theorem dX7_ofPiece_78 : decode cX7_ofPiece 78 = .ok (.iaload, 1) := by decide +kernel
theorem dX7_ofPiece_79 : decode cX7_ofPiece 79 = .ok (.ireturn, 1) := by decide +kernel
theorem dX7_ofPiece_80 : decode cX7_ofPiece 80 = .ok (.aload_n 0, 1) := by decide +kernel
theorem dX7_ofPiece_81 : decode cX7_ofPiece 81 = .ok (.getfield 10, 3) := by decide +kernel
theorem dX7_ofPiece_84 : decode cX7_ofPiece 84 = .ok (.getfield 155, 3) := by decide +kernel
theorem dX7_ofPiece_87 : decode cX7_ofPiece 87 = .ok (.iload_n 1, 1) := by decide +kernel
theorem dX7_ofPiece_88 : decode cX7_ofPiece 88 = .ok (.iaload, 1) := by decide +kernel
theorem dX7_ofPiece_89 : decode cX7_ofPiece 89 = .ok (.aload_n 0, 1) := by decide +kernel
theorem dX7_ofPiece_90 : decode cX7_ofPiece 90 = .ok (.getfield 10, 3) := by decide +kernel
theorem dX7_ofPiece_93 : decode cX7_ofPiece 93 = .ok (.getfield 152, 3) := by decide +kernel
theorem dX7_ofPiece_96 : decode cX7_ofPiece 96 = .ok (.iload_n 1, 1) := by decide +kernel
theorem dX7_ofPiece_97 : decode cX7_ofPiece 97 = .ok (.iaload, 1) := by decide +kernel
theorem dX7_ofPiece_98 : decode cX7_ofPiece 98 = .ok (.iload_n 2, 1) := by decide +kernel
theorem dX7_ofPiece_99 : decode cX7_ofPiece 99 = .ok (.iconst 2, 1) := by decide +kernel
theorem dX7_ofPiece_100 : decode cX7_ofPiece 100 = .ok (.isub, 1) := by decide +kernel
theorem dX7_ofPiece_101 : decode cX7_ofPiece 101 = .ok (.invokestatic 158, 3) := by decide +kernel
theorem dX7_ofPiece_104 : decode cX7_ofPiece 104 = .ok (.ireturn, 1) := by decide +kernel
theorem dX7_ofPiece_105 : decode cX7_ofPiece 105 = .ok (.aload_n 0, 1) := by decide +kernel
theorem dX7_ofPiece_106 : decode cX7_ofPiece 106 = .ok (.iload_n 1, 1) := by decide +kernel
theorem dX7_ofPiece_107 : decode cX7_ofPiece 107 = .ok (.invokevirtual 162, 3) := by decide +kernel
theorem dX7_ofPiece_110 : decode cX7_ofPiece 110 = .ok (.ireturn, 1) := by decide +kernel
theorem dX7_ofPiece_111 : decode cX7_ofPiece 111 = .ok (.aload_n 0, 1) := by decide +kernel
theorem dX7_ofPiece_112 : decode cX7_ofPiece 112 = .ok (.invokevirtual 165, 3) := by decide +kernel
theorem dX7_ofPiece_115 : decode cX7_ofPiece 115 = .ok (.aload_n 0, 1) := by decide +kernel
theorem dX7_ofPiece_116 : decode cX7_ofPiece 116 = .ok (.getfield 73, 3) := by decide +kernel
theorem dX7_ofPiece_119 : decode cX7_ofPiece 119 = .ok (.iload_n 1, 1) := by decide +kernel
theorem dX7_ofPiece_120 : decode cX7_ofPiece 120 = .ok (.iaload, 1) := by decide +kernel
theorem dX7_ofPiece_121 : decode cX7_ofPiece 121 = .ok (.aload_n 0, 1) := by decide +kernel
theorem dX7_ofPiece_122 : decode cX7_ofPiece 122 = .ok (.aload_n 0, 1) := by decide +kernel
theorem dX7_ofPiece_123 : decode cX7_ofPiece 123 = .ok (.getfield 10, 3) := by decide +kernel
theorem dX7_ofPiece_126 : decode cX7_ofPiece 126 = .ok (.invokevirtual 168, 3) := by decide +kernel
theorem dX7_ofPiece_129 : decode cX7_ofPiece 129 = .ok (.isub, 1) := by decide +kernel
theorem dX7_ofPiece_130 : decode cX7_ofPiece 130 = .ok (.ldc 172, 2) := by decide +kernel
theorem dX7_ofPiece_132 : decode cX7_ofPiece 132 = .ok (.iadd, 1) := by decide +kernel
theorem dX7_ofPiece_133 : decode cX7_ofPiece 133 = .ok (.ireturn, 1) := by decide +kernel
theorem dX7_ofPiece_134 : decode cX7_ofPiece 134 = .ok (.aload_n 0, 1) := by decide +kernel
theorem dX7_ofPiece_135 : decode cX7_ofPiece 135 = .ok (.invokevirtual 140, 3) := by decide +kernel
theorem dX7_ofPiece_138 : decode cX7_ofPiece 138 = .ok (.aload_n 0, 1) := by decide +kernel
theorem dX7_ofPiece_139 : decode cX7_ofPiece 139 = .ok (.getfield 69, 3) := by decide +kernel
theorem dX7_ofPiece_142 : decode cX7_ofPiece 142 = .ok (.iload_n 1, 1) := by decide +kernel
theorem dX7_ofPiece_143 : decode cX7_ofPiece 143 = .ok (.iaload, 1) := by decide +kernel
theorem dX7_ofPiece_144 : decode cX7_ofPiece 144 = .ok (.ireturn, 1) := by decide +kernel
theorem dX7_ofPiece_145 : decode cX7_ofPiece 145 = .ok (.bipush (-2), 2) := by decide +kernel
theorem dX7_ofPiece_147 : decode cX7_ofPiece 147 = .ok (.ireturn, 1) := by decide +kernel
set_option maxRecDepth 20000 in
theorem ggX7_ofWord_X7_isWord : GoodIn wsX7_ofWord wsX7_isWord := goodIn_r _ [13, 1, 14, 116, 117, 118, 119, 120, 121, 122, 123, 124, 125, 126, 127, 128, 129, 130, 131, 132, 133, 134, 135] (by decide +kernel) (by decide +kernel)
set_option maxRecDepth 20000 in
theorem gX7_ofWord_X7_isWord : GoodIn wsX7_ofWord (wsV RX7 120 RX7 yX7_isWord wsX7_isWord) := goodIn_app (goodIn_of _ (by decide +kernel)) ggX7_ofWord_X7_isWord
set_option maxRecDepth 20000 in
theorem ggX7_ofWord_X7_cutBest : GoodIn wsX7_ofWord wsX7_cutBest := goodIn_r _ [18, 8, 4, 19, 20, 21, 22, 23, 24, 25, 26, 27, 28, 29, 30, 31, 32, 33, 34, 35, 36, 37, 38, 39, 40, 41, 42, 43, 44, 45, 46, 47, 48, 49, 50, 51, 52, 53, 54, 55, 56, 57, 58, 59, 60, 61, 62, 63, 64, 65, 66, 67, 68, 69, 70, 71, 72, 73, 74, 75, 76, 77, 78, 79, 80, 81, 82, 83, 84, 85, 86, 87, 88, 116, 117, 118, 119, 120, 121, 122, 123, 124, 125, 126, 127, 128, 129, 130, 131, 132, 133, 134, 135, 144, 145, 146, 147, 136, 137, 138, 139, 140, 141, 142, 143] (by decide +kernel) (by decide +kernel)
set_option maxRecDepth 20000 in
theorem gX7_ofWord_X7_cutBest : GoodIn wsX7_ofWord (wsV RX7 173 RX7 yX7_cutBest wsX7_cutBest) := goodIn_app (goodIn_of _ (by decide +kernel)) ggX7_ofWord_X7_cutBest
set_option maxRecDepth 20000 in
theorem ggX7_ofWord_X1_cost : GoodIn wsX7_ofWord wsX1_cost := goodIn_r _ [92, 83, 84, 136, 137, 138, 139, 140, 141, 142, 143] (by decide +kernel) (by decide +kernel)
set_option maxRecDepth 20000 in
theorem gX7_ofWord_X1_cost : GoodIn wsX7_ofWord (wsV RX7 186 RX1 yX1_cost wsX1_cost) := goodIn_app (goodIn_of _ (by decide +kernel)) ggX7_ofWord_X1_cost
set_option maxRecDepth 20000 in
theorem ggX7_ofWord_X0_find : GoodIn wsX7_ofWord wsX0_find := goodIn_r _ [97, 98, 99, 100, 101, 102, 103, 104, 105, 106, 35, 36, 22, 37, 25, 38, 39, 40, 41, 107, 72, 73, 74, 27, 75, 76, 77, 78, 33, 48, 49, 50, 108, 109, 110, 96, 111, 148, 149, 150, 144, 145, 146, 147] (by decide +kernel) (by decide +kernel)
set_option maxRecDepth 20000 in
theorem gX7_ofWord_X0_find : GoodIn wsX7_ofWord (wsV RX7 189 RX0 yX0_find wsX0_find) := goodIn_app (goodIn_of _ (by decide +kernel)) ggX7_ofWord_X0_find
set_option maxRecDepth 20000 in
theorem ggX7_ofWord_X0_cuts : GoodIn wsX7_ofWord wsX0_cuts := goodIn_r _ [115, 101, 148, 149, 150] (by decide +kernel) (by decide +kernel)
set_option maxRecDepth 20000 in
theorem gX7_ofWord_X0_cuts : GoodIn wsX7_ofWord (wsV RX7 193 RX0 yX0_cuts wsX0_cuts) := goodIn_app (goodIn_of _ (by decide +kernel)) ggX7_ofWord_X0_cuts
theorem dX7_ofWord_0 : decode cX7_ofWord 0 = .ok (.aload_n 0, 1) := by decide +kernel
theorem dX7_ofWord_1 : decode cX7_ofWord 1 = .ok (.iload_n 1, 1) := by decide +kernel
theorem dX7_ofWord_2 : decode cX7_ofWord 2 = .ok (.invokevirtual 120, 3) := by decide +kernel
theorem dX7_ofWord_5 : decode cX7_ofWord 5 = .ok (.ifCond .ne 5, 3) := by decide +kernel
theorem dX7_ofWord_8 : decode cX7_ofWord 8 = .ok (.iconst (-1), 1) := by decide +kernel
theorem dX7_ofWord_9 : decode cX7_ofWord 9 = .ok (.ireturn, 1) := by decide +kernel
theorem dX7_ofWord_10 : decode cX7_ofWord 10 = .ok (.aload_n 0, 1) := by decide +kernel
theorem dX7_ofWord_11 : decode cX7_ofWord 11 = .ok (.aload_n 0, 1) := by decide +kernel
theorem dX7_ofWord_12 : decode cX7_ofWord 12 = .ok (.getfield 10, 3) := by decide +kernel
theorem dX7_ofWord_15 : decode cX7_ofWord 15 = .ok (.iload_n 1, 1) := by decide +kernel
theorem dX7_ofWord_16 : decode cX7_ofWord 16 = .ok (.invokevirtual 173, 3) := by decide +kernel
theorem dX7_ofWord_19 : decode cX7_ofWord 19 = .ok (.iload_n 2, 1) := by decide +kernel
theorem dX7_ofWord_20 : decode cX7_ofWord 20 = .ok (.tableswitch 113 0 5 #[40, 50, 60, 68, 76, 94], 40) := by decide +kernel
theorem dX7_ofWord_60 : decode cX7_ofWord 60 = .ok (.aload_n 0, 1) := by decide +kernel
theorem dX7_ofWord_61 : decode cX7_ofWord 61 = .ok (.getfield 10, 3) := by decide +kernel
theorem dX7_ofWord_64 : decode cX7_ofWord 64 = .ok (.getfield 177, 3) := by decide +kernel
theorem dX7_ofWord_67 : decode cX7_ofWord 67 = .ok (.iload_n 1, 1) := by decide +kernel
theorem dX7_ofWord_68 : decode cX7_ofWord 68 = .ok (.iaload, 1) := by decide +kernel
theorem dX7_ofWord_69 : decode cX7_ofWord 69 = .ok (.ireturn, 1) := by decide +kernel
theorem dX7_ofWord_70 : decode cX7_ofWord 70 = .ok (.aload_n 0, 1) := by decide +kernel
theorem dX7_ofWord_71 : decode cX7_ofWord 71 = .ok (.getfield 10, 3) := by decide +kernel
theorem dX7_ofWord_74 : decode cX7_ofWord 74 = .ok (.getfield 123, 3) := by decide +kernel
theorem dX7_ofWord_77 : decode cX7_ofWord 77 = .ok (.iload_n 1, 1) := by decide +kernel
theorem dX7_ofWord_78 : decode cX7_ofWord 78 = .ok (.iaload, 1) := by decide +kernel
theorem dX7_ofWord_79 : decode cX7_ofWord 79 = .ok (.ireturn, 1) := by decide +kernel
theorem dX7_ofWord_80 : decode cX7_ofWord 80 = .ok (.aload_n 0, 1) := by decide +kernel
theorem dX7_ofWord_81 : decode cX7_ofWord 81 = .ok (.getfield 51, 3) := by decide +kernel
theorem dX7_ofWord_84 : decode cX7_ofWord 84 = .ok (.getfield 180, 3) := by decide +kernel
theorem dX7_ofWord_87 : decode cX7_ofWord 87 = .ok (.ireturn, 1) := by decide +kernel
theorem dX7_ofWord_88 : decode cX7_ofWord 88 = .ok (.aload_n 0, 1) := by decide +kernel
theorem dX7_ofWord_89 : decode cX7_ofWord 89 = .ok (.getfield 51, 3) := by decide +kernel
theorem dX7_ofWord_92 : decode cX7_ofWord 92 = .ok (.getfield 183, 3) := by decide +kernel
theorem dX7_ofWord_95 : decode cX7_ofWord 95 = .ok (.ireturn, 1) := by decide +kernel
theorem dX7_ofWord_96 : decode cX7_ofWord 96 = .ok (.aload_n 0, 1) := by decide +kernel
theorem dX7_ofWord_97 : decode cX7_ofWord 97 = .ok (.getfield 51, 3) := by decide +kernel
theorem dX7_ofWord_100 : decode cX7_ofWord 100 = .ok (.invokevirtual 186, 3) := by decide +kernel
theorem dX7_ofWord_103 : decode cX7_ofWord 103 = .ok (.aload_n 0, 1) := by decide +kernel
theorem dX7_ofWord_104 : decode cX7_ofWord 104 = .ok (.getfield 10, 3) := by decide +kernel
theorem dX7_ofWord_107 : decode cX7_ofWord 107 = .ok (.getfield 123, 3) := by decide +kernel
theorem dX7_ofWord_110 : decode cX7_ofWord 110 = .ok (.iload_n 1, 1) := by decide +kernel
theorem dX7_ofWord_111 : decode cX7_ofWord 111 = .ok (.iaload, 1) := by decide +kernel
theorem dX7_ofWord_112 : decode cX7_ofWord 112 = .ok (.imul, 1) := by decide +kernel
theorem dX7_ofWord_113 : decode cX7_ofWord 113 = .ok (.ireturn, 1) := by decide +kernel
theorem dX7_ofWord_114 : decode cX7_ofWord 114 = .ok (.aload_n 0, 1) := by decide +kernel
theorem dX7_ofWord_115 : decode cX7_ofWord 115 = .ok (.getfield 58, 3) := by decide +kernel
theorem dX7_ofWord_118 : decode cX7_ofWord 118 = .ok (.aload_n 0, 1) := by decide +kernel
theorem dX7_ofWord_119 : decode cX7_ofWord 119 = .ok (.getfield 44, 3) := by decide +kernel
theorem dX7_ofWord_122 : decode cX7_ofWord 122 = .ok (.invokevirtual 189, 3) := by decide +kernel
theorem dX7_ofWord_125 : decode cX7_ofWord 125 = .ok (.aload_n 0, 1) := by decide +kernel
theorem dX7_ofWord_126 : decode cX7_ofWord 126 = .ok (.getfield 58, 3) := by decide +kernel
theorem dX7_ofWord_129 : decode cX7_ofWord 129 = .ok (.invokevirtual 193, 3) := by decide +kernel
theorem dX7_ofWord_132 : decode cX7_ofWord 132 = .ok (.ireturn, 1) := by decide +kernel
theorem dX7_ofWord_133 : decode cX7_ofWord 133 = .ok (.bipush (-2), 2) := by decide +kernel
theorem dX7_ofWord_135 : decode cX7_ofWord 135 = .ok (.ireturn, 1) := by decide +kernel
set_option maxRecDepth 20000 in
theorem ggX7_letter_X7_isWord : GoodIn wsX7_letter wsX7_isWord := goodIn_r _ [7, 1, 8, 15, 16, 17, 18, 19, 20, 21, 22, 23, 24, 25, 26, 27, 28, 29, 30, 31, 32, 33, 34] (by decide +kernel) (by decide +kernel)
set_option maxRecDepth 20000 in
theorem gX7_letter_X7_isWord : GoodIn wsX7_letter (wsV RX7 120 RX7 yX7_isWord wsX7_isWord) := goodIn_app (goodIn_of _ (by decide +kernel)) ggX7_letter_X7_isWord
set_option maxRecDepth 20000 in
theorem ggX7_letter_X2_letterAt : GoodIn wsX7_letter wsX2_letterAt := goodIn_r _ [13, 14, 27, 28, 29, 30, 31, 32, 33, 34] (by decide +kernel) (by decide +kernel)
set_option maxRecDepth 20000 in
theorem gX7_letter_X2_letterAt : GoodIn wsX7_letter (wsV RX7 196 RX2 yX2_letterAt wsX2_letterAt) := goodIn_app (goodIn_of _ (by decide +kernel)) ggX7_letter_X2_letterAt
theorem dX7_letter_0 : decode cX7_letter 0 = .ok (.aload_n 0, 1) := by decide +kernel
theorem dX7_letter_1 : decode cX7_letter 1 = .ok (.iload_n 1, 1) := by decide +kernel
theorem dX7_letter_2 : decode cX7_letter 2 = .ok (.invokevirtual 120, 3) := by decide +kernel
theorem dX7_letter_5 : decode cX7_letter 5 = .ok (.ifCond .eq 20, 3) := by decide +kernel
theorem dX7_letter_8 : decode cX7_letter 8 = .ok (.iload_n 2, 1) := by decide +kernel
theorem dX7_letter_9 : decode cX7_letter 9 = .ok (.ifCond .lt 16, 3) := by decide +kernel
theorem dX7_letter_12 : decode cX7_letter 12 = .ok (.iload_n 2, 1) := by decide +kernel
theorem dX7_letter_13 : decode cX7_letter 13 = .ok (.aload_n 0, 1) := by decide +kernel
theorem dX7_letter_14 : decode cX7_letter 14 = .ok (.getfield 10, 3) := by decide +kernel
theorem dX7_letter_17 : decode cX7_letter 17 = .ok (.getfield 177, 3) := by decide +kernel
theorem dX7_letter_20 : decode cX7_letter 20 = .ok (.iload_n 1, 1) := by decide +kernel
theorem dX7_letter_21 : decode cX7_letter 21 = .ok (.iaload, 1) := by decide +kernel
theorem dX7_letter_22 : decode cX7_letter 22 = .ok (.if_icmp .lt 5, 3) := by decide +kernel
theorem dX7_letter_25 : decode cX7_letter 25 = .ok (.iconst (-1), 1) := by decide +kernel
theorem dX7_letter_26 : decode cX7_letter 26 = .ok (.ireturn, 1) := by decide +kernel
theorem dX7_letter_27 : decode cX7_letter 27 = .ok (.aload_n 0, 1) := by decide +kernel
theorem dX7_letter_28 : decode cX7_letter 28 = .ok (.getfield 10, 3) := by decide +kernel
theorem dX7_letter_31 : decode cX7_letter 31 = .ok (.iload_n 1, 1) := by decide +kernel
theorem dX7_letter_32 : decode cX7_letter 32 = .ok (.iload_n 2, 1) := by decide +kernel
theorem dX7_letter_33 : decode cX7_letter 33 = .ok (.invokevirtual 196, 3) := by decide +kernel
theorem dX7_letter_36 : decode cX7_letter 36 = .ok (.ireturn, 1) := by decide +kernel
set_option maxRecDepth 20000 in
theorem ggX7_product_X7_isWord : GoodIn wsX7_product wsX7_isWord := goodIn_r _ [11, 3, 12, 114, 115, 116, 117, 118, 119, 120, 121, 122, 123, 124, 125, 126, 127, 128, 129, 130, 131, 132, 133] (by decide +kernel) (by decide +kernel)
set_option maxRecDepth 20000 in
theorem gX7_product_X7_isWord : GoodIn wsX7_product (wsV RX7 120 RX7 yX7_isWord wsX7_isWord) := goodIn_app (goodIn_of _ (by decide +kernel)) ggX7_product_X7_isWord
set_option maxRecDepth 20000 in
theorem ggX7_product_X4_read : GoodIn wsX7_product wsX4_read := goodIn_r _ [17, 18, 19, 20, 21, 22, 23, 24, 25, 26, 27, 28, 29, 30, 16, 31, 32, 33, 34, 35, 36, 37, 38, 39, 40, 41, 42, 43, 44, 45, 46, 47, 48, 49, 50, 126, 127, 128, 129, 130, 131, 132, 133, 134, 135, 136, 137] (by decide +kernel) (by decide +kernel)
set_option maxRecDepth 20000 in
theorem gX7_product_X4_read : GoodIn wsX7_product (wsV RX7 201 RX4 yX4_read wsX4_read) := goodIn_app (goodIn_of _ (by decide +kernel)) ggX7_product_X4_read
set_option maxRecDepth 20000 in
theorem ggX7_product_X0_find : GoodIn wsX7_product wsX0_find := goodIn_r _ [55, 56, 57, 58, 59, 60, 61, 62, 63, 64, 29, 30, 16, 31, 19, 32, 33, 34, 35, 65, 66, 67, 68, 21, 69, 70, 71, 72, 27, 42, 43, 44, 73, 74, 75, 54, 76, 138, 139, 140, 134, 135, 136, 137] (by decide +kernel) (by decide +kernel)
set_option maxRecDepth 20000 in
theorem gX7_product_X0_find : GoodIn wsX7_product (wsV RX7 189 RX0 yX0_find wsX0_find) := goodIn_app (goodIn_of _ (by decide +kernel)) ggX7_product_X0_find
set_option maxRecDepth 20000 in
theorem ggX7_product_X0_total : GoodIn wsX7_product wsX0_total := goodIn_r _ [80, 58, 138, 139, 140] (by decide +kernel) (by decide +kernel)
set_option maxRecDepth 20000 in
theorem gX7_product_X0_total : GoodIn wsX7_product (wsV RX7 204 RX0 yX0_total wsX0_total) := goodIn_app (goodIn_of _ (by decide +kernel)) ggX7_product_X0_total
set_option maxRecDepth 20000 in
theorem ggX7_product_X7_cutBest : GoodIn wsX7_product wsX7_cutBest := goodIn_r _ [84, 2, 5, 13, 14, 15, 16, 17, 18, 19, 20, 21, 22, 23, 24, 25, 26, 27, 28, 29, 30, 31, 32, 33, 34, 35, 36, 37, 38, 39, 40, 41, 42, 43, 44, 45, 46, 47, 48, 49, 50, 85, 86, 87, 88, 89, 90, 91, 92, 93, 94, 95, 96, 97, 98, 99, 66, 67, 68, 69, 70, 71, 72, 100, 101, 102, 103, 104, 105, 106, 107, 108, 109, 114, 115, 116, 117, 118, 119, 120, 121, 122, 123, 124, 125, 126, 127, 128, 129, 130, 131, 132, 133, 134, 135, 136, 137, 141, 142, 143, 144, 145, 146, 147, 148] (by decide +kernel) (by decide +kernel)
set_option maxRecDepth 20000 in
theorem gX7_product_X7_cutBest : GoodIn wsX7_product (wsV RX7 173 RX7 yX7_cutBest wsX7_cutBest) := goodIn_app (goodIn_of _ (by decide +kernel)) ggX7_product_X7_cutBest
set_option maxRecDepth 20000 in
theorem ggX7_product_X1_greatestProduct : GoodIn wsX7_product wsX1_greatestProduct := goodIn_r _ [113, 90, 141, 142, 143, 144, 145, 146, 147, 148] (by decide +kernel) (by decide +kernel)
set_option maxRecDepth 20000 in
theorem gX7_product_X1_greatestProduct : GoodIn wsX7_product (wsV RX7 208 RX1 yX1_greatestProduct wsX1_greatestProduct) := goodIn_app (goodIn_of _ (by decide +kernel)) ggX7_product_X1_greatestProduct
theorem dX7_product_0 : decode cX7_product 0 = .ok (.aload_n 0, 1) := by decide +kernel
theorem dX7_product_1 : decode cX7_product 1 = .ok (.iload_n 1, 1) := by decide +kernel
theorem dX7_product_2 : decode cX7_product 2 = .ok (.invokevirtual 120, 3) := by decide +kernel
theorem dX7_product_5 : decode cX7_product 5 = .ok (.ifCond .ne 7, 3) := by decide +kernel
theorem dX7_product_8 : decode cX7_product 8 = .ok (.ldc2_w 199, 3) := by decide +kernel
theorem dX7_product_11 : decode cX7_product 11 = .ok (.lreturn, 1) := by decide +kernel
theorem dX7_product_12 : decode cX7_product 12 = .ok (.iload_n 2, 1) := by decide +kernel
theorem dX7_product_13 : decode cX7_product 13 = .ok (.ifCond .ne 34, 3) := by decide +kernel
theorem dX7_product_16 : decode cX7_product 16 = .ok (.aload_n 0, 1) := by decide +kernel
theorem dX7_product_17 : decode cX7_product 17 = .ok (.getfield 44, 3) := by decide +kernel
theorem dX7_product_20 : decode cX7_product 20 = .ok (.aload_n 0, 1) := by decide +kernel
theorem dX7_product_21 : decode cX7_product 21 = .ok (.getfield 10, 3) := by decide +kernel
theorem dX7_product_24 : decode cX7_product 24 = .ok (.iload_n 1, 1) := by decide +kernel
theorem dX7_product_25 : decode cX7_product 25 = .ok (.invokevirtual 201, 3) := by decide +kernel
theorem dX7_product_28 : decode cX7_product 28 = .ok (.aload_n 0, 1) := by decide +kernel
theorem dX7_product_29 : decode cX7_product 29 = .ok (.getfield 58, 3) := by decide +kernel
theorem dX7_product_32 : decode cX7_product 32 = .ok (.aload_n 0, 1) := by decide +kernel
theorem dX7_product_33 : decode cX7_product 33 = .ok (.getfield 44, 3) := by decide +kernel
theorem dX7_product_36 : decode cX7_product 36 = .ok (.invokevirtual 189, 3) := by decide +kernel
theorem dX7_product_39 : decode cX7_product 39 = .ok (.aload_n 0, 1) := by decide +kernel
theorem dX7_product_40 : decode cX7_product 40 = .ok (.getfield 58, 3) := by decide +kernel
theorem dX7_product_43 : decode cX7_product 43 = .ok (.invokevirtual 204, 3) := by decide +kernel
theorem dX7_product_46 : decode cX7_product 46 = .ok (.lreturn, 1) := by decide +kernel
theorem dX7_product_47 : decode cX7_product 47 = .ok (.iload_n 2, 1) := by decide +kernel
theorem dX7_product_48 : decode cX7_product 48 = .ok (.iconst 1, 1) := by decide +kernel
theorem dX7_product_49 : decode cX7_product 49 = .ok (.if_icmp .ne 20, 3) := by decide +kernel
theorem dX7_product_52 : decode cX7_product 52 = .ok (.aload_n 0, 1) := by decide +kernel
theorem dX7_product_53 : decode cX7_product 53 = .ok (.aload_n 0, 1) := by decide +kernel
theorem dX7_product_54 : decode cX7_product 54 = .ok (.getfield 10, 3) := by decide +kernel
theorem dX7_product_57 : decode cX7_product 57 = .ok (.iload_n 1, 1) := by decide +kernel
theorem dX7_product_58 : decode cX7_product 58 = .ok (.invokevirtual 173, 3) := by decide +kernel
theorem dX7_product_61 : decode cX7_product 61 = .ok (.aload_n 0, 1) := by decide +kernel
theorem dX7_product_62 : decode cX7_product 62 = .ok (.getfield 51, 3) := by decide +kernel
theorem dX7_product_65 : decode cX7_product 65 = .ok (.invokevirtual 208, 3) := by decide +kernel
theorem dX7_product_68 : decode cX7_product 68 = .ok (.lreturn, 1) := by decide +kernel
theorem dX7_product_69 : decode cX7_product 69 = .ok (.ldc2_w 211, 3) := by decide +kernel
theorem dX7_product_72 : decode cX7_product 72 = .ok (.lreturn, 1) := by decide +kernel
set_option maxRecDepth 20000 in
theorem ggX7_part_X7_isWord : GoodIn wsX7_part wsX7_isWord := goodIn_r _ [11, 1, 12, 88, 89, 90, 91, 92, 93, 94, 95, 96, 97, 98, 99, 108, 109, 110, 111, 112, 113, 114, 115] (by decide +kernel) (by decide +kernel)
set_option maxRecDepth 20000 in
theorem gX7_part_X7_isWord : GoodIn wsX7_part (wsV RX7 120 RX7 yX7_isWord wsX7_isWord) := goodIn_app (goodIn_of _ (by decide +kernel)) ggX7_part_X7_isWord
set_option maxRecDepth 20000 in
theorem ggX7_part_X7_cutBest : GoodIn wsX7_part wsX7_cutBest := goodIn_r _ [16, 17, 2, 18, 19, 20, 21, 22, 23, 24, 25, 26, 27, 28, 29, 30, 31, 32, 33, 34, 35, 36, 37, 38, 39, 40, 41, 42, 43, 44, 45, 46, 47, 48, 49, 50, 51, 52, 53, 54, 55, 56, 57, 58, 59, 60, 61, 62, 63, 64, 65, 66, 67, 68, 69, 70, 71, 72, 73, 74, 75, 76, 77, 78, 79, 80, 81, 82, 83, 84, 85, 86, 87, 88, 89, 90, 91, 92, 93, 94, 95, 96, 97, 98, 99, 108, 109, 110, 111, 112, 113, 114, 115, 116, 117, 118, 119, 100, 101, 102, 103, 104, 105, 106, 107] (by decide +kernel) (by decide +kernel)
set_option maxRecDepth 20000 in
theorem gX7_part_X7_cutBest : GoodIn wsX7_part (wsV RX7 173 RX7 yX7_cutBest wsX7_cutBest) := goodIn_app (goodIn_of _ (by decide +kernel)) ggX7_part_X7_cutBest
theorem dX7_part_0 : decode cX7_part 0 = .ok (.aload_n 0, 1) := by decide +kernel
theorem dX7_part_1 : decode cX7_part 1 = .ok (.iload_n 1, 1) := by decide +kernel
theorem dX7_part_2 : decode cX7_part 2 = .ok (.invokevirtual 120, 3) := by decide +kernel
theorem dX7_part_5 : decode cX7_part 5 = .ok (.ifCond .ne 5, 3) := by decide +kernel
theorem dX7_part_8 : decode cX7_part 8 = .ok (.iconst (-1), 1) := by decide +kernel
theorem dX7_part_9 : decode cX7_part 9 = .ok (.ireturn, 1) := by decide +kernel
theorem dX7_part_10 : decode cX7_part 10 = .ok (.aload_n 0, 1) := by decide +kernel
theorem dX7_part_11 : decode cX7_part 11 = .ok (.aload_n 0, 1) := by decide +kernel
theorem dX7_part_12 : decode cX7_part 12 = .ok (.getfield 10, 3) := by decide +kernel
theorem dX7_part_15 : decode cX7_part 15 = .ok (.iload_n 1, 1) := by decide +kernel
theorem dX7_part_16 : decode cX7_part 16 = .ok (.invokevirtual 173, 3) := by decide +kernel
theorem dX7_part_19 : decode cX7_part 19 = .ok (.iload_n 2, 1) := by decide +kernel
theorem dX7_part_20 : decode cX7_part 20 = .ok (.ifCond .lt 14, 3) := by decide +kernel
theorem dX7_part_23 : decode cX7_part 23 = .ok (.iload_n 2, 1) := by decide +kernel
theorem dX7_part_24 : decode cX7_part 24 = .ok (.aload_n 0, 1) := by decide +kernel
theorem dX7_part_25 : decode cX7_part 25 = .ok (.getfield 51, 3) := by decide +kernel
theorem dX7_part_28 : decode cX7_part 28 = .ok (.getfield 180, 3) := by decide +kernel
theorem dX7_part_31 : decode cX7_part 31 = .ok (.if_icmp .lt 5, 3) := by decide +kernel
theorem dX7_part_34 : decode cX7_part 34 = .ok (.iconst (-1), 1) := by decide +kernel
theorem dX7_part_35 : decode cX7_part 35 = .ok (.ireturn, 1) := by decide +kernel
theorem dX7_part_36 : decode cX7_part 36 = .ok (.iload_n 3, 1) := by decide +kernel
theorem dX7_part_37 : decode cX7_part 37 = .ok (.tableswitch 75 0 2 #[27, 55, 65], 27) := by decide +kernel
theorem dX7_part_64 : decode cX7_part 64 = .ok (.aload_n 0, 1) := by decide +kernel
theorem dX7_part_65 : decode cX7_part 65 = .ok (.getfield 51, 3) := by decide +kernel
theorem dX7_part_68 : decode cX7_part 68 = .ok (.getfield 213, 3) := by decide +kernel
theorem dX7_part_71 : decode cX7_part 71 = .ok (.iload_n 2, 1) := by decide +kernel
theorem dX7_part_72 : decode cX7_part 72 = .ok (.iaload, 1) := by decide +kernel
theorem dX7_part_73 : decode cX7_part 73 = .ok (.iconst (-1), 1) := by decide +kernel
theorem dX7_part_74 : decode cX7_part 74 = .ok (.if_icmp .ne 8, 3) := by decide +kernel
theorem dX7_part_77 : decode cX7_part 77 = .ok (.bipush (-6), 2) := by decide +kernel
theorem dX7_part_79 : decode cX7_part 79 = .ok (.goto 12, 3) := by decide +kernel
theorem dX7_part_82 : decode cX7_part 82 = .ok (.aload_n 0, 1) := by decide +kernel
theorem dX7_part_83 : decode cX7_part 83 = .ok (.getfield 51, 3) := by decide +kernel
theorem dX7_part_86 : decode cX7_part 86 = .ok (.getfield 213, 3) := by decide +kernel
theorem dX7_part_89 : decode cX7_part 89 = .ok (.iload_n 2, 1) := by decide +kernel
theorem dX7_part_90 : decode cX7_part 90 = .ok (.iaload, 1) := by decide +kernel
theorem dX7_part_91 : decode cX7_part 91 = .ok (.ireturn, 1) := by decide +kernel
theorem dX7_part_92 : decode cX7_part 92 = .ok (.aload_n 0, 1) := by decide +kernel
theorem dX7_part_93 : decode cX7_part 93 = .ok (.getfield 51, 3) := by decide +kernel
theorem dX7_part_96 : decode cX7_part 96 = .ok (.getfield 216, 3) := by decide +kernel
theorem dX7_part_99 : decode cX7_part 99 = .ok (.iload_n 2, 1) := by decide +kernel
theorem dX7_part_100 : decode cX7_part 100 = .ok (.iaload, 1) := by decide +kernel
theorem dX7_part_101 : decode cX7_part 101 = .ok (.ireturn, 1) := by decide +kernel
theorem dX7_part_102 : decode cX7_part 102 = .ok (.aload_n 0, 1) := by decide +kernel
theorem dX7_part_103 : decode cX7_part 103 = .ok (.getfield 51, 3) := by decide +kernel
theorem dX7_part_106 : decode cX7_part 106 = .ok (.getfield 219, 3) := by decide +kernel
theorem dX7_part_109 : decode cX7_part 109 = .ok (.iload_n 2, 1) := by decide +kernel
theorem dX7_part_110 : decode cX7_part 110 = .ok (.iaload, 1) := by decide +kernel
theorem dX7_part_111 : decode cX7_part 111 = .ok (.ireturn, 1) := by decide +kernel
theorem dX7_part_112 : decode cX7_part 112 = .ok (.bipush (-2), 2) := by decide +kernel
theorem dX7_part_114 : decode cX7_part 114 = .ok (.ireturn, 1) := by decide +kernel
set_option maxRecDepth 20000 in
theorem ggX7_share_X7_isWord : GoodIn wsX7_share wsX7_isWord := goodIn_r _ [8, 2, 9, 89, 90, 91, 92, 93, 94, 95, 96, 97, 98, 99, 100, 101, 102, 103, 104, 105, 106, 107, 108] (by decide +kernel) (by decide +kernel)
set_option maxRecDepth 20000 in
theorem gX7_share_X7_isWord : GoodIn wsX7_share (wsV RX7 120 RX7 yX7_isWord wsX7_isWord) := goodIn_app (goodIn_of _ (by decide +kernel)) ggX7_share_X7_isWord
set_option maxRecDepth 20000 in
theorem ggX7_share_X7_isPiece : GoodIn wsX7_share wsX7_isPiece := goodIn_r _ [13, 2, 14, 89, 90, 91, 92, 93, 94, 95, 96, 97, 98, 99, 100, 101, 102, 103, 104, 105, 106, 107, 108] (by decide +kernel) (by decide +kernel)
set_option maxRecDepth 20000 in
theorem gX7_share_X7_isPiece : GoodIn wsX7_share (wsV RX7 99 RX7 yX7_isPiece wsX7_isPiece) := goodIn_app (goodIn_of _ (by decide +kernel)) ggX7_share_X7_isPiece
set_option maxRecDepth 20000 in
theorem ggX7_share_X4_read : GoodIn wsX7_share wsX4_read := goodIn_r _ [19, 20, 21, 22, 23, 24, 25, 26, 27, 28, 29, 30, 31, 32, 18, 33, 34, 35, 36, 37, 38, 39, 40, 41, 42, 43, 44, 45, 46, 47, 48, 49, 50, 51, 52, 101, 102, 103, 104, 105, 106, 107, 108, 109, 110, 111, 112] (by decide +kernel) (by decide +kernel)
set_option maxRecDepth 20000 in
theorem gX7_share_X4_read : GoodIn wsX7_share (wsV RX7 201 RX4 yX4_read wsX4_read) := goodIn_app (goodIn_of _ (by decide +kernel)) ggX7_share_X4_read
set_option maxRecDepth 20000 in
theorem ggX7_share_X0_find : GoodIn wsX7_share wsX0_find := goodIn_r _ [57, 58, 59, 60, 61, 62, 63, 64, 65, 66, 31, 32, 18, 33, 21, 34, 35, 36, 37, 67, 68, 69, 70, 23, 71, 72, 73, 74, 29, 44, 45, 46, 75, 76, 77, 56, 78, 113, 114, 115, 109, 110, 111, 112] (by decide +kernel) (by decide +kernel)
set_option maxRecDepth 20000 in
theorem gX7_share_X0_find : GoodIn wsX7_share (wsV RX7 189 RX0 yX0_find wsX0_find) := goodIn_app (goodIn_of _ (by decide +kernel)) ggX7_share_X0_find
set_option maxRecDepth 20000 in
theorem ggX7_share_X0_shareOf : GoodIn wsX7_share wsX0_shareOf := goodIn_r _ [82, 59, 58, 60, 83, 66, 31, 32, 18, 33, 21, 34, 35, 36, 37, 84, 72, 73, 74, 29, 44, 45, 46, 67, 68, 69, 70, 23, 71, 85, 86, 87, 56, 88, 109, 110, 111, 112, 113, 114, 115] (by decide +kernel) (by decide +kernel)
set_option maxRecDepth 20000 in
theorem gX7_share_X0_shareOf : GoodIn wsX7_share (wsV RX7 222 RX0 yX0_shareOf wsX0_shareOf) := goodIn_app (goodIn_of _ (by decide +kernel)) ggX7_share_X0_shareOf
theorem dX7_share_0 : decode cX7_share 0 = .ok (.aload_n 0, 1) := by decide +kernel
theorem dX7_share_1 : decode cX7_share 1 = .ok (.iload_n 1, 1) := by decide +kernel
theorem dX7_share_2 : decode cX7_share 2 = .ok (.invokevirtual 120, 3) := by decide +kernel
theorem dX7_share_5 : decode cX7_share 5 = .ok (.ifCond .eq 11, 3) := by decide +kernel
theorem dX7_share_8 : decode cX7_share 8 = .ok (.aload_n 0, 1) := by decide +kernel
theorem dX7_share_9 : decode cX7_share 9 = .ok (.iload_n 2, 1) := by decide +kernel
theorem dX7_share_10 : decode cX7_share 10 = .ok (.invokevirtual 99, 3) := by decide +kernel
theorem dX7_share_13 : decode cX7_share 13 = .ok (.ifCond .ne 5, 3) := by decide +kernel
theorem dX7_share_16 : decode cX7_share 16 = .ok (.iconst (-1), 1) := by decide +kernel
theorem dX7_share_17 : decode cX7_share 17 = .ok (.ireturn, 1) := by decide +kernel
theorem dX7_share_18 : decode cX7_share 18 = .ok (.aload_n 0, 1) := by decide +kernel
theorem dX7_share_19 : decode cX7_share 19 = .ok (.getfield 44, 3) := by decide +kernel
theorem dX7_share_22 : decode cX7_share 22 = .ok (.aload_n 0, 1) := by decide +kernel
theorem dX7_share_23 : decode cX7_share 23 = .ok (.getfield 10, 3) := by decide +kernel
theorem dX7_share_26 : decode cX7_share 26 = .ok (.iload_n 1, 1) := by decide +kernel
theorem dX7_share_27 : decode cX7_share 27 = .ok (.invokevirtual 201, 3) := by decide +kernel
theorem dX7_share_30 : decode cX7_share 30 = .ok (.aload_n 0, 1) := by decide +kernel
theorem dX7_share_31 : decode cX7_share 31 = .ok (.getfield 58, 3) := by decide +kernel
theorem dX7_share_34 : decode cX7_share 34 = .ok (.aload_n 0, 1) := by decide +kernel
theorem dX7_share_35 : decode cX7_share 35 = .ok (.getfield 44, 3) := by decide +kernel
theorem dX7_share_38 : decode cX7_share 38 = .ok (.invokevirtual 189, 3) := by decide +kernel
theorem dX7_share_41 : decode cX7_share 41 = .ok (.aload_n 0, 1) := by decide +kernel
theorem dX7_share_42 : decode cX7_share 42 = .ok (.getfield 58, 3) := by decide +kernel
theorem dX7_share_45 : decode cX7_share 45 = .ok (.aload_n 0, 1) := by decide +kernel
theorem dX7_share_46 : decode cX7_share 46 = .ok (.getfield 44, 3) := by decide +kernel
theorem dX7_share_49 : decode cX7_share 49 = .ok (.iload_n 2, 1) := by decide +kernel
theorem dX7_share_50 : decode cX7_share 50 = .ok (.invokevirtual 222, 3) := by decide +kernel
theorem dX7_share_53 : decode cX7_share 53 = .ok (.ireturn, 1) := by decide +kernel
set_option maxRecDepth 20000 in
theorem ggX7_count_X7_costOfAll : GoodIn wsX7_count wsX7_costOfAll := goodIn_r _ [12, 3, 13, 14, 15, 16, 17, 11, 18, 19, 20, 21, 22, 23, 24, 25, 26, 27, 28, 29, 30, 31, 32, 33, 34, 35, 36, 37, 38, 39, 40, 41, 42, 43, 44, 45, 46, 47, 48, 49, 50, 51, 52, 53, 54, 55, 56, 57, 58, 59, 60, 61, 62, 63, 64, 65, 66, 67, 68, 69, 70, 71, 72, 73, 74, 75, 76, 77, 78, 79, 80, 81, 82, 83, 84, 85, 86, 87, 88, 89, 90, 91, 92, 93, 116, 117, 118, 119, 120, 121, 122, 123, 104, 105, 106, 107, 108, 109, 110, 111, 112, 113, 114, 115, 128, 129, 130, 131, 132, 133, 134, 135, 136, 137, 138, 139] (by decide +kernel) (by decide +kernel)
set_option maxRecDepth 20000 in
theorem gX7_count_X7_costOfAll : GoodIn wsX7_count (wsV RX7 168 RX7 yX7_costOfAll wsX7_costOfAll) := goodIn_app (goodIn_of _ (by decide +kernel)) ggX7_count_X7_costOfAll
set_option maxRecDepth 20000 in
theorem ggX7_count_X7_lettersOfAll : GoodIn wsX7_count wsX7_lettersOfAll := goodIn_r _ [97, 1, 3, 98, 14, 104, 105, 106, 107, 108, 109, 110, 111, 112, 113, 114, 115, 116, 117, 118, 119, 120, 121, 122, 123] (by decide +kernel) (by decide +kernel)
set_option maxRecDepth 20000 in
theorem gX7_count_X7_lettersOfAll : GoodIn wsX7_count (wsV RX7 226 RX7 yX7_lettersOfAll wsX7_lettersOfAll) := goodIn_app (goodIn_of _ (by decide +kernel)) ggX7_count_X7_lettersOfAll
set_option maxRecDepth 20000 in
theorem ggX7_count_X7_partsOfAll : GoodIn wsX7_count wsX7_partsOfAll := goodIn_r _ [102, 1, 3, 13, 103, 14, 15, 16, 17, 11, 18, 19, 20, 21, 22, 23, 24, 25, 26, 27, 28, 29, 30, 31, 32, 33, 34, 35, 36, 37, 38, 39, 40, 41, 42, 43, 44, 45, 46, 47, 48, 49, 50, 51, 52, 53, 54, 55, 56, 57, 58, 59, 60, 61, 62, 63, 64, 65, 66, 67, 68, 69, 70, 71, 72, 73, 74, 75, 76, 77, 78, 79, 80, 81, 82, 83, 84, 85, 86, 87, 88, 89, 104, 105, 106, 107, 108, 109, 110, 111, 112, 113, 114, 115, 116, 117, 118, 119, 120, 121, 122, 123, 132, 133, 134, 135, 136, 137, 138, 139, 128, 129, 130, 131] (by decide +kernel) (by decide +kernel)
set_option maxRecDepth 20000 in
theorem gX7_count_X7_partsOfAll : GoodIn wsX7_count (wsV RX7 229 RX7 yX7_partsOfAll wsX7_partsOfAll) := goodIn_app (goodIn_of _ (by decide +kernel)) ggX7_count_X7_partsOfAll
theorem dX7_count_0 : decode cX7_count 0 = .ok (.iload_n 1, 1) := by decide +kernel
theorem dX7_count_1 : decode cX7_count 1 = .ok (.tableswitch 112 0 7 #[47, 55, 63, 72, 77, 82, 96, 104], 47) := by decide +kernel
theorem dX7_count_48 : decode cX7_count 48 = .ok (.aload_n 0, 1) := by decide +kernel
theorem dX7_count_49 : decode cX7_count 49 = .ok (.getfield 10, 3) := by decide +kernel
theorem dX7_count_52 : decode cX7_count 52 = .ok (.getfield 96, 3) := by decide +kernel
theorem dX7_count_55 : decode cX7_count 55 = .ok (.ireturn, 1) := by decide +kernel
theorem dX7_count_56 : decode cX7_count 56 = .ok (.aload_n 0, 1) := by decide +kernel
theorem dX7_count_57 : decode cX7_count 57 = .ok (.getfield 10, 3) := by decide +kernel
theorem dX7_count_60 : decode cX7_count 60 = .ok (.getfield 113, 3) := by decide +kernel
theorem dX7_count_63 : decode cX7_count 63 = .ok (.ireturn, 1) := by decide +kernel
theorem dX7_count_64 : decode cX7_count 64 = .ok (.aload_n 0, 1) := by decide +kernel
theorem dX7_count_65 : decode cX7_count 65 = .ok (.aload_n 0, 1) := by decide +kernel
theorem dX7_count_66 : decode cX7_count 66 = .ok (.getfield 10, 3) := by decide +kernel
theorem dX7_count_69 : decode cX7_count 69 = .ok (.invokevirtual 168, 3) := by decide +kernel
theorem dX7_count_72 : decode cX7_count 72 = .ok (.ireturn, 1) := by decide +kernel
theorem dX7_count_73 : decode cX7_count 73 = .ok (.aload_n 0, 1) := by decide +kernel
theorem dX7_count_74 : decode cX7_count 74 = .ok (.invokevirtual 226, 3) := by decide +kernel
theorem dX7_count_77 : decode cX7_count 77 = .ok (.ireturn, 1) := by decide +kernel
theorem dX7_count_78 : decode cX7_count 78 = .ok (.aload_n 0, 1) := by decide +kernel
theorem dX7_count_79 : decode cX7_count 79 = .ok (.invokevirtual 229, 3) := by decide +kernel
theorem dX7_count_82 : decode cX7_count 82 = .ok (.ireturn, 1) := by decide +kernel
theorem dX7_count_83 : decode cX7_count 83 = .ok (.aload_n 0, 1) := by decide +kernel
theorem dX7_count_84 : decode cX7_count 84 = .ok (.aload_n 0, 1) := by decide +kernel
theorem dX7_count_85 : decode cX7_count 85 = .ok (.getfield 10, 3) := by decide +kernel
theorem dX7_count_88 : decode cX7_count 88 = .ok (.invokevirtual 168, 3) := by decide +kernel
theorem dX7_count_91 : decode cX7_count 91 = .ok (.aload_n 0, 1) := by decide +kernel
theorem dX7_count_92 : decode cX7_count 92 = .ok (.invokevirtual 229, 3) := by decide +kernel
theorem dX7_count_95 : decode cX7_count 95 = .ok (.isub, 1) := by decide +kernel
theorem dX7_count_96 : decode cX7_count 96 = .ok (.ireturn, 1) := by decide +kernel
theorem dX7_count_97 : decode cX7_count 97 = .ok (.aload_n 0, 1) := by decide +kernel
theorem dX7_count_98 : decode cX7_count 98 = .ok (.getfield 37, 3) := by decide +kernel
theorem dX7_count_101 : decode cX7_count 101 = .ok (.getfield 88, 3) := by decide +kernel
theorem dX7_count_104 : decode cX7_count 104 = .ok (.ireturn, 1) := by decide +kernel
theorem dX7_count_105 : decode cX7_count 105 = .ok (.aload_n 0, 1) := by decide +kernel
theorem dX7_count_106 : decode cX7_count 106 = .ok (.getfield 30, 3) := by decide +kernel
theorem dX7_count_109 : decode cX7_count 109 = .ok (.getfield 232, 3) := by decide +kernel
theorem dX7_count_112 : decode cX7_count 112 = .ok (.ireturn, 1) := by decide +kernel
theorem dX7_count_113 : decode cX7_count 113 = .ok (.bipush (-2), 2) := by decide +kernel
theorem dX7_count_115 : decode cX7_count 115 = .ok (.ireturn, 1) := by decide +kernel
set_option maxRecDepth 20000 in
theorem ggX7_least_X7_findLeast : GoodIn wsX7_least wsX7_findLeast := goodIn_r _ [5, 6, 7, 8, 9, 10, 11, 12, 4, 13, 14, 15, 16, 17, 18, 19, 20, 21, 22, 23, 24, 25, 26, 27, 28, 29, 30, 31, 32, 33, 34, 35, 36, 37, 38, 39, 40, 41, 42, 43, 44, 45, 46, 47, 48, 49, 50, 51, 52, 53, 54, 55, 56, 57, 58, 59, 60, 61, 62, 63, 64, 65, 66, 67, 68, 69, 70, 71, 72, 73, 74, 75, 76, 77, 78, 79, 80, 81, 82, 83, 84, 85, 86, 87, 88, 89, 90, 91, 92, 93, 94, 95, 96, 97, 98, 99, 100, 101, 102, 103, 104, 105, 106, 107, 108, 109, 110, 111, 112, 113, 114, 115, 116, 117, 118, 119, 120, 121, 122, 123, 124, 125, 126, 127] (by decide +kernel) (by decide +kernel)
set_option maxRecDepth 20000 in
theorem gX7_least_X7_findLeast : GoodIn wsX7_least (wsV RX7 149 RX7 yX7_findLeast wsX7_findLeast) := goodIn_app (goodIn_of _ (by decide +kernel)) ggX7_least_X7_findLeast
theorem dX7_least_0 : decode cX7_least 0 = .ok (.aload_n 0, 1) := by decide +kernel
theorem dX7_least_1 : decode cX7_least 1 = .ok (.invokevirtual 149, 3) := by decide +kernel
theorem dX7_least_4 : decode cX7_least 4 = .ok (.istore_n 1, 1) := by decide +kernel
theorem dX7_least_5 : decode cX7_least 5 = .ok (.iload_n 1, 1) := by decide +kernel
theorem dX7_least_6 : decode cX7_least 6 = .ok (.iconst (-1), 1) := by decide +kernel
theorem dX7_least_7 : decode cX7_least 7 = .ok (.if_icmp .ne 8, 3) := by decide +kernel
theorem dX7_least_10 : decode cX7_least 10 = .ok (.bipush (-6), 2) := by decide +kernel
theorem dX7_least_12 : decode cX7_least 12 = .ok (.goto 4, 3) := by decide +kernel
theorem dX7_least_15 : decode cX7_least 15 = .ok (.iload_n 1, 1) := by decide +kernel
theorem dX7_least_16 : decode cX7_least 16 = .ok (.ireturn, 1) := by decide +kernel
set_option maxRecDepth 20000 in
theorem ggX7_put_X7_charactersIn : GoodIn wsX7_put wsX7_charactersIn := goodIn_r _ [6, 7] (by decide +kernel) (by decide +kernel)
set_option maxRecDepth 20000 in
theorem gX7_put_X7_charactersIn : GoodIn wsX7_put (va_wsS RX7 241 yX7_charactersIn wsX7_charactersIn) := goodIn_app (goodIn_of _ (by decide +kernel)) ggX7_put_X7_charactersIn
set_option maxRecDepth 20000 in
theorem ggX7_put_X6_append : GoodIn wsX7_put wsX6_append := goodIn_r _ [12, 13, 14, 27, 28] (by decide +kernel) (by decide +kernel)
set_option maxRecDepth 20000 in
theorem gX7_put_X6_append : GoodIn wsX7_put (wsV RX7 245 RX6 yX6_append wsX6_append) := goodIn_app (goodIn_of _ (by decide +kernel)) ggX7_put_X6_append
theorem dX7_put_0 : decode cX7_put 0 = .ok (.lload_n 1, 1) := by decide +kernel
theorem dX7_put_1 : decode cX7_put 1 = .ok (.invokestatic 241, 3) := by decide +kernel
theorem dX7_put_4 : decode cX7_put 4 = .ok (.istore_n 3, 1) := by decide +kernel
theorem dX7_put_5 : decode cX7_put 5 = .ok (.iload_n 3, 1) := by decide +kernel
theorem dX7_put_6 : decode cX7_put 6 = .ok (.ifCond .ne 6, 3) := by decide +kernel
theorem dX7_put_9 : decode cX7_put 9 = .ok (.bipush (-2), 2) := by decide +kernel
theorem dX7_put_11 : decode cX7_put 11 = .ok (.ireturn, 1) := by decide +kernel
theorem dX7_put_12 : decode cX7_put 12 = .ok (.aload_n 0, 1) := by decide +kernel
theorem dX7_put_13 : decode cX7_put 13 = .ok (.getfield 37, 3) := by decide +kernel
theorem dX7_put_16 : decode cX7_put 16 = .ok (.getfield 88, 3) := by decide +kernel
theorem dX7_put_19 : decode cX7_put 19 = .ok (.iload_n 3, 1) := by decide +kernel
theorem dX7_put_20 : decode cX7_put 20 = .ok (.iadd, 1) := by decide +kernel
theorem dX7_put_21 : decode cX7_put 21 = .ok (.bipush 16, 2) := by decide +kernel
theorem dX7_put_23 : decode cX7_put 23 = .ok (.if_icmp .le 6, 3) := by decide +kernel
theorem dX7_put_26 : decode cX7_put 26 = .ok (.bipush (-4), 2) := by decide +kernel
theorem dX7_put_28 : decode cX7_put 28 = .ok (.ireturn, 1) := by decide +kernel
theorem dX7_put_29 : decode cX7_put 29 = .ok (.iload_n 3, 1) := by decide +kernel
theorem dX7_put_30 : decode cX7_put 30 = .ok (.iconst 1, 1) := by decide +kernel
theorem dX7_put_31 : decode cX7_put 31 = .ok (.isub, 1) := by decide +kernel
theorem dX7_put_32 : decode cX7_put 32 = .ok (.istore 4, 2) := by decide +kernel
theorem dX7_put_34 : decode cX7_put 34 = .ok (.iload 4, 2) := by decide +kernel
theorem dX7_put_36 : decode cX7_put 36 = .ok (.ifCond .lt 28, 3) := by decide +kernel
theorem dX7_put_39 : decode cX7_put 39 = .ok (.aload_n 0, 1) := by decide +kernel
theorem dX7_put_40 : decode cX7_put 40 = .ok (.getfield 37, 3) := by decide +kernel
theorem dX7_put_43 : decode cX7_put 43 = .ok (.lload_n 1, 1) := by decide +kernel
theorem dX7_put_44 : decode cX7_put 44 = .ok (.bipush 8, 2) := by decide +kernel
theorem dX7_put_46 : decode cX7_put 46 = .ok (.iload 4, 2) := by decide +kernel
theorem dX7_put_48 : decode cX7_put 48 = .ok (.imul, 1) := by decide +kernel
theorem dX7_put_49 : decode cX7_put 49 = .ok (.lushr, 1) := by decide +kernel
theorem dX7_put_50 : decode cX7_put 50 = .ok (.l2i, 1) := by decide +kernel
theorem dX7_put_51 : decode cX7_put 51 = .ok (.sipush 255, 3) := by decide +kernel
theorem dX7_put_54 : decode cX7_put 54 = .ok (.iand, 1) := by decide +kernel
theorem dX7_put_55 : decode cX7_put 55 = .ok (.invokevirtual 245, 3) := by decide +kernel
theorem dX7_put_58 : decode cX7_put 58 = .ok (.iinc 4 (-1), 3) := by decide +kernel
theorem dX7_put_61 : decode cX7_put 61 = .ok (.goto (-27), 3) := by decide +kernel
theorem dX7_put_64 : decode cX7_put 64 = .ok (.aload_n 0, 1) := by decide +kernel
theorem dX7_put_65 : decode cX7_put 65 = .ok (.getfield 37, 3) := by decide +kernel
theorem dX7_put_68 : decode cX7_put 68 = .ok (.getfield 88, 3) := by decide +kernel
theorem dX7_put_71 : decode cX7_put 71 = .ok (.ireturn, 1) := by decide +kernel
theorem dX7_wipe_0 : decode cX7_wipe 0 = .ok (.aload_n 0, 1) := by decide +kernel
theorem dX7_wipe_1 : decode cX7_wipe 1 = .ok (.getfield 37, 3) := by decide +kernel
theorem dX7_wipe_4 : decode cX7_wipe 4 = .ok (.getfield 88, 3) := by decide +kernel
theorem dX7_wipe_7 : decode cX7_wipe 7 = .ok (.istore_n 1, 1) := by decide +kernel
theorem dX7_wipe_8 : decode cX7_wipe 8 = .ok (.aload_n 0, 1) := by decide +kernel
theorem dX7_wipe_9 : decode cX7_wipe 9 = .ok (.getfield 37, 3) := by decide +kernel
theorem dX7_wipe_12 : decode cX7_wipe 12 = .ok (.iconst 0, 1) := by decide +kernel
theorem dX7_wipe_13 : decode cX7_wipe 13 = .ok (.putfield 88, 3) := by decide +kernel
theorem dX7_wipe_16 : decode cX7_wipe 16 = .ok (.iload_n 1, 1) := by decide +kernel
theorem dX7_wipe_17 : decode cX7_wipe 17 = .ok (.ireturn, 1) := by decide +kernel
set_option maxRecDepth 20000 in
theorem ggX7_fault_X6_firstNoLetter : GoodIn wsX7_fault wsX6_firstNoLetter := goodIn_r _ [7, 8, 9, 10, 11, 6, 12, 13, 26, 27] (by decide +kernel) (by decide +kernel)
set_option maxRecDepth 20000 in
theorem gX7_fault_X6_firstNoLetter : GoodIn wsX7_fault (wsV RX7 248 RX6 yX6_firstNoLetter wsX6_firstNoLetter) := goodIn_app (goodIn_of _ (by decide +kernel)) ggX7_fault_X6_firstNoLetter
theorem dX7_fault_0 : decode cX7_fault 0 = .ok (.aload_n 0, 1) := by decide +kernel
theorem dX7_fault_1 : decode cX7_fault 1 = .ok (.getfield 37, 3) := by decide +kernel
theorem dX7_fault_4 : decode cX7_fault 4 = .ok (.invokevirtual 248, 3) := by decide +kernel
theorem dX7_fault_7 : decode cX7_fault 7 = .ok (.istore_n 1, 1) := by decide +kernel
theorem dX7_fault_8 : decode cX7_fault 8 = .ok (.iload_n 1, 1) := by decide +kernel
theorem dX7_fault_9 : decode cX7_fault 9 = .ok (.aload_n 0, 1) := by decide +kernel
theorem dX7_fault_10 : decode cX7_fault 10 = .ok (.getfield 37, 3) := by decide +kernel
theorem dX7_fault_13 : decode cX7_fault 13 = .ok (.getfield 88, 3) := by decide +kernel
theorem dX7_fault_16 : decode cX7_fault 16 = .ok (.if_icmp .ge 7, 3) := by decide +kernel
theorem dX7_fault_19 : decode cX7_fault 19 = .ok (.iload_n 1, 1) := by decide +kernel
theorem dX7_fault_20 : decode cX7_fault 20 = .ok (.goto 5, 3) := by decide +kernel
theorem dX7_fault_23 : decode cX7_fault 23 = .ok (.bipush (-6), 2) := by decide +kernel
theorem dX7_fault_25 : decode cX7_fault 25 = .ok (.ireturn, 1) := by decide +kernel
theorem dX7_isPiece_0 : decode cX7_isPiece 0 = .ok (.iload_n 1, 1) := by decide +kernel
theorem dX7_isPiece_1 : decode cX7_isPiece 1 = .ok (.ifCond .lt 18, 3) := by decide +kernel
theorem dX7_isPiece_4 : decode cX7_isPiece 4 = .ok (.iload_n 1, 1) := by decide +kernel
theorem dX7_isPiece_5 : decode cX7_isPiece 5 = .ok (.aload_n 0, 1) := by decide +kernel
theorem dX7_isPiece_6 : decode cX7_isPiece 6 = .ok (.getfield 10, 3) := by decide +kernel
theorem dX7_isPiece_9 : decode cX7_isPiece 9 = .ok (.getfield 96, 3) := by decide +kernel
theorem dX7_isPiece_12 : decode cX7_isPiece 12 = .ok (.if_icmp .ge 7, 3) := by decide +kernel
theorem dX7_isPiece_15 : decode cX7_isPiece 15 = .ok (.iconst 1, 1) := by decide +kernel
theorem dX7_isPiece_16 : decode cX7_isPiece 16 = .ok (.goto 4, 3) := by decide +kernel
theorem dX7_isPiece_19 : decode cX7_isPiece 19 = .ok (.iconst 0, 1) := by decide +kernel
theorem dX7_isPiece_20 : decode cX7_isPiece 20 = .ok (.ireturn, 1) := by decide +kernel
theorem dX7_isWord_0 : decode cX7_isWord 0 = .ok (.iload_n 1, 1) := by decide +kernel
theorem dX7_isWord_1 : decode cX7_isWord 1 = .ok (.ifCond .lt 18, 3) := by decide +kernel
theorem dX7_isWord_4 : decode cX7_isWord 4 = .ok (.iload_n 1, 1) := by decide +kernel
theorem dX7_isWord_5 : decode cX7_isWord 5 = .ok (.aload_n 0, 1) := by decide +kernel
theorem dX7_isWord_6 : decode cX7_isWord 6 = .ok (.getfield 10, 3) := by decide +kernel
theorem dX7_isWord_9 : decode cX7_isWord 9 = .ok (.getfield 113, 3) := by decide +kernel
theorem dX7_isWord_12 : decode cX7_isWord 12 = .ok (.if_icmp .ge 7, 3) := by decide +kernel
theorem dX7_isWord_15 : decode cX7_isWord 15 = .ok (.iconst 1, 1) := by decide +kernel
theorem dX7_isWord_16 : decode cX7_isWord 16 = .ok (.goto 4, 3) := by decide +kernel
theorem dX7_isWord_19 : decode cX7_isWord 19 = .ok (.iconst 0, 1) := by decide +kernel
theorem dX7_isWord_20 : decode cX7_isWord 20 = .ok (.ireturn, 1) := by decide +kernel
set_option maxRecDepth 20000 in
theorem ggX7_newPieceError_X6_holdsLetters : GoodIn wsX7_newPieceError wsX6_holdsLetters := goodIn_r _ [8, 9, 10, 11, 12, 7, 13, 14, 15, 16, 17, 18, 50, 51] (by decide +kernel) (by decide +kernel)
set_option maxRecDepth 20000 in
theorem gX7_newPieceError_X6_holdsLetters : GoodIn wsX7_newPieceError (wsV RX7 110 RX6 yX6_holdsLetters wsX6_holdsLetters) := goodIn_app (goodIn_of _ (by decide +kernel)) ggX7_newPieceError_X6_holdsLetters
set_option maxRecDepth 20000 in
theorem ggX7_newPieceError_X6_text : GoodIn wsX7_newPieceError wsX6_text := goodIn_r _ [22, 9, 14, 15, 16, 7, 17, 18, 50, 51] (by decide +kernel) (by decide +kernel)
set_option maxRecDepth 20000 in
theorem gX7_newPieceError_X6_text : GoodIn wsX7_newPieceError (wsV RX7 84 RX6 yX6_text wsX6_text) := goodIn_app (goodIn_of _ (by decide +kernel)) ggX7_newPieceError_X6_text
set_option maxRecDepth 20000 in
theorem ggX7_newPieceError_X2_pieceWith : GoodIn wsX7_newPieceError wsX2_pieceWith := goodIn_r _ [27, 28, 29, 42, 43, 44, 45, 46, 47, 48, 49] (by decide +kernel) (by decide +kernel)
set_option maxRecDepth 20000 in
theorem gX7_newPieceError_X2_pieceWith : GoodIn wsX7_newPieceError (wsV RX7 254 RX2 yX2_pieceWith wsX2_pieceWith) := goodIn_app (goodIn_of _ (by decide +kernel)) ggX7_newPieceError_X2_pieceWith
theorem dX7_newPieceError_0 : decode cX7_newPieceError 0 = .ok (.aload_n 0, 1) := by decide +kernel
theorem dX7_newPieceError_1 : decode cX7_newPieceError 1 = .ok (.getfield 37, 3) := by decide +kernel
theorem dX7_newPieceError_4 : decode cX7_newPieceError 4 = .ok (.iconst 4, 1) := by decide +kernel
theorem dX7_newPieceError_5 : decode cX7_newPieceError 5 = .ok (.invokevirtual 110, 3) := by decide +kernel
theorem dX7_newPieceError_8 : decode cX7_newPieceError 8 = .ok (.ifCond .ne 6, 3) := by decide +kernel
theorem dX7_newPieceError_11 : decode cX7_newPieceError 11 = .ok (.bipush (-3), 2) := by decide +kernel
theorem dX7_newPieceError_13 : decode cX7_newPieceError 13 = .ok (.ireturn, 1) := by decide +kernel
theorem dX7_newPieceError_14 : decode cX7_newPieceError 14 = .ok (.iload_n 1, 1) := by decide +kernel
theorem dX7_newPieceError_15 : decode cX7_newPieceError 15 = .ok (.iconst 1, 1) := by decide +kernel
theorem dX7_newPieceError_16 : decode cX7_newPieceError 16 = .ok (.if_icmp .lt 9, 3) := by decide +kernel
theorem dX7_newPieceError_19 : decode cX7_newPieceError 19 = .ok (.iload_n 1, 1) := by decide +kernel
theorem dX7_newPieceError_20 : decode cX7_newPieceError 20 = .ok (.bipush 9, 2) := by decide +kernel
theorem dX7_newPieceError_22 : decode cX7_newPieceError 22 = .ok (.if_icmp .le 6, 3) := by decide +kernel
theorem dX7_newPieceError_25 : decode cX7_newPieceError 25 = .ok (.bipush (-2), 2) := by decide +kernel
theorem dX7_newPieceError_27 : decode cX7_newPieceError 27 = .ok (.ireturn, 1) := by decide +kernel
theorem dX7_newPieceError_28 : decode cX7_newPieceError 28 = .ok (.aload_n 0, 1) := by decide +kernel
theorem dX7_newPieceError_29 : decode cX7_newPieceError 29 = .ok (.getfield 10, 3) := by decide +kernel
theorem dX7_newPieceError_32 : decode cX7_newPieceError 32 = .ok (.getfield 96, 3) := by decide +kernel
theorem dX7_newPieceError_35 : decode cX7_newPieceError 35 = .ok (.bipush 16, 2) := by decide +kernel
theorem dX7_newPieceError_37 : decode cX7_newPieceError 37 = .ok (.if_icmp .lt 6, 3) := by decide +kernel
theorem dX7_newPieceError_40 : decode cX7_newPieceError 40 = .ok (.bipush (-4), 2) := by decide +kernel
theorem dX7_newPieceError_42 : decode cX7_newPieceError 42 = .ok (.ireturn, 1) := by decide +kernel
theorem dX7_newPieceError_43 : decode cX7_newPieceError 43 = .ok (.aload_n 0, 1) := by decide +kernel
theorem dX7_newPieceError_44 : decode cX7_newPieceError 44 = .ok (.getfield 10, 3) := by decide +kernel
theorem dX7_newPieceError_47 : decode cX7_newPieceError 47 = .ok (.aload_n 0, 1) := by decide +kernel
theorem dX7_newPieceError_48 : decode cX7_newPieceError 48 = .ok (.getfield 37, 3) := by decide +kernel
theorem dX7_newPieceError_51 : decode cX7_newPieceError 51 = .ok (.invokevirtual 84, 3) := by decide +kernel
theorem dX7_newPieceError_54 : decode cX7_newPieceError 54 = .ok (.invokevirtual 254, 3) := by decide +kernel
theorem dX7_newPieceError_57 : decode cX7_newPieceError 57 = .ok (.iconst (-1), 1) := by decide +kernel
theorem dX7_newPieceError_58 : decode cX7_newPieceError 58 = .ok (.if_icmp .eq 6, 3) := by decide +kernel
theorem dX7_newPieceError_61 : decode cX7_newPieceError 61 = .ok (.bipush (-5), 2) := by decide +kernel
theorem dX7_newPieceError_63 : decode cX7_newPieceError 63 = .ok (.ireturn, 1) := by decide +kernel
theorem dX7_newPieceError_64 : decode cX7_newPieceError 64 = .ok (.iconst 0, 1) := by decide +kernel
theorem dX7_newPieceError_65 : decode cX7_newPieceError 65 = .ok (.ireturn, 1) := by decide +kernel
theorem dX7_charactersIn_0 : decode cX7_charactersIn 0 = .ok (.lload_n 0, 1) := by decide +kernel
theorem dX7_charactersIn_1 : decode cX7_charactersIn 1 = .ok (.lstore_n 2, 1) := by decide +kernel
theorem dX7_charactersIn_2 : decode cX7_charactersIn 2 = .ok (.iconst 0, 1) := by decide +kernel
theorem dX7_charactersIn_3 : decode cX7_charactersIn 3 = .ok (.istore 4, 2) := by decide +kernel
theorem dX7_charactersIn_5 : decode cX7_charactersIn 5 = .ok (.iconst 0, 1) := by decide +kernel
theorem dX7_charactersIn_6 : decode cX7_charactersIn 6 = .ok (.istore 5, 2) := by decide +kernel
theorem dX7_charactersIn_8 : decode cX7_charactersIn 8 = .ok (.iload 5, 2) := by decide +kernel
theorem dX7_charactersIn_10 : decode cX7_charactersIn 10 = .ok (.bipush 8, 2) := by decide +kernel
theorem dX7_charactersIn_12 : decode cX7_charactersIn 12 = .ok (.if_icmp .ge 47, 3) := by decide +kernel
theorem dX7_charactersIn_15 : decode cX7_charactersIn 15 = .ok (.lload_n 2, 1) := by decide +kernel
theorem dX7_charactersIn_16 : decode cX7_charactersIn 16 = .ok (.lconst 0, 1) := by decide +kernel
theorem dX7_charactersIn_17 : decode cX7_charactersIn 17 = .ok (.lcmp, 1) := by decide +kernel
theorem dX7_charactersIn_18 : decode cX7_charactersIn 18 = .ok (.ifCond .eq 41, 3) := by decide +kernel
theorem dX7_charactersIn_21 : decode cX7_charactersIn 21 = .ok (.lload_n 2, 1) := by decide +kernel
theorem dX7_charactersIn_22 : decode cX7_charactersIn 22 = .ok (.ldc2_w 257, 3) := by decide +kernel
theorem dX7_charactersIn_25 : decode cX7_charactersIn 25 = .ok (.land, 1) := by decide +kernel
theorem dX7_charactersIn_26 : decode cX7_charactersIn 26 = .ok (.l2i, 1) := by decide +kernel
theorem dX7_charactersIn_27 : decode cX7_charactersIn 27 = .ok (.istore 6, 2) := by decide +kernel
theorem dX7_charactersIn_29 : decode cX7_charactersIn 29 = .ok (.iload 6, 2) := by decide +kernel
theorem dX7_charactersIn_31 : decode cX7_charactersIn 31 = .ok (.bipush 33, 2) := by decide +kernel
theorem dX7_charactersIn_33 : decode cX7_charactersIn 33 = .ok (.if_icmp .lt 10, 3) := by decide +kernel
theorem dX7_charactersIn_36 : decode cX7_charactersIn 36 = .ok (.iload 6, 2) := by decide +kernel
theorem dX7_charactersIn_38 : decode cX7_charactersIn 38 = .ok (.bipush 126, 2) := by decide +kernel
theorem dX7_charactersIn_40 : decode cX7_charactersIn 40 = .ok (.if_icmp .le 5, 3) := by decide +kernel
theorem dX7_charactersIn_43 : decode cX7_charactersIn 43 = .ok (.iconst 0, 1) := by decide +kernel
theorem dX7_charactersIn_44 : decode cX7_charactersIn 44 = .ok (.ireturn, 1) := by decide +kernel
theorem dX7_charactersIn_45 : decode cX7_charactersIn 45 = .ok (.iinc 4 1, 3) := by decide +kernel
theorem dX7_charactersIn_48 : decode cX7_charactersIn 48 = .ok (.lload_n 2, 1) := by decide +kernel
theorem dX7_charactersIn_49 : decode cX7_charactersIn 49 = .ok (.bipush 8, 2) := by decide +kernel
theorem dX7_charactersIn_51 : decode cX7_charactersIn 51 = .ok (.lushr, 1) := by decide +kernel
theorem dX7_charactersIn_52 : decode cX7_charactersIn 52 = .ok (.lstore_n 2, 1) := by decide +kernel
theorem dX7_charactersIn_53 : decode cX7_charactersIn 53 = .ok (.iinc 5 1, 3) := by decide +kernel
theorem dX7_charactersIn_56 : decode cX7_charactersIn 56 = .ok (.goto (-48), 3) := by decide +kernel
theorem dX7_charactersIn_59 : decode cX7_charactersIn 59 = .ok (.iload 4, 2) := by decide +kernel
theorem dX7_charactersIn_61 : decode cX7_charactersIn 61 = .ok (.ireturn, 1) := by decide +kernel
theorem dX7_letterOfText_0 : decode cX7_letterOfText 0 = .ok (.iload_n 2, 1) := by decide +kernel
theorem dX7_letterOfText_1 : decode cX7_letterOfText 1 = .ok (.iload_n 1, 1) := by decide +kernel
theorem dX7_letterOfText_2 : decode cX7_letterOfText 2 = .ok (.if_icmp .lt 6, 3) := by decide +kernel
theorem dX7_letterOfText_5 : decode cX7_letterOfText 5 = .ok (.bipush (-6), 2) := by decide +kernel
theorem dX7_letterOfText_7 : decode cX7_letterOfText 7 = .ok (.ireturn, 1) := by decide +kernel
theorem dX7_letterOfText_8 : decode cX7_letterOfText 8 = .ok (.iload_n 0, 1) := by decide +kernel
theorem dX7_letterOfText_9 : decode cX7_letterOfText 9 = .ok (.iconst 3, 1) := by decide +kernel
theorem dX7_letterOfText_10 : decode cX7_letterOfText 10 = .ok (.iload_n 1, 1) := by decide +kernel
theorem dX7_letterOfText_11 : decode cX7_letterOfText 11 = .ok (.iconst 1, 1) := by decide +kernel
theorem dX7_letterOfText_12 : decode cX7_letterOfText 12 = .ok (.isub, 1) := by decide +kernel
theorem dX7_letterOfText_13 : decode cX7_letterOfText 13 = .ok (.iload_n 2, 1) := by decide +kernel
theorem dX7_letterOfText_14 : decode cX7_letterOfText 14 = .ok (.isub, 1) := by decide +kernel
theorem dX7_letterOfText_15 : decode cX7_letterOfText 15 = .ok (.imul, 1) := by decide +kernel
theorem dX7_letterOfText_16 : decode cX7_letterOfText 16 = .ok (.ishr, 1) := by decide +kernel
theorem dX7_letterOfText_17 : decode cX7_letterOfText 17 = .ok (.bipush 7, 2) := by decide +kernel
theorem dX7_letterOfText_19 : decode cX7_letterOfText 19 = .ok (.iand, 1) := by decide +kernel
theorem dX7_letterOfText_20 : decode cX7_letterOfText 20 = .ok (.iconst 1, 1) := by decide +kernel
theorem dX7_letterOfText_21 : decode cX7_letterOfText 21 = .ok (.isub, 1) := by decide +kernel
theorem dX7_letterOfText_22 : decode cX7_letterOfText 22 = .ok (.ireturn, 1) := by decide +kernel
set_option maxRecDepth 20000 in
theorem ggX7_cutBest_X4_read : GoodIn wsX7_cutBest wsX4_read := goodIn_r _ [7, 8, 9, 10, 11, 12, 13, 14, 15, 16, 17, 18, 19, 20, 6, 21, 22, 23, 24, 25, 26, 27, 28, 29, 30, 31, 32, 33, 34, 35, 36, 37, 38, 39, 40, 85, 86, 87, 88, 89, 90, 91, 92, 93, 94, 95, 96] (by decide +kernel) (by decide +kernel)
set_option maxRecDepth 20000 in
theorem gX7_cutBest_X4_read : GoodIn wsX7_cutBest (wsV RX7 201 RX4 yX4_read wsX4_read) := goodIn_app (goodIn_of _ (by decide +kernel)) ggX7_cutBest_X4_read
set_option maxRecDepth 20000 in
theorem ggX7_cutBest_X1_find : GoodIn wsX7_cutBest wsX1_find := goodIn_r _ [45, 46, 47, 48, 49, 50, 51, 44, 52, 53, 54, 19, 20, 6, 21, 9, 22, 23, 24, 25, 55, 56, 57, 58, 11, 59, 60, 61, 62, 17, 32, 33, 34, 63, 64, 65, 66, 67, 68, 69, 70, 71, 72, 97, 98, 99, 100, 101, 102, 103, 104, 93, 94, 95, 96] (by decide +kernel) (by decide +kernel)
set_option maxRecDepth 20000 in
theorem gX7_cutBest_X1_find : GoodIn wsX7_cutBest (wsV RX7 259 RX1 yX1_find wsX1_find) := goodIn_app (goodIn_of _ (by decide +kernel)) ggX7_cutBest_X1_find
theorem dX7_cutBest_0 : decode cX7_cutBest 0 = .ok (.aload_n 0, 1) := by decide +kernel
theorem dX7_cutBest_1 : decode cX7_cutBest 1 = .ok (.getfield 44, 3) := by decide +kernel
theorem dX7_cutBest_4 : decode cX7_cutBest 4 = .ok (.aload_n 1, 1) := by decide +kernel
theorem dX7_cutBest_5 : decode cX7_cutBest 5 = .ok (.iload_n 2, 1) := by decide +kernel
theorem dX7_cutBest_6 : decode cX7_cutBest 6 = .ok (.invokevirtual 201, 3) := by decide +kernel
theorem dX7_cutBest_9 : decode cX7_cutBest 9 = .ok (.aload_n 0, 1) := by decide +kernel
theorem dX7_cutBest_10 : decode cX7_cutBest 10 = .ok (.getfield 51, 3) := by decide +kernel
theorem dX7_cutBest_13 : decode cX7_cutBest 13 = .ok (.aload_n 0, 1) := by decide +kernel
theorem dX7_cutBest_14 : decode cX7_cutBest 14 = .ok (.getfield 44, 3) := by decide +kernel
theorem dX7_cutBest_17 : decode cX7_cutBest 17 = .ok (.iconst (-1), 1) := by decide +kernel
theorem dX7_cutBest_18 : decode cX7_cutBest 18 = .ok (.invokevirtual 259, 3) := by decide +kernel
theorem dX7_cutBest_21 : decode cX7_cutBest 21 = .ok (.return_, 1) := by decide +kernel
set_option maxRecDepth 20000 in
theorem ggX7_costOfAll_X7_cutBest : GoodIn wsX7_costOfAll wsX7_cutBest := goodIn_r _ [8, 9, 2, 10, 11, 12, 13, 14, 15, 16, 17, 18, 19, 20, 21, 22, 23, 24, 25, 26, 27, 28, 29, 30, 31, 32, 33, 34, 35, 36, 37, 38, 39, 40, 41, 42, 43, 44, 45, 46, 47, 48, 49, 50, 51, 52, 53, 54, 55, 56, 57, 58, 59, 60, 61, 62, 63, 64, 65, 66, 67, 68, 69, 70, 71, 72, 73, 74, 75, 76, 77, 78, 79, 92, 93, 94, 95, 96, 97, 98, 99, 100, 101, 102, 103, 84, 85, 86, 87, 88, 89, 90, 91, 104, 105, 106, 107, 108, 109, 110, 111, 112, 113, 114, 115] (by decide +kernel) (by decide +kernel)
set_option maxRecDepth 20000 in
theorem gX7_costOfAll_X7_cutBest : GoodIn wsX7_costOfAll (wsV RX7 173 RX7 yX7_cutBest wsX7_cutBest) := goodIn_app (goodIn_of _ (by decide +kernel)) ggX7_costOfAll_X7_cutBest
set_option maxRecDepth 20000 in
theorem ggX7_costOfAll_X1_cost : GoodIn wsX7_costOfAll wsX1_cost := goodIn_r _ [83, 74, 75, 108, 109, 110, 111, 112, 113, 114, 115] (by decide +kernel) (by decide +kernel)
set_option maxRecDepth 20000 in
theorem gX7_costOfAll_X1_cost : GoodIn wsX7_costOfAll (wsV RX7 186 RX1 yX1_cost wsX1_cost) := goodIn_app (goodIn_of _ (by decide +kernel)) ggX7_costOfAll_X1_cost
theorem dX7_costOfAll_0 : decode cX7_costOfAll 0 = .ok (.iconst 0, 1) := by decide +kernel
theorem dX7_costOfAll_1 : decode cX7_costOfAll 1 = .ok (.istore_n 2, 1) := by decide +kernel
theorem dX7_costOfAll_2 : decode cX7_costOfAll 2 = .ok (.iconst 0, 1) := by decide +kernel
theorem dX7_costOfAll_3 : decode cX7_costOfAll 3 = .ok (.istore_n 3, 1) := by decide +kernel
theorem dX7_costOfAll_4 : decode cX7_costOfAll 4 = .ok (.iload_n 3, 1) := by decide +kernel
theorem dX7_costOfAll_5 : decode cX7_costOfAll 5 = .ok (.aload_n 1, 1) := by decide +kernel
theorem dX7_costOfAll_6 : decode cX7_costOfAll 6 = .ok (.getfield 113, 3) := by decide +kernel
theorem dX7_costOfAll_9 : decode cX7_costOfAll 9 = .ok (.if_icmp .ge 32, 3) := by decide +kernel
theorem dX7_costOfAll_12 : decode cX7_costOfAll 12 = .ok (.aload_n 0, 1) := by decide +kernel
theorem dX7_costOfAll_13 : decode cX7_costOfAll 13 = .ok (.aload_n 1, 1) := by decide +kernel
theorem dX7_costOfAll_14 : decode cX7_costOfAll 14 = .ok (.iload_n 3, 1) := by decide +kernel
theorem dX7_costOfAll_15 : decode cX7_costOfAll 15 = .ok (.invokevirtual 173, 3) := by decide +kernel
theorem dX7_costOfAll_18 : decode cX7_costOfAll 18 = .ok (.iload_n 2, 1) := by decide +kernel
theorem dX7_costOfAll_19 : decode cX7_costOfAll 19 = .ok (.aload_n 0, 1) := by decide +kernel
theorem dX7_costOfAll_20 : decode cX7_costOfAll 20 = .ok (.getfield 51, 3) := by decide +kernel
theorem dX7_costOfAll_23 : decode cX7_costOfAll 23 = .ok (.invokevirtual 186, 3) := by decide +kernel
theorem dX7_costOfAll_26 : decode cX7_costOfAll 26 = .ok (.aload_n 1, 1) := by decide +kernel
theorem dX7_costOfAll_27 : decode cX7_costOfAll 27 = .ok (.getfield 123, 3) := by decide +kernel
theorem dX7_costOfAll_30 : decode cX7_costOfAll 30 = .ok (.iload_n 3, 1) := by decide +kernel
theorem dX7_costOfAll_31 : decode cX7_costOfAll 31 = .ok (.iaload, 1) := by decide +kernel
theorem dX7_costOfAll_32 : decode cX7_costOfAll 32 = .ok (.imul, 1) := by decide +kernel
theorem dX7_costOfAll_33 : decode cX7_costOfAll 33 = .ok (.iadd, 1) := by decide +kernel
theorem dX7_costOfAll_34 : decode cX7_costOfAll 34 = .ok (.istore_n 2, 1) := by decide +kernel
theorem dX7_costOfAll_35 : decode cX7_costOfAll 35 = .ok (.iinc 3 1, 3) := by decide +kernel
theorem dX7_costOfAll_38 : decode cX7_costOfAll 38 = .ok (.goto (-34), 3) := by decide +kernel
theorem dX7_costOfAll_41 : decode cX7_costOfAll 41 = .ok (.iload_n 2, 1) := by decide +kernel
theorem dX7_costOfAll_42 : decode cX7_costOfAll 42 = .ok (.ireturn, 1) := by decide +kernel
theorem dX7_lettersOfAll_0 : decode cX7_lettersOfAll 0 = .ok (.iconst 0, 1) := by decide +kernel
theorem dX7_lettersOfAll_1 : decode cX7_lettersOfAll 1 = .ok (.istore_n 1, 1) := by decide +kernel
theorem dX7_lettersOfAll_2 : decode cX7_lettersOfAll 2 = .ok (.iconst 0, 1) := by decide +kernel
theorem dX7_lettersOfAll_3 : decode cX7_lettersOfAll 3 = .ok (.istore_n 2, 1) := by decide +kernel
theorem dX7_lettersOfAll_4 : decode cX7_lettersOfAll 4 = .ok (.iload_n 2, 1) := by decide +kernel
theorem dX7_lettersOfAll_5 : decode cX7_lettersOfAll 5 = .ok (.aload_n 0, 1) := by decide +kernel
theorem dX7_lettersOfAll_6 : decode cX7_lettersOfAll 6 = .ok (.getfield 10, 3) := by decide +kernel
theorem dX7_lettersOfAll_9 : decode cX7_lettersOfAll 9 = .ok (.getfield 113, 3) := by decide +kernel
theorem dX7_lettersOfAll_12 : decode cX7_lettersOfAll 12 = .ok (.if_icmp .ge 31, 3) := by decide +kernel
theorem dX7_lettersOfAll_15 : decode cX7_lettersOfAll 15 = .ok (.iload_n 1, 1) := by decide +kernel
theorem dX7_lettersOfAll_16 : decode cX7_lettersOfAll 16 = .ok (.aload_n 0, 1) := by decide +kernel
theorem dX7_lettersOfAll_17 : decode cX7_lettersOfAll 17 = .ok (.getfield 10, 3) := by decide +kernel
theorem dX7_lettersOfAll_20 : decode cX7_lettersOfAll 20 = .ok (.getfield 177, 3) := by decide +kernel
theorem dX7_lettersOfAll_23 : decode cX7_lettersOfAll 23 = .ok (.iload_n 2, 1) := by decide +kernel
theorem dX7_lettersOfAll_24 : decode cX7_lettersOfAll 24 = .ok (.iaload, 1) := by decide +kernel
theorem dX7_lettersOfAll_25 : decode cX7_lettersOfAll 25 = .ok (.aload_n 0, 1) := by decide +kernel
theorem dX7_lettersOfAll_26 : decode cX7_lettersOfAll 26 = .ok (.getfield 10, 3) := by decide +kernel
theorem dX7_lettersOfAll_29 : decode cX7_lettersOfAll 29 = .ok (.getfield 123, 3) := by decide +kernel
theorem dX7_lettersOfAll_32 : decode cX7_lettersOfAll 32 = .ok (.iload_n 2, 1) := by decide +kernel
theorem dX7_lettersOfAll_33 : decode cX7_lettersOfAll 33 = .ok (.iaload, 1) := by decide +kernel
theorem dX7_lettersOfAll_34 : decode cX7_lettersOfAll 34 = .ok (.imul, 1) := by decide +kernel
theorem dX7_lettersOfAll_35 : decode cX7_lettersOfAll 35 = .ok (.iadd, 1) := by decide +kernel
theorem dX7_lettersOfAll_36 : decode cX7_lettersOfAll 36 = .ok (.istore_n 1, 1) := by decide +kernel
theorem dX7_lettersOfAll_37 : decode cX7_lettersOfAll 37 = .ok (.iinc 2 1, 3) := by decide +kernel
theorem dX7_lettersOfAll_40 : decode cX7_lettersOfAll 40 = .ok (.goto (-36), 3) := by decide +kernel
theorem dX7_lettersOfAll_43 : decode cX7_lettersOfAll 43 = .ok (.iload_n 1, 1) := by decide +kernel
theorem dX7_lettersOfAll_44 : decode cX7_lettersOfAll 44 = .ok (.ireturn, 1) := by decide +kernel
set_option maxRecDepth 20000 in
theorem ggX7_partsOfAll_X7_cutBest : GoodIn wsX7_partsOfAll wsX7_cutBest := goodIn_r _ [10, 11, 3, 12, 13, 14, 15, 16, 17, 18, 19, 20, 21, 22, 23, 24, 25, 26, 27, 28, 29, 30, 31, 32, 33, 34, 35, 36, 37, 38, 39, 40, 41, 42, 43, 44, 45, 46, 47, 48, 49, 50, 51, 52, 53, 54, 55, 56, 57, 58, 59, 60, 61, 62, 63, 64, 65, 66, 67, 68, 69, 70, 71, 72, 73, 74, 75, 76, 77, 78, 79, 80, 81, 82, 83, 84, 85, 86, 87, 88, 89, 90, 91, 92, 93, 94, 95, 96, 97, 98, 99, 100, 101, 110, 111, 112, 113, 102, 103, 104, 105, 106, 107, 108, 109] (by decide +kernel) (by decide +kernel)
set_option maxRecDepth 20000 in
theorem gX7_partsOfAll_X7_cutBest : GoodIn wsX7_partsOfAll (wsV RX7 173 RX7 yX7_cutBest wsX7_cutBest) := goodIn_app (goodIn_of _ (by decide +kernel)) ggX7_partsOfAll_X7_cutBest
theorem dX7_partsOfAll_0 : decode cX7_partsOfAll 0 = .ok (.iconst 0, 1) := by decide +kernel
theorem dX7_partsOfAll_1 : decode cX7_partsOfAll 1 = .ok (.istore_n 1, 1) := by decide +kernel
theorem dX7_partsOfAll_2 : decode cX7_partsOfAll 2 = .ok (.iconst 0, 1) := by decide +kernel
theorem dX7_partsOfAll_3 : decode cX7_partsOfAll 3 = .ok (.istore_n 2, 1) := by decide +kernel
theorem dX7_partsOfAll_4 : decode cX7_partsOfAll 4 = .ok (.iload_n 2, 1) := by decide +kernel
theorem dX7_partsOfAll_5 : decode cX7_partsOfAll 5 = .ok (.aload_n 0, 1) := by decide +kernel
