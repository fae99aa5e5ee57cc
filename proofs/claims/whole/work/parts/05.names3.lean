theorem dX7_put_54 : decode cX7_put 54 = .ok (.iand, 1) := by decide +kernel
theorem dX7_put_55 : decode cX7_put 55 = .ok (.invokevirtual 245, 3) := by decide +kernel
theorem dX7_put_58 : decode cX7_put 58 = .ok (.iinc 4 (-1), 3) := by decide +kernel
theorem dX7_put_61 : decode cX7_put 61 = .ok (.goto (-27), 3) := by decide +kernel
theorem dX7_put_64 : decode cX7_put 64 = .ok (.aload_n 0, 1) := by decide +kernel
theorem dX7_put_65 : decode cX7_put 65 = .ok (.getfield 37, 3) := by decide +kernel
theorem dX7_put_68 : decode cX7_put 68 = .ok (.getfield 88, 3) := by decide +kernel
theorem dX7_put_71 : decode cX7_put 71 = .ok (.ireturn, 1) := by decide +kernel
theorem dX7_wipe_0 : decode cX7_wipe 0 = .ok (.aload_n 0, 1) := by decide +kernel
theorem dX7_wipe_1 : decode cX7_wipe 1 = .ok (.getfield 37, 3) := by decide +kernel
theorem dX7_wipe_4 : decode cX7_wipe 4 = .ok (.getfield 88, 3) := by decide +kernel
theorem dX7_wipe_7 : decode cX7_wipe 7 = .ok (.istore_n 1, 1) := by decide +kernel
theorem dX7_wipe_8 : decode cX7_wipe 8 = .ok (.aload_n 0, 1) := by decide +kernel
theorem dX7_wipe_9 : decode cX7_wipe 9 = .ok (.getfield 37, 3) := by decide +kernel
theorem dX7_wipe_12 : decode cX7_wipe 12 = .ok (.iconst 0, 1) := by decide +kernel
theorem dX7_wipe_13 : decode cX7_wipe 13 = .ok (.putfield 88, 3) := by decide +kernel
theorem dX7_wipe_16 : decode cX7_wipe 16 = .ok (.iload_n 1, 1) := by decide +kernel
theorem dX7_wipe_17 : decode cX7_wipe 17 = .ok (.ireturn, 1) := by decide +kernel
set_option maxRecDepth 20000 in
theorem ggX7_fault_X6_firstNoLetter : GoodIn wsX7_fault wsX6_firstNoLetter := goodIn_r _ [7, 8, 9, 10, 11, 6, 12, 13, 26, 27] (by decide +kernel) (by decide +kernel)
set_option maxRecDepth 20000 in
theorem gX7_fault_X6_firstNoLetter : GoodIn wsX7_fault (wsV RX7 248 RX6 yX6_firstNoLetter wsX6_firstNoLetter) := goodIn_app (goodIn_of _ (by decide +kernel)) ggX7_fault_X6_firstNoLetter
theorem dX7_fault_0 : decode cX7_fault 0 = .ok (.aload_n 0, 1) := by decide +kernel
theorem dX7_fault_1 : decode cX7_fault 1 = .ok (.getfield 37, 3) := by decide +kernel
theorem dX7_fault_4 : decode cX7_fault 4 = .ok (.invokevirtual 248, 3) := by decide +kernel
theorem dX7_fault_7 : decode cX7_fault 7 = .ok (.istore_n 1, 1) := by decide +kernel
theorem dX7_fault_8 : decode cX7_fault 8 = .ok (.iload_n 1, 1) := by decide +kernel
theorem dX7_fault_9 : decode cX7_fault 9 = .ok (.aload_n 0, 1) := by decide +kernel
theorem dX7_fault_10 : decode cX7_fault 10 = .ok (.getfield 37, 3) := by decide +kernel
theorem dX7_fault_13 : decode cX7_fault 13 = .ok (.getfield 88, 3) := by decide +kernel
theorem dX7_fault_16 : decode cX7_fault 16 = .ok (.if_icmp .ge 7, 3) := by decide +kernel
theorem dX7_fault_19 : decode cX7_fault 19 = .ok (.iload_n 1, 1) := by decide +kernel
theorem dX7_fault_20 : decode cX7_fault 20 = .ok (.goto 5, 3) := by decide +kernel
theorem dX7_fault_23 : decode cX7_fault 23 = .ok (.bipush (-6), 2) := by decide +kernel
theorem dX7_fault_25 : decode cX7_fault 25 = .ok (.ireturn, 1) := by decide +kernel
set_option maxRecDepth 20000 in
theorem ggX7_undo_X3_takeBack : GoodIn wsX7_undo wsX3_takeBack := goodIn_r _ [8, 9, 10, 11, 12, 13, 14, 15, 16, 17, 18, 19, 20, 21, 22, 23, 24, 25, 26, 27, 40, 41, 42, 43, 44, 45, 46, 47, 48, 49] (by decide +kernel) (by decide +kernel)
set_option maxRecDepth 20000 in
theorem gX7_undo_X3_takeBack : GoodIn wsX7_undo (wsV RX7 251 RX3 yX3_takeBack wsX3_takeBack) := goodIn_app (goodIn_of _ (by decide +kernel)) ggX7_undo_X3_takeBack
theorem dX7_undo_0 : decode cX7_undo 0 = .ok (.aload_n 0, 1) := by decide +kernel
theorem dX7_undo_1 : decode cX7_undo 1 = .ok (.getfield 30, 3) := by decide +kernel
theorem dX7_undo_4 : decode cX7_undo 4 = .ok (.getfield 232, 3) := by decide +kernel
theorem dX7_undo_7 : decode cX7_undo 7 = .ok (.ifCond .ne 6, 3) := by decide +kernel
theorem dX7_undo_10 : decode cX7_undo 10 = .ok (.bipush (-5), 2) := by decide +kernel
theorem dX7_undo_12 : decode cX7_undo 12 = .ok (.ireturn, 1) := by decide +kernel
theorem dX7_undo_13 : decode cX7_undo 13 = .ok (.aload_n 0, 1) := by decide +kernel
theorem dX7_undo_14 : decode cX7_undo 14 = .ok (.getfield 30, 3) := by decide +kernel
theorem dX7_undo_17 : decode cX7_undo 17 = .ok (.aload_n 0, 1) := by decide +kernel
theorem dX7_undo_18 : decode cX7_undo 18 = .ok (.getfield 10, 3) := by decide +kernel
theorem dX7_undo_21 : decode cX7_undo 21 = .ok (.invokevirtual 251, 3) := by decide +kernel
theorem dX7_undo_24 : decode cX7_undo 24 = .ok (.aload_n 0, 1) := by decide +kernel
theorem dX7_undo_25 : decode cX7_undo 25 = .ok (.getfield 30, 3) := by decide +kernel
theorem dX7_undo_28 : decode cX7_undo 28 = .ok (.getfield 232, 3) := by decide +kernel
theorem dX7_undo_31 : decode cX7_undo 31 = .ok (.ireturn, 1) := by decide +kernel
set_option maxRecDepth 20000 in
theorem ggX7_save_X2_copyFrom : GoodIn wsX7_save wsX2_copyFrom := goodIn_r _ [9, 10, 11, 12, 13, 14, 15, 16, 17, 18, 19, 20, 21, 34, 35, 36, 37, 38, 39, 40, 41] (by decide +kernel) (by decide +kernel)
set_option maxRecDepth 20000 in
theorem gX7_save_X2_copyFrom : GoodIn wsX7_save (wsV RX7 235 RX2 yX2_copyFrom wsX2_copyFrom) := goodIn_app (goodIn_of _ (by decide +kernel)) ggX7_save_X2_copyFrom
theorem dX7_save_0 : decode cX7_save 0 = .ok (.iload_n 1, 1) := by decide +kernel
theorem dX7_save_1 : decode cX7_save 1 = .ok (.ifCond .lt 8, 3) := by decide +kernel
theorem dX7_save_4 : decode cX7_save 4 = .ok (.iload_n 1, 1) := by decide +kernel
theorem dX7_save_5 : decode cX7_save 5 = .ok (.iconst 2, 1) := by decide +kernel
theorem dX7_save_6 : decode cX7_save 6 = .ok (.if_icmp .lt 6, 3) := by decide +kernel
theorem dX7_save_9 : decode cX7_save 9 = .ok (.bipush (-2), 2) := by decide +kernel
theorem dX7_save_11 : decode cX7_save 11 = .ok (.ireturn, 1) := by decide +kernel
theorem dX7_save_12 : decode cX7_save 12 = .ok (.aload_n 0, 1) := by decide +kernel
theorem dX7_save_13 : decode cX7_save 13 = .ok (.getfield 19, 3) := by decide +kernel
theorem dX7_save_16 : decode cX7_save 16 = .ok (.iload_n 1, 1) := by decide +kernel
theorem dX7_save_17 : decode cX7_save 17 = .ok (.aaload, 1) := by decide +kernel
theorem dX7_save_18 : decode cX7_save 18 = .ok (.aload_n 0, 1) := by decide +kernel
theorem dX7_save_19 : decode cX7_save 19 = .ok (.getfield 10, 3) := by decide +kernel
theorem dX7_save_22 : decode cX7_save 22 = .ok (.invokevirtual 235, 3) := by decide +kernel
theorem dX7_save_25 : decode cX7_save 25 = .ok (.aload_n 0, 1) := by decide +kernel
theorem dX7_save_26 : decode cX7_save 26 = .ok (.getfield 23, 3) := by decide +kernel
theorem dX7_save_29 : decode cX7_save 29 = .ok (.iload_n 1, 1) := by decide +kernel
theorem dX7_save_30 : decode cX7_save 30 = .ok (.iconst 1, 1) := by decide +kernel
theorem dX7_save_31 : decode cX7_save 31 = .ok (.bastore, 1) := by decide +kernel
theorem dX7_save_32 : decode cX7_save 32 = .ok (.aload_n 0, 1) := by decide +kernel
theorem dX7_save_33 : decode cX7_save 33 = .ok (.getfield 10, 3) := by decide +kernel
theorem dX7_save_36 : decode cX7_save 36 = .ok (.getfield 96, 3) := by decide +kernel
theorem dX7_save_39 : decode cX7_save 39 = .ok (.ireturn, 1) := by decide +kernel
set_option maxRecDepth 20000 in
theorem ggX7_restore_X3_record : GoodIn wsX7_restore wsX3_record := goodIn_r _ [10, 11, 12, 13, 14, 15, 9, 16, 17, 18, 19, 20, 21, 22, 23, 24, 25, 26, 27, 28, 29, 30, 31, 32, 33, 55, 56, 47, 48, 49, 50, 51, 52, 53, 54] (by decide +kernel) (by decide +kernel)
set_option maxRecDepth 20000 in
theorem gX7_restore_X3_record : GoodIn wsX7_restore (wsV RX7 80 RX3 yX3_record wsX3_record) := goodIn_app (goodIn_of _ (by decide +kernel)) ggX7_restore_X3_record
set_option maxRecDepth 20000 in
theorem ggX7_restore_X2_copyFrom : GoodIn wsX7_restore wsX2_copyFrom := goodIn_r _ [21, 22, 23, 24, 25, 26, 27, 28, 29, 30, 31, 32, 33, 47, 48, 49, 50, 51, 52, 53, 54] (by decide +kernel) (by decide +kernel)
set_option maxRecDepth 20000 in
theorem gX7_restore_X2_copyFrom : GoodIn wsX7_restore (wsV RX7 235 RX2 yX2_copyFrom wsX2_copyFrom) := goodIn_app (goodIn_of _ (by decide +kernel)) ggX7_restore_X2_copyFrom
theorem dX7_restore_0 : decode cX7_restore 0 = .ok (.iload_n 1, 1) := by decide +kernel
theorem dX7_restore_1 : decode cX7_restore 1 = .ok (.ifCond .lt 8, 3) := by decide +kernel
theorem dX7_restore_4 : decode cX7_restore 4 = .ok (.iload_n 1, 1) := by decide +kernel
theorem dX7_restore_5 : decode cX7_restore 5 = .ok (.iconst 2, 1) := by decide +kernel
theorem dX7_restore_6 : decode cX7_restore 6 = .ok (.if_icmp .lt 6, 3) := by decide +kernel
theorem dX7_restore_9 : decode cX7_restore 9 = .ok (.bipush (-2), 2) := by decide +kernel
theorem dX7_restore_11 : decode cX7_restore 11 = .ok (.ireturn, 1) := by decide +kernel
theorem dX7_restore_12 : decode cX7_restore 12 = .ok (.aload_n 0, 1) := by decide +kernel
theorem dX7_restore_13 : decode cX7_restore 13 = .ok (.getfield 23, 3) := by decide +kernel
theorem dX7_restore_16 : decode cX7_restore 16 = .ok (.iload_n 1, 1) := by decide +kernel
theorem dX7_restore_17 : decode cX7_restore 17 = .ok (.baload, 1) := by decide +kernel
theorem dX7_restore_18 : decode cX7_restore 18 = .ok (.ifCond .ne 6, 3) := by decide +kernel
theorem dX7_restore_21 : decode cX7_restore 21 = .ok (.bipush (-5), 2) := by decide +kernel
theorem dX7_restore_23 : decode cX7_restore 23 = .ok (.ireturn, 1) := by decide +kernel
theorem dX7_restore_24 : decode cX7_restore 24 = .ok (.aload_n 0, 1) := by decide +kernel
theorem dX7_restore_25 : decode cX7_restore 25 = .ok (.getfield 30, 3) := by decide +kernel
theorem dX7_restore_28 : decode cX7_restore 28 = .ok (.aload_n 0, 1) := by decide +kernel
theorem dX7_restore_29 : decode cX7_restore 29 = .ok (.getfield 10, 3) := by decide +kernel
theorem dX7_restore_32 : decode cX7_restore 32 = .ok (.invokevirtual 80, 3) := by decide +kernel
theorem dX7_restore_35 : decode cX7_restore 35 = .ok (.aload_n 0, 1) := by decide +kernel
theorem dX7_restore_36 : decode cX7_restore 36 = .ok (.getfield 10, 3) := by decide +kernel
theorem dX7_restore_39 : decode cX7_restore 39 = .ok (.aload_n 0, 1) := by decide +kernel
theorem dX7_restore_40 : decode cX7_restore 40 = .ok (.getfield 19, 3) := by decide +kernel
theorem dX7_restore_43 : decode cX7_restore 43 = .ok (.iload_n 1, 1) := by decide +kernel
theorem dX7_restore_44 : decode cX7_restore 44 = .ok (.aaload, 1) := by decide +kernel
theorem dX7_restore_45 : decode cX7_restore 45 = .ok (.invokevirtual 235, 3) := by decide +kernel
theorem dX7_restore_48 : decode cX7_restore 48 = .ok (.aload_n 0, 1) := by decide +kernel
theorem dX7_restore_49 : decode cX7_restore 49 = .ok (.getfield 10, 3) := by decide +kernel
theorem dX7_restore_52 : decode cX7_restore 52 = .ok (.getfield 96, 3) := by decide +kernel
theorem dX7_restore_55 : decode cX7_restore 55 = .ok (.ireturn, 1) := by decide +kernel
theorem dX7_isPiece_0 : decode cX7_isPiece 0 = .ok (.iload_n 1, 1) := by decide +kernel
theorem dX7_isPiece_1 : decode cX7_isPiece 1 = .ok (.ifCond .lt 18, 3) := by decide +kernel
theorem dX7_isPiece_4 : decode cX7_isPiece 4 = .ok (.iload_n 1, 1) := by decide +kernel
theorem dX7_isPiece_5 : decode cX7_isPiece 5 = .ok (.aload_n 0, 1) := by decide +kernel
theorem dX7_isPiece_6 : decode cX7_isPiece 6 = .ok (.getfield 10, 3) := by decide +kernel
theorem dX7_isPiece_9 : decode cX7_isPiece 9 = .ok (.getfield 96, 3) := by decide +kernel
theorem dX7_isPiece_12 : decode cX7_isPiece 12 = .ok (.if_icmp .ge 7, 3) := by decide +kernel
theorem dX7_isPiece_15 : decode cX7_isPiece 15 = .ok (.iconst 1, 1) := by decide +kernel
theorem dX7_isPiece_16 : decode cX7_isPiece 16 = .ok (.goto 4, 3) := by decide +kernel
theorem dX7_isPiece_19 : decode cX7_isPiece 19 = .ok (.iconst 0, 1) := by decide +kernel
theorem dX7_isPiece_20 : decode cX7_isPiece 20 = .ok (.ireturn, 1) := by decide +kernel
theorem dX7_isWord_0 : decode cX7_isWord 0 = .ok (.iload_n 1, 1) := by decide +kernel
theorem dX7_isWord_1 : decode cX7_isWord 1 = .ok (.ifCond .lt 18, 3) := by decide +kernel
theorem dX7_isWord_4 : decode cX7_isWord 4 = .ok (.iload_n 1, 1) := by decide +kernel
theorem dX7_isWord_5 : decode cX7_isWord 5 = .ok (.aload_n 0, 1) := by decide +kernel
theorem dX7_isWord_6 : decode cX7_isWord 6 = .ok (.getfield 10, 3) := by decide +kernel
theorem dX7_isWord_9 : decode cX7_isWord 9 = .ok (.getfield 113, 3) := by decide +kernel
theorem dX7_isWord_12 : decode cX7_isWord 12 = .ok (.if_icmp .ge 7, 3) := by decide +kernel
theorem dX7_isWord_15 : decode cX7_isWord 15 = .ok (.iconst 1, 1) := by decide +kernel
theorem dX7_isWord_16 : decode cX7_isWord 16 = .ok (.goto 4, 3) := by decide +kernel
theorem dX7_isWord_19 : decode cX7_isWord 19 = .ok (.iconst 0, 1) := by decide +kernel
theorem dX7_isWord_20 : decode cX7_isWord 20 = .ok (.ireturn, 1) := by decide +kernel
set_option maxRecDepth 20000 in
theorem ggX7_newPieceError_X6_holdsLetters : GoodIn wsX7_newPieceError wsX6_holdsLetters := goodIn_r _ [8, 9, 10, 11, 12, 7, 13, 14, 15, 16, 17, 18, 50, 51] (by decide +kernel) (by decide +kernel)
set_option maxRecDepth 20000 in
theorem gX7_newPieceError_X6_holdsLetters : GoodIn wsX7_newPieceError (wsV RX7 110 RX6 yX6_holdsLetters wsX6_holdsLetters) := goodIn_app (goodIn_of _ (by decide +kernel)) ggX7_newPieceError_X6_holdsLetters
set_option maxRecDepth 20000 in
theorem ggX7_newPieceError_X6_text : GoodIn wsX7_newPieceError wsX6_text := goodIn_r _ [22, 9, 14, 15, 16, 7, 17, 18, 50, 51] (by decide +kernel) (by decide +kernel)
set_option maxRecDepth 20000 in
theorem gX7_newPieceError_X6_text : GoodIn wsX7_newPieceError (wsV RX7 84 RX6 yX6_text wsX6_text) := goodIn_app (goodIn_of _ (by decide +kernel)) ggX7_newPieceError_X6_text
set_option maxRecDepth 20000 in
theorem ggX7_newPieceError_X2_pieceWith : GoodIn wsX7_newPieceError wsX2_pieceWith := goodIn_r _ [27, 28, 29, 42, 43, 44, 45, 46, 47, 48, 49] (by decide +kernel) (by decide +kernel)
set_option maxRecDepth 20000 in
theorem gX7_newPieceError_X2_pieceWith : GoodIn wsX7_newPieceError (wsV RX7 254 RX2 yX2_pieceWith wsX2_pieceWith) := goodIn_app (goodIn_of _ (by decide +kernel)) ggX7_newPieceError_X2_pieceWith
theorem dX7_newPieceError_0 : decode cX7_newPieceError 0 = .ok (.aload_n 0, 1) := by decide +kernel
theorem dX7_newPieceError_1 : decode cX7_newPieceError 1 = .ok (.getfield 37, 3) := by decide +kernel
theorem dX7_newPieceError_4 : decode cX7_newPieceError 4 = .ok (.iconst 4, 1) := by decide +kernel
theorem dX7_newPieceError_5 : decode cX7_newPieceError 5 = .ok (.invokevirtual 110, 3) := by decide +kernel
theorem dX7_newPieceError_8 : decode cX7_newPieceError 8 = .ok (.ifCond .ne 6, 3) := by decide +kernel
theorem dX7_newPieceError_11 : decode cX7_newPieceError 11 = .ok (.bipush (-3), 2) := by decide +kernel
theorem dX7_newPieceError_13 : decode cX7_newPieceError 13 = .ok (.ireturn, 1) := by decide +kernel
theorem dX7_newPieceError_14 : decode cX7_newPieceError 14 = .ok (.iload_n 1, 1) := by decide +kernel
theorem dX7_newPieceError_15 : decode cX7_newPieceError 15 = .ok (.iconst 1, 1) := by decide +kernel
theorem dX7_newPieceError_16 : decode cX7_newPieceError 16 = .ok (.if_icmp .lt 9, 3) := by decide +kernel
theorem dX7_newPieceError_19 : decode cX7_newPieceError 19 = .ok (.iload_n 1, 1) := by decide +kernel
theorem dX7_newPieceError_20 : decode cX7_newPieceError 20 = .ok (.bipush 9, 2) := by decide +kernel
theorem dX7_newPieceError_22 : decode cX7_newPieceError 22 = .ok (.if_icmp .le 6, 3) := by decide +kernel
theorem dX7_newPieceError_25 : decode cX7_newPieceError 25 = .ok (.bipush (-2), 2) := by decide +kernel
theorem dX7_newPieceError_27 : decode cX7_newPieceError 27 = .ok (.ireturn, 1) := by decide +kernel
theorem dX7_newPieceError_28 : decode cX7_newPieceError 28 = .ok (.aload_n 0, 1) := by decide +kernel
theorem dX7_newPieceError_29 : decode cX7_newPieceError 29 = .ok (.getfield 10, 3) := by decide +kernel
theorem dX7_newPieceError_32 : decode cX7_newPieceError 32 = .ok (.getfield 96, 3) := by decide +kernel
theorem dX7_newPieceError_35 : decode cX7_newPieceError 35 = .ok (.bipush 16, 2) := by decide +kernel
theorem dX7_newPieceError_37 : decode cX7_newPieceError 37 = .ok (.if_icmp .lt 6, 3) := by decide +kernel
theorem dX7_newPieceError_40 : decode cX7_newPieceError 40 = .ok (.bipush (-4), 2) := by decide +kernel
theorem dX7_newPieceError_42 : decode cX7_newPieceError 42 = .ok (.ireturn, 1) := by decide +kernel
theorem dX7_newPieceError_43 : decode cX7_newPieceError 43 = .ok (.aload_n 0, 1) := by decide +kernel
theorem dX7_newPieceError_44 : decode cX7_newPieceError 44 = .ok (.getfield 10, 3) := by decide +kernel
theorem dX7_newPieceError_47 : decode cX7_newPieceError 47 = .ok (.aload_n 0, 1) := by decide +kernel
theorem dX7_newPieceError_48 : decode cX7_newPieceError 48 = .ok (.getfield 37, 3) := by decide +kernel
theorem dX7_newPieceError_51 : decode cX7_newPieceError 51 = .ok (.invokevirtual 84, 3) := by decide +kernel
theorem dX7_newPieceError_54 : decode cX7_newPieceError 54 = .ok (.invokevirtual 254, 3) := by decide +kernel
theorem dX7_newPieceError_57 : decode cX7_newPieceError 57 = .ok (.iconst (-1), 1) := by decide +kernel
theorem dX7_newPieceError_58 : decode cX7_newPieceError 58 = .ok (.if_icmp .eq 6, 3) := by decide +kernel
theorem dX7_newPieceError_61 : decode cX7_newPieceError 61 = .ok (.bipush (-5), 2) := by decide +kernel
theorem dX7_newPieceError_63 : decode cX7_newPieceError 63 = .ok (.ireturn, 1) := by decide +kernel
theorem dX7_newPieceError_64 : decode cX7_newPieceError 64 = .ok (.iconst 0, 1) := by decide +kernel
theorem dX7_newPieceError_65 : decode cX7_newPieceError 65 = .ok (.ireturn, 1) := by decide +kernel
theorem dX7_charactersIn_0 : decode cX7_charactersIn 0 = .ok (.lload_n 0, 1) := by decide +kernel
theorem dX7_charactersIn_1 : decode cX7_charactersIn 1 = .ok (.lstore_n 2, 1) := by decide +kernel
theorem dX7_charactersIn_2 : decode cX7_charactersIn 2 = .ok (.iconst 0, 1) := by decide +kernel
theorem dX7_charactersIn_3 : decode cX7_charactersIn 3 = .ok (.istore 4, 2) := by decide +kernel
theorem dX7_charactersIn_5 : decode cX7_charactersIn 5 = .ok (.iconst 0, 1) := by decide +kernel
theorem dX7_charactersIn_6 : decode cX7_charactersIn 6 = .ok (.istore 5, 2) := by decide +kernel
theorem dX7_charactersIn_8 : decode cX7_charactersIn 8 = .ok (.iload 5, 2) := by decide +kernel
theorem dX7_charactersIn_10 : decode cX7_charactersIn 10 = .ok (.bipush 8, 2) := by decide +kernel
theorem dX7_charactersIn_12 : decode cX7_charactersIn 12 = .ok (.if_icmp .ge 47, 3) := by decide +kernel
theorem dX7_charactersIn_15 : decode cX7_charactersIn 15 = .ok (.lload_n 2, 1) := by decide +kernel
theorem dX7_charactersIn_16 : decode cX7_charactersIn 16 = .ok (.lconst 0, 1) := by decide +kernel
theorem dX7_charactersIn_17 : decode cX7_charactersIn 17 = .ok (.lcmp, 1) := by decide +kernel
theorem dX7_charactersIn_18 : decode cX7_charactersIn 18 = .ok (.ifCond .eq 41, 3) := by decide +kernel
theorem dX7_charactersIn_21 : decode cX7_charactersIn 21 = .ok (.lload_n 2, 1) := by decide +kernel
theorem dX7_charactersIn_22 : decode cX7_charactersIn 22 = .ok (.ldc2_w 257, 3) := by decide +kernel
theorem dX7_charactersIn_25 : decode cX7_charactersIn 25 = .ok (.land, 1) := by decide +kernel
theorem dX7_charactersIn_26 : decode cX7_charactersIn 26 = .ok (.l2i, 1) := by decide +kernel
theorem dX7_charactersIn_27 : decode cX7_charactersIn 27 = .ok (.istore 6, 2) := by decide +kernel
theorem dX7_charactersIn_29 : decode cX7_charactersIn 29 = .ok (.iload 6, 2) := by decide +kernel
theorem dX7_charactersIn_31 : decode cX7_charactersIn 31 = .ok (.bipush 33, 2) := by decide +kernel
theorem dX7_charactersIn_33 : decode cX7_charactersIn 33 = .ok (.if_icmp .lt 10, 3) := by decide +kernel
theorem dX7_charactersIn_36 : decode cX7_charactersIn 36 = .ok (.iload 6, 2) := by decide +kernel
theorem dX7_charactersIn_38 : decode cX7_charactersIn 38 = .ok (.bipush 126, 2) := by decide +kernel
theorem dX7_charactersIn_40 : decode cX7_charactersIn 40 = .ok (.if_icmp .le 5, 3) := by decide +kernel
theorem dX7_charactersIn_43 : decode cX7_charactersIn 43 = .ok (.iconst 0, 1) := by decide +kernel
theorem dX7_charactersIn_44 : decode cX7_charactersIn 44 = .ok (.ireturn, 1) := by decide +kernel
theorem dX7_charactersIn_45 : decode cX7_charactersIn 45 = .ok (.iinc 4 1, 3) := by decide +kernel
theorem dX7_charactersIn_48 : decode cX7_charactersIn 48 = .ok (.lload_n 2, 1) := by decide +kernel
theorem dX7_charactersIn_49 : decode cX7_charactersIn 49 = .ok (.bipush 8, 2) := by decide +kernel
theorem dX7_charactersIn_51 : decode cX7_charactersIn 51 = .ok (.lushr, 1) := by decide +kernel
theorem dX7_charactersIn_52 : decode cX7_charactersIn 52 = .ok (.lstore_n 2, 1) := by decide +kernel
theorem dX7_charactersIn_53 : decode cX7_charactersIn 53 = .ok (.iinc 5 1, 3) := by decide +kernel
theorem dX7_charactersIn_56 : decode cX7_charactersIn 56 = .ok (.goto (-48), 3) := by decide +kernel
theorem dX7_charactersIn_59 : decode cX7_charactersIn 59 = .ok (.iload 4, 2) := by decide +kernel
theorem dX7_charactersIn_61 : decode cX7_charactersIn 61 = .ok (.ireturn, 1) := by decide +kernel
theorem dX7_letterOfText_0 : decode cX7_letterOfText 0 = .ok (.iload_n 2, 1) := by decide +kernel
theorem dX7_letterOfText_1 : decode cX7_letterOfText 1 = .ok (.iload_n 1, 1) := by decide +kernel
theorem dX7_letterOfText_2 : decode cX7_letterOfText 2 = .ok (.if_icmp .lt 6, 3) := by decide +kernel
theorem dX7_letterOfText_5 : decode cX7_letterOfText 5 = .ok (.bipush (-6), 2) := by decide +kernel
theorem dX7_letterOfText_7 : decode cX7_letterOfText 7 = .ok (.ireturn, 1) := by decide +kernel
theorem dX7_letterOfText_8 : decode cX7_letterOfText 8 = .ok (.iload_n 0, 1) := by decide +kernel
theorem dX7_letterOfText_9 : decode cX7_letterOfText 9 = .ok (.iconst 3, 1) := by decide +kernel
theorem dX7_letterOfText_10 : decode cX7_letterOfText 10 = .ok (.iload_n 1, 1) := by decide +kernel
theorem dX7_letterOfText_11 : decode cX7_letterOfText 11 = .ok (.iconst 1, 1) := by decide +kernel
theorem dX7_letterOfText_12 : decode cX7_letterOfText 12 = .ok (.isub, 1) := by decide +kernel
theorem dX7_letterOfText_13 : decode cX7_letterOfText 13 = .ok (.iload_n 2, 1) := by decide +kernel
theorem dX7_letterOfText_14 : decode cX7_letterOfText 14 = .ok (.isub, 1) := by decide +kernel
theorem dX7_letterOfText_15 : decode cX7_letterOfText 15 = .ok (.imul, 1) := by decide +kernel
theorem dX7_letterOfText_16 : decode cX7_letterOfText 16 = .ok (.ishr, 1) := by decide +kernel
theorem dX7_letterOfText_17 : decode cX7_letterOfText 17 = .ok (.bipush 7, 2) := by decide +kernel
theorem dX7_letterOfText_19 : decode cX7_letterOfText 19 = .ok (.iand, 1) := by decide +kernel
theorem dX7_letterOfText_20 : decode cX7_letterOfText 20 = .ok (.iconst 1, 1) := by decide +kernel
theorem dX7_letterOfText_21 : decode cX7_letterOfText 21 = .ok (.isub, 1) := by decide +kernel
theorem dX7_letterOfText_22 : decode cX7_letterOfText 22 = .ok (.ireturn, 1) := by decide +kernel
set_option maxRecDepth 20000 in
theorem ggX7_cutBest_X4_read : GoodIn wsX7_cutBest wsX4_read := goodIn_r _ [7, 8, 9, 10, 11, 12, 13, 14, 15, 16, 17, 18, 19, 20, 6, 21, 22, 23, 24, 25, 26, 27, 28, 29, 30, 31, 32, 33, 34, 35, 36, 37, 38, 39, 40, 85, 86, 87, 88, 89, 90, 91, 92, 93, 94, 95, 96] (by decide +kernel) (by decide +kernel)
set_option maxRecDepth 20000 in
theorem gX7_cutBest_X4_read : GoodIn wsX7_cutBest (wsV RX7 201 RX4 yX4_read wsX4_read) := goodIn_app (goodIn_of _ (by decide +kernel)) ggX7_cutBest_X4_read
set_option maxRecDepth 20000 in
theorem ggX7_cutBest_X1_find : GoodIn wsX7_cutBest wsX1_find := goodIn_r _ [45, 46, 47, 48, 49, 50, 51, 44, 52, 53, 54, 19, 20, 6, 21, 9, 22, 23, 24, 25, 55, 56, 57, 58, 11, 59, 60, 61, 62, 17, 32, 33, 34, 63, 64, 65, 66, 67, 68, 69, 70, 71, 72, 97, 98, 99, 100, 101, 102, 103, 104, 93, 94, 95, 96] (by decide +kernel) (by decide +kernel)
set_option maxRecDepth 20000 in
theorem gX7_cutBest_X1_find : GoodIn wsX7_cutBest (wsV RX7 259 RX1 yX1_find wsX1_find) := goodIn_app (goodIn_of _ (by decide +kernel)) ggX7_cutBest_X1_find
theorem dX7_cutBest_0 : decode cX7_cutBest 0 = .ok (.aload_n 0, 1) := by decide +kernel
theorem dX7_cutBest_1 : decode cX7_cutBest 1 = .ok (.getfield 44, 3) := by decide +kernel
theorem dX7_cutBest_4 : decode cX7_cutBest 4 = .ok (.aload_n 1, 1) := by decide +kernel
theorem dX7_cutBest_5 : decode cX7_cutBest 5 = .ok (.iload_n 2, 1) := by decide +kernel
theorem dX7_cutBest_6 : decode cX7_cutBest 6 = .ok (.invokevirtual 201, 3) := by decide +kernel
theorem dX7_cutBest_9 : decode cX7_cutBest 9 = .ok (.aload_n 0, 1) := by decide +kernel
theorem dX7_cutBest_10 : decode cX7_cutBest 10 = .ok (.getfield 51, 3) := by decide +kernel
theorem dX7_cutBest_13 : decode cX7_cutBest 13 = .ok (.aload_n 0, 1) := by decide +kernel
theorem dX7_cutBest_14 : decode cX7_cutBest 14 = .ok (.getfield 44, 3) := by decide +kernel
theorem dX7_cutBest_17 : decode cX7_cutBest 17 = .ok (.iconst (-1), 1) := by decide +kernel
theorem dX7_cutBest_18 : decode cX7_cutBest 18 = .ok (.invokevirtual 259, 3) := by decide +kernel
theorem dX7_cutBest_21 : decode cX7_cutBest 21 = .ok (.return_, 1) := by decide +kernel
set_option maxRecDepth 20000 in
theorem ggX7_costOfAll_X7_cutBest : GoodIn wsX7_costOfAll wsX7_cutBest := goodIn_r _ [8, 9, 2, 10, 11, 12, 13, 14, 15, 16, 17, 18, 19, 20, 21, 22, 23, 24, 25, 26, 27, 28, 29, 30, 31, 32, 33, 34, 35, 36, 37, 38, 39, 40, 41, 42, 43, 44, 45, 46, 47, 48, 49, 50, 51, 52, 53, 54, 55, 56, 57, 58, 59, 60, 61, 62, 63, 64, 65, 66, 67, 68, 69, 70, 71, 72, 73, 74, 75, 76, 77, 78, 79, 92, 93, 94, 95, 96, 97, 98, 99, 100, 101, 102, 103, 84, 85, 86, 87, 88, 89, 90, 91, 104, 105, 106, 107, 108, 109, 110, 111, 112, 113, 114, 115] (by decide +kernel) (by decide +kernel)
set_option maxRecDepth 20000 in
theorem gX7_costOfAll_X7_cutBest : GoodIn wsX7_costOfAll (wsV RX7 173 RX7 yX7_cutBest wsX7_cutBest) := goodIn_app (goodIn_of _ (by decide +kernel)) ggX7_costOfAll_X7_cutBest
set_option maxRecDepth 20000 in
theorem ggX7_costOfAll_X1_cost : GoodIn wsX7_costOfAll wsX1_cost := goodIn_r _ [83, 74, 75, 108, 109, 110, 111, 112, 113, 114, 115] (by decide +kernel) (by decide +kernel)
set_option maxRecDepth 20000 in
theorem gX7_costOfAll_X1_cost : GoodIn wsX7_costOfAll (wsV RX7 186 RX1 yX1_cost wsX1_cost) := goodIn_app (goodIn_of _ (by decide +kernel)) ggX7_costOfAll_X1_cost
theorem dX7_costOfAll_0 : decode cX7_costOfAll 0 = .ok (.iconst 0, 1) := by decide +kernel
theorem dX7_costOfAll_1 : decode cX7_costOfAll 1 = .ok (.istore_n 2, 1) := by decide +kernel
theorem dX7_costOfAll_2 : decode cX7_costOfAll 2 = .ok (.iconst 0, 1) := by decide +kernel
theorem dX7_costOfAll_3 : decode cX7_costOfAll 3 = .ok (.istore_n 3, 1) := by decide +kernel
theorem dX7_costOfAll_4 : decode cX7_costOfAll 4 = .ok (.iload_n 3, 1) := by decide +kernel
theorem dX7_costOfAll_5 : decode cX7_costOfAll 5 = .ok (.aload_n 1, 1) := by decide +kernel
theorem dX7_costOfAll_6 : decode cX7_costOfAll 6 = .ok (.getfield 113, 3) := by decide +kernel
theorem dX7_costOfAll_9 : decode cX7_costOfAll 9 = .ok (.if_icmp .ge 32, 3) := by decide +kernel
theorem dX7_costOfAll_12 : decode cX7_costOfAll 12 = .ok (.aload_n 0, 1) := by decide +kernel
theorem dX7_costOfAll_13 : decode cX7_costOfAll 13 = .ok (.aload_n 1, 1) := by decide +kernel
theorem dX7_costOfAll_14 : decode cX7_costOfAll 14 = .ok (.iload_n 3, 1) := by decide +kernel
theorem dX7_costOfAll_15 : decode cX7_costOfAll 15 = .ok (.invokevirtual 173, 3) := by decide +kernel
theorem dX7_costOfAll_18 : decode cX7_costOfAll 18 = .ok (.iload_n 2, 1) := by decide +kernel
theorem dX7_costOfAll_19 : decode cX7_costOfAll 19 = .ok (.aload_n 0, 1) := by decide +kernel
theorem dX7_costOfAll_20 : decode cX7_costOfAll 20 = .ok (.getfield 51, 3) := by decide +kernel
theorem dX7_costOfAll_23 : decode cX7_costOfAll 23 = .ok (.invokevirtual 186, 3) := by decide +kernel
theorem dX7_costOfAll_26 : decode cX7_costOfAll 26 = .ok (.aload_n 1, 1) := by decide +kernel
theorem dX7_costOfAll_27 : decode cX7_costOfAll 27 = .ok (.getfield 123, 3) := by decide +kernel
theorem dX7_costOfAll_30 : decode cX7_costOfAll 30 = .ok (.iload_n 3, 1) := by decide +kernel
theorem dX7_costOfAll_31 : decode cX7_costOfAll 31 = .ok (.iaload, 1) := by decide +kernel
theorem dX7_costOfAll_32 : decode cX7_costOfAll 32 = .ok (.imul, 1) := by decide +kernel
theorem dX7_costOfAll_33 : decode cX7_costOfAll 33 = .ok (.iadd, 1) := by decide +kernel
theorem dX7_costOfAll_34 : decode cX7_costOfAll 34 = .ok (.istore_n 2, 1) := by decide +kernel
theorem dX7_costOfAll_35 : decode cX7_costOfAll 35 = .ok (.iinc 3 1, 3) := by decide +kernel
theorem dX7_costOfAll_38 : decode cX7_costOfAll 38 = .ok (.goto (-34), 3) := by decide +kernel
theorem dX7_costOfAll_41 : decode cX7_costOfAll 41 = .ok (.iload_n 2, 1) := by decide +kernel
theorem dX7_costOfAll_42 : decode cX7_costOfAll 42 = .ok (.ireturn, 1) := by decide +kernel
theorem dX7_lettersOfAll_0 : decode cX7_lettersOfAll 0 = .ok (.iconst 0, 1) := by decide +kernel
theorem dX7_lettersOfAll_1 : decode cX7_lettersOfAll 1 = .ok (.istore_n 1, 1) := by decide +kernel
theorem dX7_lettersOfAll_2 : decode cX7_lettersOfAll 2 = .ok (.iconst 0, 1) := by decide +kernel
theorem dX7_lettersOfAll_3 : decode cX7_lettersOfAll 3 = .ok (.istore_n 2, 1) := by decide +kernel
theorem dX7_lettersOfAll_4 : decode cX7_lettersOfAll 4 = .ok (.iload_n 2, 1) := by decide +kernel
theorem dX7_lettersOfAll_5 : decode cX7_lettersOfAll 5 = .ok (.aload_n 0, 1) := by decide +kernel
theorem dX7_lettersOfAll_6 : decode cX7_lettersOfAll 6 = .ok (.getfield 10, 3) := by decide +kernel
theorem dX7_lettersOfAll_9 : decode cX7_lettersOfAll 9 = .ok (.getfield 113, 3) := by decide +kernel
theorem dX7_lettersOfAll_12 : decode cX7_lettersOfAll 12 = .ok (.if_icmp .ge 31, 3) := by decide +kernel
theorem dX7_lettersOfAll_15 : decode cX7_lettersOfAll 15 = .ok (.iload_n 1, 1) := by decide +kernel
theorem dX7_lettersOfAll_16 : decode cX7_lettersOfAll 16 = .ok (.aload_n 0, 1) := by decide +kernel
theorem dX7_lettersOfAll_17 : decode cX7_lettersOfAll 17 = .ok (.getfield 10, 3) := by decide +kernel
theorem dX7_lettersOfAll_20 : decode cX7_lettersOfAll 20 = .ok (.getfield 177, 3) := by decide +kernel
theorem dX7_lettersOfAll_23 : decode cX7_lettersOfAll 23 = .ok (.iload_n 2, 1) := by decide +kernel
theorem dX7_lettersOfAll_24 : decode cX7_lettersOfAll 24 = .ok (.iaload, 1) := by decide +kernel
theorem dX7_lettersOfAll_25 : decode cX7_lettersOfAll 25 = .ok (.aload_n 0, 1) := by decide +kernel
theorem dX7_lettersOfAll_26 : decode cX7_lettersOfAll 26 = .ok (.getfield 10, 3) := by decide +kernel
theorem dX7_lettersOfAll_29 : decode cX7_lettersOfAll 29 = .ok (.getfield 123, 3) := by decide +kernel
theorem dX7_lettersOfAll_32 : decode cX7_lettersOfAll 32 = .ok (.iload_n 2, 1) := by decide +kernel
theorem dX7_lettersOfAll_33 : decode cX7_lettersOfAll 33 = .ok (.iaload, 1) := by decide +kernel
theorem dX7_lettersOfAll_34 : decode cX7_lettersOfAll 34 = .ok (.imul, 1) := by decide +kernel
theorem dX7_lettersOfAll_35 : decode cX7_lettersOfAll 35 = .ok (.iadd, 1) := by decide +kernel
theorem dX7_lettersOfAll_36 : decode cX7_lettersOfAll 36 = .ok (.istore_n 1, 1) := by decide +kernel
theorem dX7_lettersOfAll_37 : decode cX7_lettersOfAll 37 = .ok (.iinc 2 1, 3) := by decide +kernel
theorem dX7_lettersOfAll_40 : decode cX7_lettersOfAll 40 = .ok (.goto (-36), 3) := by decide +kernel
theorem dX7_lettersOfAll_43 : decode cX7_lettersOfAll 43 = .ok (.iload_n 1, 1) := by decide +kernel
theorem dX7_lettersOfAll_44 : decode cX7_lettersOfAll 44 = .ok (.ireturn, 1) := by decide +kernel
set_option maxRecDepth 20000 in
theorem ggX7_partsOfAll_X7_cutBest : GoodIn wsX7_partsOfAll wsX7_cutBest := goodIn_r _ [10, 11, 3, 12, 13, 14, 15, 16, 17, 18, 19, 20, 21, 22, 23, 24, 25, 26, 27, 28, 29, 30, 31, 32, 33, 34, 35, 36, 37, 38, 39, 40, 41, 42, 43, 44, 45, 46, 47, 48, 49, 50, 51, 52, 53, 54, 55, 56, 57, 58, 59, 60, 61, 62, 63, 64, 65, 66, 67, 68, 69, 70, 71, 72, 73, 74, 75, 76, 77, 78, 79, 80, 81, 82, 83, 84, 85, 86, 87, 88, 89, 90, 91, 92, 93, 94, 95, 96, 97, 98, 99, 100, 101, 110, 111, 112, 113, 102, 103, 104, 105, 106, 107, 108, 109] (by decide +kernel) (by decide +kernel)
set_option maxRecDepth 20000 in
theorem gX7_partsOfAll_X7_cutBest : GoodIn wsX7_partsOfAll (wsV RX7 173 RX7 yX7_cutBest wsX7_cutBest) := goodIn_app (goodIn_of _ (by decide +kernel)) ggX7_partsOfAll_X7_cutBest
theorem dX7_partsOfAll_0 : decode cX7_partsOfAll 0 = .ok (.iconst 0, 1) := by decide +kernel
theorem dX7_partsOfAll_1 : decode cX7_partsOfAll 1 = .ok (.istore_n 1, 1) := by decide +kernel
theorem dX7_partsOfAll_2 : decode cX7_partsOfAll 2 = .ok (.iconst 0, 1) := by decide +kernel
theorem dX7_partsOfAll_3 : decode cX7_partsOfAll 3 = .ok (.istore_n 2, 1) := by decide +kernel
theorem dX7_partsOfAll_4 : decode cX7_partsOfAll 4 = .ok (.iload_n 2, 1) := by decide +kernel
theorem dX7_partsOfAll_5 : decode cX7_partsOfAll 5 = .ok (.aload_n 0, 1) := by decide +kernel
theorem dX7_partsOfAll_6 : decode cX7_partsOfAll 6 = .ok (.getfield 10, 3) := by decide +kernel
theorem dX7_partsOfAll_9 : decode cX7_partsOfAll 9 = .ok (.getfield 113, 3) := by decide +kernel
theorem dX7_partsOfAll_12 : decode cX7_partsOfAll 12 = .ok (.if_icmp .ge 38, 3) := by decide +kernel
theorem dX7_partsOfAll_15 : decode cX7_partsOfAll 15 = .ok (.aload_n 0, 1) := by decide +kernel
theorem dX7_partsOfAll_16 : decode cX7_partsOfAll 16 = .ok (.aload_n 0, 1) := by decide +kernel
theorem dX7_partsOfAll_17 : decode cX7_partsOfAll 17 = .ok (.getfield 10, 3) := by decide +kernel
theorem dX7_partsOfAll_20 : decode cX7_partsOfAll 20 = .ok (.iload_n 2, 1) := by decide +kernel
theorem dX7_partsOfAll_21 : decode cX7_partsOfAll 21 = .ok (.invokevirtual 173, 3) := by decide +kernel
theorem dX7_partsOfAll_24 : decode cX7_partsOfAll 24 = .ok (.iload_n 1, 1) := by decide +kernel
theorem dX7_partsOfAll_25 : decode cX7_partsOfAll 25 = .ok (.aload_n 0, 1) := by decide +kernel
theorem dX7_partsOfAll_26 : decode cX7_partsOfAll 26 = .ok (.getfield 51, 3) := by decide +kernel
theorem dX7_partsOfAll_29 : decode cX7_partsOfAll 29 = .ok (.getfield 180, 3) := by decide +kernel
theorem dX7_partsOfAll_32 : decode cX7_partsOfAll 32 = .ok (.aload_n 0, 1) := by decide +kernel
theorem dX7_partsOfAll_33 : decode cX7_partsOfAll 33 = .ok (.getfield 10, 3) := by decide +kernel
theorem dX7_partsOfAll_36 : decode cX7_partsOfAll 36 = .ok (.getfield 123, 3) := by decide +kernel
theorem dX7_partsOfAll_39 : decode cX7_partsOfAll 39 = .ok (.iload_n 2, 1) := by decide +kernel
theorem dX7_partsOfAll_40 : decode cX7_partsOfAll 40 = .ok (.iaload, 1) := by decide +kernel
theorem dX7_partsOfAll_41 : decode cX7_partsOfAll 41 = .ok (.imul, 1) := by decide +kernel
theorem dX7_partsOfAll_42 : decode cX7_partsOfAll 42 = .ok (.iadd, 1) := by decide +kernel
theorem dX7_partsOfAll_43 : decode cX7_partsOfAll 43 = .ok (.istore_n 1, 1) := by decide +kernel
theorem dX7_partsOfAll_44 : decode cX7_partsOfAll 44 = .ok (.iinc 2 1, 3) := by decide +kernel
theorem dX7_partsOfAll_47 : decode cX7_partsOfAll 47 = .ok (.goto (-43), 3) := by decide +kernel
theorem dX7_partsOfAll_50 : decode cX7_partsOfAll 50 = .ok (.iload_n 1, 1) := by decide +kernel
theorem dX7_partsOfAll_51 : decode cX7_partsOfAll 51 = .ok (.ireturn, 1) := by decide +kernel
set_option maxRecDepth 20000 in
theorem ggX7_timesInBestCuts_X7_cutBest : GoodIn wsX7_timesInBestCuts wsX7_cutBest := goodIn_r _ [11, 12, 3, 13, 14, 15, 16, 17, 18, 19, 20, 21, 22, 23, 24, 25, 26, 27, 28, 29, 30, 31, 32, 33, 34, 35, 36, 37, 38, 39, 40, 41, 42, 43, 44, 45, 46, 47, 48, 49, 50, 51, 52, 53, 54, 55, 56, 57, 58, 59, 60, 61, 62, 63, 64, 65, 66, 67, 68, 69, 70, 71, 72, 73, 74, 75, 76, 77, 78, 79, 80, 81, 82, 83, 84, 85, 86, 87, 88, 89, 90, 91, 92, 93, 94, 95, 96, 97, 98, 99, 100, 101, 102, 111, 112, 113, 114, 103, 104, 105, 106, 107, 108, 109, 110] (by decide +kernel) (by decide +kernel)
set_option maxRecDepth 20000 in
theorem gX7_timesInBestCuts_X7_cutBest : GoodIn wsX7_timesInBestCuts (wsV RX7 173 RX7 yX7_cutBest wsX7_cutBest) := goodIn_app (goodIn_of _ (by decide +kernel)) ggX7_timesInBestCuts_X7_cutBest
theorem dX7_timesInBestCuts_0 : decode cX7_timesInBestCuts 0 = .ok (.iconst 0, 1) := by decide +kernel
theorem dX7_timesInBestCuts_1 : decode cX7_timesInBestCuts 1 = .ok (.istore_n 2, 1) := by decide +kernel
theorem dX7_timesInBestCuts_2 : decode cX7_timesInBestCuts 2 = .ok (.iconst 0, 1) := by decide +kernel
theorem dX7_timesInBestCuts_3 : decode cX7_timesInBestCuts 3 = .ok (.istore_n 3, 1) := by decide +kernel
theorem dX7_timesInBestCuts_4 : decode cX7_timesInBestCuts 4 = .ok (.iload_n 3, 1) := by decide +kernel
theorem dX7_timesInBestCuts_5 : decode cX7_timesInBestCuts 5 = .ok (.aload_n 0, 1) := by decide +kernel
theorem dX7_timesInBestCuts_6 : decode cX7_timesInBestCuts 6 = .ok (.getfield 10, 3) := by decide +kernel
theorem dX7_timesInBestCuts_9 : decode cX7_timesInBestCuts 9 = .ok (.getfield 113, 3) := by decide +kernel
theorem dX7_timesInBestCuts_12 : decode cX7_timesInBestCuts 12 = .ok (.if_icmp .ge 65, 3) := by decide +kernel
theorem dX7_timesInBestCuts_15 : decode cX7_timesInBestCuts 15 = .ok (.aload_n 0, 1) := by decide +kernel
theorem dX7_timesInBestCuts_16 : decode cX7_timesInBestCuts 16 = .ok (.aload_n 0, 1) := by decide +kernel
theorem dX7_timesInBestCuts_17 : decode cX7_timesInBestCuts 17 = .ok (.getfield 10, 3) := by decide +kernel
theorem dX7_timesInBestCuts_20 : decode cX7_timesInBestCuts 20 = .ok (.iload_n 3, 1) := by decide +kernel
theorem dX7_timesInBestCuts_21 : decode cX7_timesInBestCuts 21 = .ok (.invokevirtual 173, 3) := by decide +kernel
theorem dX7_timesInBestCuts_24 : decode cX7_timesInBestCuts 24 = .ok (.iconst 0, 1) := by decide +kernel
theorem dX7_timesInBestCuts_25 : decode cX7_timesInBestCuts 25 = .ok (.istore 4, 2) := by decide +kernel
theorem dX7_timesInBestCuts_27 : decode cX7_timesInBestCuts 27 = .ok (.iload 4, 2) := by decide +kernel
theorem dX7_timesInBestCuts_29 : decode cX7_timesInBestCuts 29 = .ok (.aload_n 0, 1) := by decide +kernel
theorem dX7_timesInBestCuts_30 : decode cX7_timesInBestCuts 30 = .ok (.getfield 51, 3) := by decide +kernel
theorem dX7_timesInBestCuts_33 : decode cX7_timesInBestCuts 33 = .ok (.getfield 180, 3) := by decide +kernel
theorem dX7_timesInBestCuts_36 : decode cX7_timesInBestCuts 36 = .ok (.if_icmp .ge 35, 3) := by decide +kernel
theorem dX7_timesInBestCuts_39 : decode cX7_timesInBestCuts 39 = .ok (.aload_n 0, 1) := by decide +kernel
theorem dX7_timesInBestCuts_40 : decode cX7_timesInBestCuts 40 = .ok (.getfield 51, 3) := by decide +kernel
theorem dX7_timesInBestCuts_43 : decode cX7_timesInBestCuts 43 = .ok (.getfield 213, 3) := by decide +kernel
theorem dX7_timesInBestCuts_46 : decode cX7_timesInBestCuts 46 = .ok (.iload 4, 2) := by decide +kernel
theorem dX7_timesInBestCuts_48 : decode cX7_timesInBestCuts 48 = .ok (.iaload, 1) := by decide +kernel
theorem dX7_timesInBestCuts_49 : decode cX7_timesInBestCuts 49 = .ok (.iload_n 1, 1) := by decide +kernel
theorem dX7_timesInBestCuts_50 : decode cX7_timesInBestCuts 50 = .ok (.if_icmp .ne 15, 3) := by decide +kernel
theorem dX7_timesInBestCuts_53 : decode cX7_timesInBestCuts 53 = .ok (.iload_n 2, 1) := by decide +kernel
theorem dX7_timesInBestCuts_54 : decode cX7_timesInBestCuts 54 = .ok (.aload_n 0, 1) := by decide +kernel
theorem dX7_timesInBestCuts_55 : decode cX7_timesInBestCuts 55 = .ok (.getfield 10, 3) := by decide +kernel
theorem dX7_timesInBestCuts_58 : decode cX7_timesInBestCuts 58 = .ok (.getfield 123, 3) := by decide +kernel
theorem dX7_timesInBestCuts_61 : decode cX7_timesInBestCuts 61 = .ok (.iload_n 3, 1) := by decide +kernel
theorem dX7_timesInBestCuts_62 : decode cX7_timesInBestCuts 62 = .ok (.iaload, 1) := by decide +kernel
theorem dX7_timesInBestCuts_63 : decode cX7_timesInBestCuts 63 = .ok (.iadd, 1) := by decide +kernel
theorem dX7_timesInBestCuts_64 : decode cX7_timesInBestCuts 64 = .ok (.istore_n 2, 1) := by decide +kernel
theorem dX7_timesInBestCuts_65 : decode cX7_timesInBestCuts 65 = .ok (.iinc 4 1, 3) := by decide +kernel
theorem dX7_timesInBestCuts_68 : decode cX7_timesInBestCuts 68 = .ok (.goto (-41), 3) := by decide +kernel
theorem dX7_timesInBestCuts_71 : decode cX7_timesInBestCuts 71 = .ok (.iinc 3 1, 3) := by decide +kernel
theorem dX7_timesInBestCuts_74 : decode cX7_timesInBestCuts 74 = .ok (.goto (-70), 3) := by decide +kernel
theorem dX7_timesInBestCuts_77 : decode cX7_timesInBestCuts 77 = .ok (.iload_n 2, 1) := by decide +kernel
theorem dX7_timesInBestCuts_78 : decode cX7_timesInBestCuts 78 = .ok (.ireturn, 1) := by decide +kernel
set_option maxRecDepth 20000 in
theorem ggX7_loseEach_J7_fill_53178 : GoodIn wsX7_loseEach wsJ7_fill_53178 := goodIn_r _ [11] (by decide +kernel) (by decide +kernel)
set_option maxRecDepth 20000 in
theorem gX7_loseEach_J7_fill_53178 : GoodIn wsX7_loseEach (va_wsS RX7 262 yJ7_fill_53178 wsJ7_fill_53178) := goodIn_app (goodIn_of _ (by decide +kernel)) ggX7_loseEach_J7_fill_53178
set_option maxRecDepth 20000 in
theorem ggX7_loseEach_X4_read : GoodIn wsX7_loseEach wsX4_read := goodIn_r _ [16, 17, 18, 19, 20, 21, 22, 23, 24, 25, 26, 27, 28, 29, 15, 30, 31, 32, 33, 34, 35, 36, 37, 38, 39, 40, 41, 42, 43, 44, 45, 46, 47, 48, 49, 98, 99, 100, 101, 102, 103, 104, 105, 106, 107, 108, 109] (by decide +kernel) (by decide +kernel)
set_option maxRecDepth 20000 in
theorem gX7_loseEach_X4_read : GoodIn wsX7_loseEach (wsV RX7 201 RX4 yX4_read wsX4_read) := goodIn_app (goodIn_of _ (by decide +kernel)) ggX7_loseEach_X4_read
set_option maxRecDepth 20000 in
theorem ggX7_loseEach_X1_find : GoodIn wsX7_loseEach wsX1_find := goodIn_r _ [54, 55, 56, 57, 58, 59, 60, 53, 61, 62, 63, 28, 29, 15, 30, 18, 31, 32, 33, 34, 64, 65, 66, 67, 20, 68, 69, 70, 71, 26, 41, 42, 43, 72, 73, 74, 75, 76, 77, 78, 79, 80, 81, 110, 111, 112, 113, 114, 115, 116, 117, 106, 107, 108, 109] (by decide +kernel) (by decide +kernel)
set_option maxRecDepth 20000 in
theorem gX7_loseEach_X1_find : GoodIn wsX7_loseEach (wsV RX7 259 RX1 yX1_find wsX1_find) := goodIn_app (goodIn_of _ (by decide +kernel)) ggX7_loseEach_X1_find
set_option maxRecDepth 20000 in
theorem ggX7_loseEach_X1_cost : GoodIn wsX7_loseEach wsX1_cost := goodIn_r _ [85, 76, 77, 110, 111, 112, 113, 114, 115, 116, 117] (by decide +kernel) (by decide +kernel)
set_option maxRecDepth 20000 in
theorem gX7_loseEach_X1_cost : GoodIn wsX7_loseEach (wsV RX7 186 RX1 yX1_cost wsX1_cost) := goodIn_app (goodIn_of _ (by decide +kernel)) ggX7_loseEach_X1_cost
theorem dX7_loseEach_0 : decode cX7_loseEach 0 = .ok (.aload_n 0, 1) := by decide +kernel
theorem dX7_loseEach_1 : decode cX7_loseEach 1 = .ok (.getfield 73, 3) := by decide +kernel
theorem dX7_loseEach_4 : decode cX7_loseEach 4 = .ok (.iconst 0, 1) := by decide +kernel
theorem dX7_loseEach_5 : decode cX7_loseEach 5 = .ok (.invokestatic 262, 3) := by decide +kernel
theorem dX7_loseEach_8 : decode cX7_loseEach 8 = .ok (.iconst 0, 1) := by decide +kernel
theorem dX7_loseEach_9 : decode cX7_loseEach 9 = .ok (.istore_n 1, 1) := by decide +kernel
theorem dX7_loseEach_10 : decode cX7_loseEach 10 = .ok (.iload_n 1, 1) := by decide +kernel
theorem dX7_loseEach_11 : decode cX7_loseEach 11 = .ok (.aload_n 0, 1) := by decide +kernel
theorem dX7_loseEach_12 : decode cX7_loseEach 12 = .ok (.getfield 10, 3) := by decide +kernel
theorem dX7_loseEach_15 : decode cX7_loseEach 15 = .ok (.getfield 113, 3) := by decide +kernel
theorem dX7_loseEach_18 : decode cX7_loseEach 18 = .ok (.if_icmp .ge 78, 3) := by decide +kernel
theorem dX7_loseEach_21 : decode cX7_loseEach 21 = .ok (.aload_n 0, 1) := by decide +kernel
theorem dX7_loseEach_22 : decode cX7_loseEach 22 = .ok (.getfield 44, 3) := by decide +kernel
theorem dX7_loseEach_25 : decode cX7_loseEach 25 = .ok (.aload_n 0, 1) := by decide +kernel
theorem dX7_loseEach_26 : decode cX7_loseEach 26 = .ok (.getfield 10, 3) := by decide +kernel
theorem dX7_loseEach_29 : decode cX7_loseEach 29 = .ok (.iload_n 1, 1) := by decide +kernel
theorem dX7_loseEach_30 : decode cX7_loseEach 30 = .ok (.invokevirtual 201, 3) := by decide +kernel
theorem dX7_loseEach_33 : decode cX7_loseEach 33 = .ok (.iconst 0, 1) := by decide +kernel
theorem dX7_loseEach_34 : decode cX7_loseEach 34 = .ok (.istore_n 2, 1) := by decide +kernel
theorem dX7_loseEach_35 : decode cX7_loseEach 35 = .ok (.iload_n 2, 1) := by decide +kernel
theorem dX7_loseEach_36 : decode cX7_loseEach 36 = .ok (.aload_n 0, 1) := by decide +kernel
theorem dX7_loseEach_37 : decode cX7_loseEach 37 = .ok (.getfield 10, 3) := by decide +kernel
theorem dX7_loseEach_40 : decode cX7_loseEach 40 = .ok (.getfield 96, 3) := by decide +kernel
theorem dX7_loseEach_43 : decode cX7_loseEach 43 = .ok (.if_icmp .ge 47, 3) := by decide +kernel
theorem dX7_loseEach_46 : decode cX7_loseEach 46 = .ok (.aload_n 0, 1) := by decide +kernel
theorem dX7_loseEach_47 : decode cX7_loseEach 47 = .ok (.getfield 51, 3) := by decide +kernel
theorem dX7_loseEach_50 : decode cX7_loseEach 50 = .ok (.aload_n 0, 1) := by decide +kernel
theorem dX7_loseEach_51 : decode cX7_loseEach 51 = .ok (.getfield 44, 3) := by decide +kernel
theorem dX7_loseEach_54 : decode cX7_loseEach 54 = .ok (.iload_n 2, 1) := by decide +kernel
theorem dX7_loseEach_55 : decode cX7_loseEach 55 = .ok (.invokevirtual 259, 3) := by decide +kernel
theorem dX7_loseEach_58 : decode cX7_loseEach 58 = .ok (.aload_n 0, 1) := by decide +kernel
theorem dX7_loseEach_59 : decode cX7_loseEach 59 = .ok (.getfield 73, 3) := by decide +kernel
theorem dX7_loseEach_62 : decode cX7_loseEach 62 = .ok (.iload_n 2, 1) := by decide +kernel
theorem dX7_loseEach_63 : decode cX7_loseEach 63 = .ok (.dup2, 1) := by decide +kernel
theorem dX7_loseEach_64 : decode cX7_loseEach 64 = .ok (.iaload, 1) := by decide +kernel
theorem dX7_loseEach_65 : decode cX7_loseEach 65 = .ok (.aload_n 0, 1) := by decide +kernel
theorem dX7_loseEach_66 : decode cX7_loseEach 66 = .ok (.getfield 51, 3) := by decide +kernel
theorem dX7_loseEach_69 : decode cX7_loseEach 69 = .ok (.invokevirtual 186, 3) := by decide +kernel
theorem dX7_loseEach_72 : decode cX7_loseEach 72 = .ok (.aload_n 0, 1) := by decide +kernel
theorem dX7_loseEach_73 : decode cX7_loseEach 73 = .ok (.getfield 10, 3) := by decide +kernel
theorem dX7_loseEach_76 : decode cX7_loseEach 76 = .ok (.getfield 123, 3) := by decide +kernel
theorem dX7_loseEach_79 : decode cX7_loseEach 79 = .ok (.iload_n 1, 1) := by decide +kernel
theorem dX7_loseEach_80 : decode cX7_loseEach 80 = .ok (.iaload, 1) := by decide +kernel
theorem dX7_loseEach_81 : decode cX7_loseEach 81 = .ok (.imul, 1) := by decide +kernel
theorem dX7_loseEach_82 : decode cX7_loseEach 82 = .ok (.iadd, 1) := by decide +kernel
theorem dX7_loseEach_83 : decode cX7_loseEach 83 = .ok (.iastore, 1) := by decide +kernel
theorem dX7_loseEach_84 : decode cX7_loseEach 84 = .ok (.iinc 2 1, 3) := by decide +kernel
theorem dX7_loseEach_87 : decode cX7_loseEach 87 = .ok (.goto (-52), 3) := by decide +kernel
theorem dX7_loseEach_90 : decode cX7_loseEach 90 = .ok (.iinc 1 1, 3) := by decide +kernel
theorem dX7_loseEach_93 : decode cX7_loseEach 93 = .ok (.goto (-83), 3) := by decide +kernel
theorem dX7_loseEach_96 : decode cX7_loseEach 96 = .ok (.return_, 1) := by decide +kernel
set_option maxRecDepth 20000 in
theorem ggX7_bearAll_J7_fill_53178 : GoodIn wsX7_bearAll wsJ7_fill_53178 := goodIn_r _ [11] (by decide +kernel) (by decide +kernel)
set_option maxRecDepth 20000 in
theorem gX7_bearAll_J7_fill_53178 : GoodIn wsX7_bearAll (va_wsS RX7 262 yJ7_fill_53178 wsJ7_fill_53178) := goodIn_app (goodIn_of _ (by decide +kernel)) ggX7_bearAll_J7_fill_53178
set_option maxRecDepth 20000 in
theorem ggX7_bearAll_X4_read : GoodIn wsX7_bearAll wsX4_read := goodIn_r _ [16, 17, 18, 19, 20, 21, 22, 23, 24, 25, 26, 27, 28, 29, 15, 30, 31, 32, 33, 34, 35, 36, 37, 38, 39, 40, 41, 42, 43, 44, 45, 46, 47, 48, 49, 97, 98, 99, 100, 101, 102, 103, 104, 105, 106, 107, 108] (by decide +kernel) (by decide +kernel)
set_option maxRecDepth 20000 in
theorem gX7_bearAll_X4_read : GoodIn wsX7_bearAll (wsV RX7 201 RX4 yX4_read wsX4_read) := goodIn_app (goodIn_of _ (by decide +kernel)) ggX7_bearAll_X4_read
set_option maxRecDepth 20000 in
theorem ggX7_bearAll_X0_find : GoodIn wsX7_bearAll wsX0_find := goodIn_r _ [54, 55, 56, 57, 58, 59, 60, 10, 61, 62, 28, 29, 15, 30, 18, 31, 32, 33, 34, 63, 64, 65, 66, 20, 67, 68, 69, 70, 26, 41, 42, 43, 71, 72, 73, 53, 74, 109, 110, 111, 105, 106, 107, 108] (by decide +kernel) (by decide +kernel)
set_option maxRecDepth 20000 in
theorem gX7_bearAll_X0_find : GoodIn wsX7_bearAll (wsV RX7 189 RX0 yX0_find wsX0_find) := goodIn_app (goodIn_of _ (by decide +kernel)) ggX7_bearAll_X0_find
set_option maxRecDepth 20000 in
theorem ggX7_bearAll_X0_shareOf : GoodIn wsX7_bearAll wsX0_shareOf := goodIn_r _ [78, 56, 55, 57, 79, 62, 28, 29, 15, 30, 18, 31, 32, 33, 34, 80, 68, 69, 70, 26, 41, 42, 43, 63, 64, 65, 66, 20, 67, 81, 82, 83, 53, 84, 105, 106, 107, 108, 109, 110, 111] (by decide +kernel) (by decide +kernel)
set_option maxRecDepth 20000 in
theorem gX7_bearAll_X0_shareOf : GoodIn wsX7_bearAll (wsV RX7 222 RX0 yX0_shareOf wsX0_shareOf) := goodIn_app (goodIn_of _ (by decide +kernel)) ggX7_bearAll_X0_shareOf
theorem dX7_bearAll_0 : decode cX7_bearAll 0 = .ok (.aload_n 0, 1) := by decide +kernel
theorem dX7_bearAll_1 : decode cX7_bearAll 1 = .ok (.getfield 69, 3) := by decide +kernel
theorem dX7_bearAll_4 : decode cX7_bearAll 4 = .ok (.iconst 0, 1) := by decide +kernel
theorem dX7_bearAll_5 : decode cX7_bearAll 5 = .ok (.invokestatic 262, 3) := by decide +kernel
theorem dX7_bearAll_8 : decode cX7_bearAll 8 = .ok (.iconst 0, 1) := by decide +kernel
theorem dX7_bearAll_9 : decode cX7_bearAll 9 = .ok (.istore_n 1, 1) := by decide +kernel
theorem dX7_bearAll_10 : decode cX7_bearAll 10 = .ok (.iload_n 1, 1) := by decide +kernel
theorem dX7_bearAll_11 : decode cX7_bearAll 11 = .ok (.aload_n 0, 1) := by decide +kernel
theorem dX7_bearAll_12 : decode cX7_bearAll 12 = .ok (.getfield 10, 3) := by decide +kernel
theorem dX7_bearAll_15 : decode cX7_bearAll 15 = .ok (.getfield 113, 3) := by decide +kernel
theorem dX7_bearAll_18 : decode cX7_bearAll 18 = .ok (.if_icmp .ge 82, 3) := by decide +kernel
theorem dX7_bearAll_21 : decode cX7_bearAll 21 = .ok (.aload_n 0, 1) := by decide +kernel
theorem dX7_bearAll_22 : decode cX7_bearAll 22 = .ok (.getfield 44, 3) := by decide +kernel
theorem dX7_bearAll_25 : decode cX7_bearAll 25 = .ok (.aload_n 0, 1) := by decide +kernel
theorem dX7_bearAll_26 : decode cX7_bearAll 26 = .ok (.getfield 10, 3) := by decide +kernel
theorem dX7_bearAll_29 : decode cX7_bearAll 29 = .ok (.iload_n 1, 1) := by decide +kernel
theorem dX7_bearAll_30 : decode cX7_bearAll 30 = .ok (.invokevirtual 201, 3) := by decide +kernel
theorem dX7_bearAll_33 : decode cX7_bearAll 33 = .ok (.aload_n 0, 1) := by decide +kernel
theorem dX7_bearAll_34 : decode cX7_bearAll 34 = .ok (.getfield 58, 3) := by decide +kernel
theorem dX7_bearAll_37 : decode cX7_bearAll 37 = .ok (.aload_n 0, 1) := by decide +kernel
theorem dX7_bearAll_38 : decode cX7_bearAll 38 = .ok (.getfield 44, 3) := by decide +kernel
theorem dX7_bearAll_41 : decode cX7_bearAll 41 = .ok (.invokevirtual 189, 3) := by decide +kernel
theorem dX7_bearAll_44 : decode cX7_bearAll 44 = .ok (.iconst 0, 1) := by decide +kernel
theorem dX7_bearAll_45 : decode cX7_bearAll 45 = .ok (.istore_n 2, 1) := by decide +kernel
theorem dX7_bearAll_46 : decode cX7_bearAll 46 = .ok (.iload_n 2, 1) := by decide +kernel
theorem dX7_bearAll_47 : decode cX7_bearAll 47 = .ok (.aload_n 0, 1) := by decide +kernel
theorem dX7_bearAll_48 : decode cX7_bearAll 48 = .ok (.getfield 10, 3) := by decide +kernel
theorem dX7_bearAll_51 : decode cX7_bearAll 51 = .ok (.getfield 96, 3) := by decide +kernel
theorem dX7_bearAll_54 : decode cX7_bearAll 54 = .ok (.if_icmp .ge 40, 3) := by decide +kernel
theorem dX7_bearAll_57 : decode cX7_bearAll 57 = .ok (.aload_n 0, 1) := by decide +kernel
theorem dX7_bearAll_58 : decode cX7_bearAll 58 = .ok (.getfield 69, 3) := by decide +kernel
theorem dX7_bearAll_61 : decode cX7_bearAll 61 = .ok (.iload_n 2, 1) := by decide +kernel
theorem dX7_bearAll_62 : decode cX7_bearAll 62 = .ok (.dup2, 1) := by decide +kernel
theorem dX7_bearAll_63 : decode cX7_bearAll 63 = .ok (.iaload, 1) := by decide +kernel
theorem dX7_bearAll_64 : decode cX7_bearAll 64 = .ok (.aload_n 0, 1) := by decide +kernel
theorem dX7_bearAll_65 : decode cX7_bearAll 65 = .ok (.getfield 10, 3) := by decide +kernel
theorem dX7_bearAll_68 : decode cX7_bearAll 68 = .ok (.getfield 123, 3) := by decide +kernel
theorem dX7_bearAll_71 : decode cX7_bearAll 71 = .ok (.iload_n 1, 1) := by decide +kernel
theorem dX7_bearAll_72 : decode cX7_bearAll 72 = .ok (.iaload, 1) := by decide +kernel
theorem dX7_bearAll_73 : decode cX7_bearAll 73 = .ok (.aload_n 0, 1) := by decide +kernel
theorem dX7_bearAll_74 : decode cX7_bearAll 74 = .ok (.getfield 58, 3) := by decide +kernel
theorem dX7_bearAll_77 : decode cX7_bearAll 77 = .ok (.aload_n 0, 1) := by decide +kernel
theorem dX7_bearAll_78 : decode cX7_bearAll 78 = .ok (.getfield 44, 3) := by decide +kernel
theorem dX7_bearAll_81 : decode cX7_bearAll 81 = .ok (.iload_n 2, 1) := by decide +kernel
theorem dX7_bearAll_82 : decode cX7_bearAll 82 = .ok (.invokevirtual 222, 3) := by decide +kernel
theorem dX7_bearAll_85 : decode cX7_bearAll 85 = .ok (.imul, 1) := by decide +kernel
theorem dX7_bearAll_86 : decode cX7_bearAll 86 = .ok (.iadd, 1) := by decide +kernel
theorem dX7_bearAll_87 : decode cX7_bearAll 87 = .ok (.iastore, 1) := by decide +kernel
theorem dX7_bearAll_88 : decode cX7_bearAll 88 = .ok (.iinc 2 1, 3) := by decide +kernel
theorem dX7_bearAll_91 : decode cX7_bearAll 91 = .ok (.goto (-45), 3) := by decide +kernel
theorem dX7_bearAll_94 : decode cX7_bearAll 94 = .ok (.iinc 1 1, 3) := by decide +kernel
theorem dX7_bearAll_97 : decode cX7_bearAll 97 = .ok (.goto (-87), 3) := by decide +kernel
theorem dX7_bearAll_100 : decode cX7_bearAll 100 = .ok (.return_, 1) := by decide +kernel
set_option maxRecDepth 20000 in
theorem ggX7_findLeast_X7_loseEach : GoodIn wsX7_findLeast wsX7_loseEach := goodIn_r _ [9, 3, 1, 10, 11, 2, 12, 13, 14, 15, 16, 17, 18, 19, 20, 21, 22, 23, 24, 25, 26, 27, 28, 29, 30, 31, 32, 33, 34, 35, 36, 37, 38, 39, 40, 41, 42, 43, 44, 45, 46, 47, 48, 49, 50, 51, 52, 53, 54, 55, 56, 57, 58, 59, 60, 61, 62, 63, 64, 65, 66, 67, 68, 69, 70, 71, 72, 73, 74, 75, 76, 77, 78, 79, 80, 81, 82, 83, 84, 85, 86, 87, 88, 89, 90, 91, 92, 93, 94, 95, 96, 97, 98, 99, 100, 101, 102, 103, 104, 105, 106, 107, 108, 109, 110, 111, 112, 113, 114, 115, 116, 117, 118, 119, 120, 121, 122, 123] (by decide +kernel) (by decide +kernel)
set_option maxRecDepth 20000 in
theorem gX7_findLeast_X7_loseEach : GoodIn wsX7_findLeast (wsV RX7 165 RX7 yX7_loseEach wsX7_loseEach) := goodIn_app (goodIn_of _ (by decide +kernel)) ggX7_findLeast_X7_loseEach
theorem dX7_findLeast_0 : decode cX7_findLeast 0 = .ok (.aload_n 0, 1) := by decide +kernel
theorem dX7_findLeast_1 : decode cX7_findLeast 1 = .ok (.invokevirtual 165, 3) := by decide +kernel
theorem dX7_findLeast_4 : decode cX7_findLeast 4 = .ok (.iconst (-1), 1) := by decide +kernel
theorem dX7_findLeast_5 : decode cX7_findLeast 5 = .ok (.istore_n 1, 1) := by decide +kernel
theorem dX7_findLeast_6 : decode cX7_findLeast 6 = .ok (.iconst 0, 1) := by decide +kernel
theorem dX7_findLeast_7 : decode cX7_findLeast 7 = .ok (.istore_n 2, 1) := by decide +kernel
theorem dX7_findLeast_8 : decode cX7_findLeast 8 = .ok (.iload_n 2, 1) := by decide +kernel
theorem dX7_findLeast_9 : decode cX7_findLeast 9 = .ok (.aload_n 0, 1) := by decide +kernel
theorem dX7_findLeast_10 : decode cX7_findLeast 10 = .ok (.getfield 10, 3) := by decide +kernel
theorem dX7_findLeast_13 : decode cX7_findLeast 13 = .ok (.getfield 96, 3) := by decide +kernel
theorem dX7_findLeast_16 : decode cX7_findLeast 16 = .ok (.if_icmp .ge 67, 3) := by decide +kernel
theorem dX7_findLeast_19 : decode cX7_findLeast 19 = .ok (.iload_n 1, 1) := by decide +kernel
theorem dX7_findLeast_20 : decode cX7_findLeast 20 = .ok (.iconst (-1), 1) := by decide +kernel
theorem dX7_findLeast_21 : decode cX7_findLeast 21 = .ok (.if_icmp .eq 54, 3) := by decide +kernel
theorem dX7_findLeast_24 : decode cX7_findLeast 24 = .ok (.aload_n 0, 1) := by decide +kernel
theorem dX7_findLeast_25 : decode cX7_findLeast 25 = .ok (.getfield 73, 3) := by decide +kernel
theorem dX7_findLeast_28 : decode cX7_findLeast 28 = .ok (.iload_n 2, 1) := by decide +kernel
theorem dX7_findLeast_29 : decode cX7_findLeast 29 = .ok (.iaload, 1) := by decide +kernel
theorem dX7_findLeast_30 : decode cX7_findLeast 30 = .ok (.aload_n 0, 1) := by decide +kernel
theorem dX7_findLeast_31 : decode cX7_findLeast 31 = .ok (.getfield 73, 3) := by decide +kernel
theorem dX7_findLeast_34 : decode cX7_findLeast 34 = .ok (.iload_n 1, 1) := by decide +kernel
theorem dX7_findLeast_35 : decode cX7_findLeast 35 = .ok (.iaload, 1) := by decide +kernel
theorem dX7_findLeast_36 : decode cX7_findLeast 36 = .ok (.if_icmp .lt 39, 3) := by decide +kernel
theorem dX7_findLeast_39 : decode cX7_findLeast 39 = .ok (.aload_n 0, 1) := by decide +kernel
theorem dX7_findLeast_40 : decode cX7_findLeast 40 = .ok (.getfield 73, 3) := by decide +kernel
theorem dX7_findLeast_43 : decode cX7_findLeast 43 = .ok (.iload_n 2, 1) := by decide +kernel
theorem dX7_findLeast_44 : decode cX7_findLeast 44 = .ok (.iaload, 1) := by decide +kernel
theorem dX7_findLeast_45 : decode cX7_findLeast 45 = .ok (.aload_n 0, 1) := by decide +kernel
theorem dX7_findLeast_46 : decode cX7_findLeast 46 = .ok (.getfield 73, 3) := by decide +kernel
theorem dX7_findLeast_49 : decode cX7_findLeast 49 = .ok (.iload_n 1, 1) := by decide +kernel
theorem dX7_findLeast_50 : decode cX7_findLeast 50 = .ok (.iaload, 1) := by decide +kernel
theorem dX7_findLeast_51 : decode cX7_findLeast 51 = .ok (.if_icmp .ne 26, 3) := by decide +kernel
theorem dX7_findLeast_54 : decode cX7_findLeast 54 = .ok (.aload_n 0, 1) := by decide +kernel
theorem dX7_findLeast_55 : decode cX7_findLeast 55 = .ok (.getfield 10, 3) := by decide +kernel
theorem dX7_findLeast_58 : decode cX7_findLeast 58 = .ok (.getfield 103, 3) := by decide +kernel
theorem dX7_findLeast_61 : decode cX7_findLeast 61 = .ok (.iload_n 2, 1) := by decide +kernel
theorem dX7_findLeast_62 : decode cX7_findLeast 62 = .ok (.iaload, 1) := by decide +kernel
theorem dX7_findLeast_63 : decode cX7_findLeast 63 = .ok (.aload_n 0, 1) := by decide +kernel
theorem dX7_findLeast_64 : decode cX7_findLeast 64 = .ok (.getfield 10, 3) := by decide +kernel
theorem dX7_findLeast_67 : decode cX7_findLeast 67 = .ok (.getfield 103, 3) := by decide +kernel
theorem dX7_findLeast_70 : decode cX7_findLeast 70 = .ok (.iload_n 1, 1) := by decide +kernel
theorem dX7_findLeast_71 : decode cX7_findLeast 71 = .ok (.iaload, 1) := by decide +kernel
theorem dX7_findLeast_72 : decode cX7_findLeast 72 = .ok (.if_icmp .gt 5, 3) := by decide +kernel
theorem dX7_findLeast_75 : decode cX7_findLeast 75 = .ok (.iload_n 2, 1) := by decide +kernel
theorem dX7_findLeast_76 : decode cX7_findLeast 76 = .ok (.istore_n 1, 1) := by decide +kernel
theorem dX7_findLeast_77 : decode cX7_findLeast 77 = .ok (.iinc 2 1, 3) := by decide +kernel
theorem dX7_findLeast_80 : decode cX7_findLeast 80 = .ok (.goto (-72), 3) := by decide +kernel
theorem dX7_findLeast_83 : decode cX7_findLeast 83 = .ok (.iload_n 1, 1) := by decide +kernel
theorem dX7_findLeast_84 : decode cX7_findLeast 84 = .ok (.ireturn, 1) := by decide +kernel
set_option maxRecDepth 20000 in
theorem ggX7_findGrowing_X7_cutBest : GoodIn wsX7_findGrowing wsX7_cutBest := goodIn_r _ [19, 9, 5, 20, 21, 22, 23, 24, 25, 26, 27, 28, 29, 30, 31, 32, 33, 34, 35, 36, 37, 38, 39, 11, 12, 13, 40, 41, 42, 43, 44, 45, 46, 47, 48, 49, 50, 51, 52, 53, 54, 55, 56, 57, 58, 59, 60, 61, 62, 63, 64, 65, 66, 67, 68, 69, 70, 71, 72, 73, 74, 75, 76, 77, 78, 79, 80, 81, 82, 83, 84, 85, 86, 112, 113, 114, 115, 116, 117, 118, 119, 120, 121, 122, 123, 129, 130, 131, 132, 133, 134, 135, 136, 145, 146, 147, 148, 137, 138, 139, 140, 141, 142, 143, 144] (by decide +kernel) (by decide +kernel)
set_option maxRecDepth 20000 in
theorem gX7_findGrowing_X7_cutBest : GoodIn wsX7_findGrowing (wsV RX7 173 RX7 yX7_cutBest wsX7_cutBest) := goodIn_app (goodIn_of _ (by decide +kernel)) ggX7_findGrowing_X7_cutBest
set_option maxRecDepth 20000 in
theorem ggX7_findGrowing_X4_pieceAt : GoodIn wsX7_findGrowing wsX4_pieceAt := goodIn_r _ [76, 34, 46, 47, 23, 48, 145, 146, 147, 148] (by decide +kernel) (by decide +kernel)
set_option maxRecDepth 20000 in
theorem gX7_findGrowing_X4_pieceAt : GoodIn wsX7_findGrowing (wsV RX7 269 RX4 yX4_pieceAt wsX4_pieceAt) := goodIn_app (goodIn_of _ (by decide +kernel)) ggX7_findGrowing_X4_pieceAt
set_option maxRecDepth 20000 in
theorem ggX7_findGrowing_X7_partWeight : GoodIn wsX7_findGrowing wsX7_partWeight := goodIn_r _ [91, 5, 92, 3, 93, 112, 113, 114, 115, 116, 117, 118, 119, 120, 121, 122, 123, 137, 138, 139, 140, 141, 142, 143, 144, 129, 130, 131, 132, 133, 134, 135, 136] (by decide +kernel) (by decide +kernel)
set_option maxRecDepth 20000 in
theorem gX7_findGrowing_X7_partWeight : GoodIn wsX7_findGrowing (wsV RX7 272 RX7 yX7_partWeight wsX7_partWeight) := goodIn_app (goodIn_of _ (by decide +kernel)) ggX7_findGrowing_X7_partWeight
set_option maxRecDepth 20000 in
theorem ggX7_findGrowing_X4_textAt : GoodIn wsX7_findGrowing wsX4_textAt := goodIn_r _ [97, 33, 46, 47, 23, 48, 145, 146, 147, 148] (by decide +kernel) (by decide +kernel)
set_option maxRecDepth 20000 in
theorem gX7_findGrowing_X4_textAt : GoodIn wsX7_findGrowing (wsV RX7 278 RX4 yX4_textAt wsX4_textAt) := goodIn_app (goodIn_of _ (by decide +kernel)) ggX7_findGrowing_X4_textAt
set_option maxRecDepth 20000 in
theorem ggX7_findGrowing_X5_add : GoodIn wsX7_findGrowing wsX5_add := goodIn_r _ [102, 103, 104, 105, 106, 107, 124, 125, 126, 127, 128] (by decide +kernel) (by decide +kernel)
set_option maxRecDepth 20000 in
theorem gX7_findGrowing_X5_add : GoodIn wsX7_findGrowing (wsV RX7 281 RX5 yX5_add wsX5_add) := goodIn_app (goodIn_of _ (by decide +kernel)) ggX7_findGrowing_X5_add
set_option maxRecDepth 20000 in
theorem ggX7_findGrowing_X5_mostFrequent : GoodIn wsX7_findGrowing wsX5_mostFrequent := goodIn_r _ [111, 103, 105, 104, 124, 125, 126, 127, 128] (by decide +kernel) (by decide +kernel)
set_option maxRecDepth 20000 in
theorem gX7_findGrowing_X5_mostFrequent : GoodIn wsX7_findGrowing (wsV RX7 285 RX5 yX5_mostFrequent wsX5_mostFrequent) := goodIn_app (goodIn_of _ (by decide +kernel)) ggX7_findGrowing_X5_mostFrequent
theorem dX7_findGrowing_0 : decode cX7_findGrowing 0 = .ok (.aload_n 0, 1) := by decide +kernel
theorem dX7_findGrowing_1 : decode cX7_findGrowing 1 = .ok (.getfield 65, 3) := by decide +kernel
theorem dX7_findGrowing_4 : decode cX7_findGrowing 4 = .ok (.iconst 0, 1) := by decide +kernel
theorem dX7_findGrowing_5 : decode cX7_findGrowing 5 = .ok (.putfield 268, 3) := by decide +kernel
theorem dX7_findGrowing_8 : decode cX7_findGrowing 8 = .ok (.iconst 0, 1) := by decide +kernel
theorem dX7_findGrowing_9 : decode cX7_findGrowing 9 = .ok (.istore_n 1, 1) := by decide +kernel
theorem dX7_findGrowing_10 : decode cX7_findGrowing 10 = .ok (.iload_n 1, 1) := by decide +kernel
theorem dX7_findGrowing_11 : decode cX7_findGrowing 11 = .ok (.aload_n 0, 1) := by decide +kernel
theorem dX7_findGrowing_12 : decode cX7_findGrowing 12 = .ok (.getfield 10, 3) := by decide +kernel
theorem dX7_findGrowing_15 : decode cX7_findGrowing 15 = .ok (.getfield 113, 3) := by decide +kernel
theorem dX7_findGrowing_18 : decode cX7_findGrowing 18 = .ok (.if_icmp .ge 139, 3) := by decide +kernel
theorem dX7_findGrowing_21 : decode cX7_findGrowing 21 = .ok (.aload_n 0, 1) := by decide +kernel
theorem dX7_findGrowing_22 : decode cX7_findGrowing 22 = .ok (.aload_n 0, 1) := by decide +kernel
theorem dX7_findGrowing_23 : decode cX7_findGrowing 23 = .ok (.getfield 10, 3) := by decide +kernel
theorem dX7_findGrowing_26 : decode cX7_findGrowing 26 = .ok (.iload_n 1, 1) := by decide +kernel
theorem dX7_findGrowing_27 : decode cX7_findGrowing 27 = .ok (.invokevirtual 173, 3) := by decide +kernel
theorem dX7_findGrowing_30 : decode cX7_findGrowing 30 = .ok (.iconst 0, 1) := by decide +kernel
theorem dX7_findGrowing_31 : decode cX7_findGrowing 31 = .ok (.istore_n 2, 1) := by decide +kernel
theorem dX7_findGrowing_32 : decode cX7_findGrowing 32 = .ok (.iload_n 2, 1) := by decide +kernel
theorem dX7_findGrowing_33 : decode cX7_findGrowing 33 = .ok (.iconst 1, 1) := by decide +kernel
theorem dX7_findGrowing_34 : decode cX7_findGrowing 34 = .ok (.iadd, 1) := by decide +kernel
theorem dX7_findGrowing_35 : decode cX7_findGrowing 35 = .ok (.aload_n 0, 1) := by decide +kernel
theorem dX7_findGrowing_36 : decode cX7_findGrowing 36 = .ok (.getfield 51, 3) := by decide +kernel
theorem dX7_findGrowing_39 : decode cX7_findGrowing 39 = .ok (.getfield 180, 3) := by decide +kernel
theorem dX7_findGrowing_42 : decode cX7_findGrowing 42 = .ok (.if_icmp .ge 109, 3) := by decide +kernel
theorem dX7_findGrowing_45 : decode cX7_findGrowing 45 = .ok (.aload_n 0, 1) := by decide +kernel
theorem dX7_findGrowing_46 : decode cX7_findGrowing 46 = .ok (.getfield 51, 3) := by decide +kernel
theorem dX7_findGrowing_49 : decode cX7_findGrowing 49 = .ok (.getfield 216, 3) := by decide +kernel
theorem dX7_findGrowing_52 : decode cX7_findGrowing 52 = .ok (.iload_n 2, 1) := by decide +kernel
theorem dX7_findGrowing_53 : decode cX7_findGrowing 53 = .ok (.iaload, 1) := by decide +kernel
theorem dX7_findGrowing_54 : decode cX7_findGrowing 54 = .ok (.istore_n 3, 1) := by decide +kernel
theorem dX7_findGrowing_55 : decode cX7_findGrowing 55 = .ok (.aload_n 0, 1) := by decide +kernel
theorem dX7_findGrowing_56 : decode cX7_findGrowing 56 = .ok (.getfield 51, 3) := by decide +kernel
theorem dX7_findGrowing_59 : decode cX7_findGrowing 59 = .ok (.getfield 219, 3) := by decide +kernel
theorem dX7_findGrowing_62 : decode cX7_findGrowing 62 = .ok (.iload_n 2, 1) := by decide +kernel
theorem dX7_findGrowing_63 : decode cX7_findGrowing 63 = .ok (.iaload, 1) := by decide +kernel
theorem dX7_findGrowing_64 : decode cX7_findGrowing 64 = .ok (.aload_n 0, 1) := by decide +kernel
theorem dX7_findGrowing_65 : decode cX7_findGrowing 65 = .ok (.getfield 51, 3) := by decide +kernel
theorem dX7_findGrowing_68 : decode cX7_findGrowing 68 = .ok (.getfield 219, 3) := by decide +kernel
theorem dX7_findGrowing_71 : decode cX7_findGrowing 71 = .ok (.iload_n 2, 1) := by decide +kernel
theorem dX7_findGrowing_72 : decode cX7_findGrowing 72 = .ok (.iconst 1, 1) := by decide +kernel
theorem dX7_findGrowing_73 : decode cX7_findGrowing 73 = .ok (.iadd, 1) := by decide +kernel
theorem dX7_findGrowing_74 : decode cX7_findGrowing 74 = .ok (.iaload, 1) := by decide +kernel
theorem dX7_findGrowing_75 : decode cX7_findGrowing 75 = .ok (.iadd, 1) := by decide +kernel
theorem dX7_findGrowing_76 : decode cX7_findGrowing 76 = .ok (.istore 4, 2) := by decide +kernel
theorem dX7_findGrowing_78 : decode cX7_findGrowing 78 = .ok (.iload 4, 2) := by decide +kernel
theorem dX7_findGrowing_80 : decode cX7_findGrowing 80 = .ok (.iconst 4, 1) := by decide +kernel
theorem dX7_findGrowing_81 : decode cX7_findGrowing 81 = .ok (.if_icmp .gt 64, 3) := by decide +kernel
theorem dX7_findGrowing_84 : decode cX7_findGrowing 84 = .ok (.aload_n 0, 1) := by decide +kernel
theorem dX7_findGrowing_85 : decode cX7_findGrowing 85 = .ok (.getfield 44, 3) := by decide +kernel
theorem dX7_findGrowing_88 : decode cX7_findGrowing 88 = .ok (.iload_n 3, 1) := by decide +kernel
theorem dX7_findGrowing_89 : decode cX7_findGrowing 89 = .ok (.iload 4, 2) := by decide +kernel
theorem dX7_findGrowing_91 : decode cX7_findGrowing 91 = .ok (.invokevirtual 269, 3) := by decide +kernel
theorem dX7_findGrowing_94 : decode cX7_findGrowing 94 = .ok (.iconst (-1), 1) := by decide +kernel
theorem dX7_findGrowing_95 : decode cX7_findGrowing 95 = .ok (.if_icmp .ne 50, 3) := by decide +kernel
theorem dX7_findGrowing_98 : decode cX7_findGrowing 98 = .ok (.aload_n 0, 1) := by decide +kernel
theorem dX7_findGrowing_99 : decode cX7_findGrowing 99 = .ok (.iload_n 2, 1) := by decide +kernel
theorem dX7_findGrowing_100 : decode cX7_findGrowing 100 = .ok (.invokevirtual 272, 3) := by decide +kernel
theorem dX7_findGrowing_103 : decode cX7_findGrowing 103 = .ok (.aload_n 0, 1) := by decide +kernel
theorem dX7_findGrowing_104 : decode cX7_findGrowing 104 = .ok (.iload_n 2, 1) := by decide +kernel
theorem dX7_findGrowing_105 : decode cX7_findGrowing 105 = .ok (.iconst 1, 1) := by decide +kernel
theorem dX7_findGrowing_106 : decode cX7_findGrowing 106 = .ok (.iadd, 1) := by decide +kernel
theorem dX7_findGrowing_107 : decode cX7_findGrowing 107 = .ok (.invokevirtual 272, 3) := by decide +kernel
theorem dX7_findGrowing_110 : decode cX7_findGrowing 110 = .ok (.invokestatic 275, 3) := by decide +kernel
theorem dX7_findGrowing_113 : decode cX7_findGrowing 113 = .ok (.istore 5, 2) := by decide +kernel
theorem dX7_findGrowing_115 : decode cX7_findGrowing 115 = .ok (.aload_n 0, 1) := by decide +kernel
theorem dX7_findGrowing_116 : decode cX7_findGrowing 116 = .ok (.getfield 65, 3) := by decide +kernel
theorem dX7_findGrowing_119 : decode cX7_findGrowing 119 = .ok (.aload_n 0, 1) := by decide +kernel
theorem dX7_findGrowing_120 : decode cX7_findGrowing 120 = .ok (.getfield 44, 3) := by decide +kernel
theorem dX7_findGrowing_123 : decode cX7_findGrowing 123 = .ok (.iload_n 3, 1) := by decide +kernel
theorem dX7_findGrowing_124 : decode cX7_findGrowing 124 = .ok (.iload 4, 2) := by decide +kernel
theorem dX7_findGrowing_126 : decode cX7_findGrowing 126 = .ok (.invokevirtual 278, 3) := by decide +kernel
theorem dX7_findGrowing_129 : decode cX7_findGrowing 129 = .ok (.iload 4, 2) := by decide +kernel
theorem dX7_findGrowing_131 : decode cX7_findGrowing 131 = .ok (.iload 5, 2) := by decide +kernel
theorem dX7_findGrowing_133 : decode cX7_findGrowing 133 = .ok (.aload_n 0, 1) := by decide +kernel
theorem dX7_findGrowing_134 : decode cX7_findGrowing 134 = .ok (.getfield 10, 3) := by decide +kernel
theorem dX7_findGrowing_137 : decode cX7_findGrowing 137 = .ok (.getfield 123, 3) := by decide +kernel
theorem dX7_findGrowing_140 : decode cX7_findGrowing 140 = .ok (.iload_n 1, 1) := by decide +kernel
theorem dX7_findGrowing_141 : decode cX7_findGrowing 141 = .ok (.iaload, 1) := by decide +kernel
theorem dX7_findGrowing_142 : decode cX7_findGrowing 142 = .ok (.invokevirtual 281, 3) := by decide +kernel
theorem dX7_findGrowing_145 : decode cX7_findGrowing 145 = .ok (.iinc 2 1, 3) := by decide +kernel
theorem dX7_findGrowing_148 : decode cX7_findGrowing 148 = .ok (.goto (-116), 3) := by decide +kernel
theorem dX7_findGrowing_151 : decode cX7_findGrowing 151 = .ok (.iinc 1 1, 3) := by decide +kernel
theorem dX7_findGrowing_154 : decode cX7_findGrowing 154 = .ok (.goto (-144), 3) := by decide +kernel
theorem dX7_findGrowing_157 : decode cX7_findGrowing 157 = .ok (.aload_n 0, 1) := by decide +kernel
theorem dX7_findGrowing_158 : decode cX7_findGrowing 158 = .ok (.getfield 65, 3) := by decide +kernel
theorem dX7_findGrowing_161 : decode cX7_findGrowing 161 = .ok (.invokevirtual 285, 3) := by decide +kernel
theorem dX7_findGrowing_164 : decode cX7_findGrowing 164 = .ok (.ireturn, 1) := by decide +kernel
theorem dX7_partWeight_0 : decode cX7_partWeight 0 = .ok (.aload_n 0, 1) := by decide +kernel
theorem dX7_partWeight_1 : decode cX7_partWeight 1 = .ok (.getfield 51, 3) := by decide +kernel
theorem dX7_partWeight_4 : decode cX7_partWeight 4 = .ok (.getfield 213, 3) := by decide +kernel
theorem dX7_partWeight_7 : decode cX7_partWeight 7 = .ok (.iload_n 1, 1) := by decide +kernel
theorem dX7_partWeight_8 : decode cX7_partWeight 8 = .ok (.iaload, 1) := by decide +kernel
theorem dX7_partWeight_9 : decode cX7_partWeight 9 = .ok (.istore_n 2, 1) := by decide +kernel
theorem dX7_partWeight_10 : decode cX7_partWeight 10 = .ok (.iload_n 2, 1) := by decide +kernel
theorem dX7_partWeight_11 : decode cX7_partWeight 11 = .ok (.iconst (-1), 1) := by decide +kernel
theorem dX7_partWeight_12 : decode cX7_partWeight 12 = .ok (.if_icmp .ne 7, 3) := by decide +kernel
theorem dX7_partWeight_15 : decode cX7_partWeight 15 = .ok (.iconst 1, 1) := by decide +kernel
theorem dX7_partWeight_16 : decode cX7_partWeight 16 = .ok (.goto 12, 3) := by decide +kernel
theorem dX7_partWeight_19 : decode cX7_partWeight 19 = .ok (.aload_n 0, 1) := by decide +kernel
theorem dX7_partWeight_20 : decode cX7_partWeight 20 = .ok (.getfield 10, 3) := by decide +kernel
theorem dX7_partWeight_23 : decode cX7_partWeight 23 = .ok (.getfield 103, 3) := by decide +kernel
theorem dX7_partWeight_26 : decode cX7_partWeight 26 = .ok (.iload_n 2, 1) := by decide +kernel
theorem dX7_partWeight_27 : decode cX7_partWeight 27 = .ok (.iaload, 1) := by decide +kernel
theorem dX7_partWeight_28 : decode cX7_partWeight 28 = .ok (.ireturn, 1) := by decide +kernel
theorem dX8_init_0 : decode cX8_init 0 = .ok (.aload_n 0, 1) := by decide +kernel
theorem dX8_init_1 : decode cX8_init 1 = .ok (.invokespecial 1, 3) := by decide +kernel
theorem dX8_init_4 : decode cX8_init 4 = .ok (.aload_n 0, 1) := by decide +kernel
theorem dX8_init_5 : decode cX8_init 5 = .ok (.sipush 210, 3) := by decide +kernel
theorem dX8_init_8 : decode cX8_init 8 = .ok (.newarray .int, 2) := by decide +kernel
theorem dX8_init_10 : decode cX8_init 10 = .ok (.putfield 7, 3) := by decide +kernel
theorem dX8_init_13 : decode cX8_init 13 = .ok (.aload_n 0, 1) := by decide +kernel
theorem dX8_init_14 : decode cX8_init 14 = .ok (.sipush 210, 3) := by decide +kernel
theorem dX8_init_17 : decode cX8_init 17 = .ok (.newarray .int, 2) := by decide +kernel
theorem dX8_init_19 : decode cX8_init 19 = .ok (.putfield 13, 3) := by decide +kernel
theorem dX8_init_22 : decode cX8_init 22 = .ok (.aload_n 0, 1) := by decide +kernel
theorem dX8_init_23 : decode cX8_init 23 = .ok (.sipush 1260, 3) := by decide +kernel
theorem dX8_init_26 : decode cX8_init 26 = .ok (.newarray .int, 2) := by decide +kernel
theorem dX8_init_28 : decode cX8_init 28 = .ok (.putfield 16, 3) := by decide +kernel
theorem dX8_init_31 : decode cX8_init 31 = .ok (.aload_n 0, 1) := by decide +kernel
theorem dX8_init_32 : decode cX8_init 32 = .ok (.sipush 420, 3) := by decide +kernel
theorem dX8_init_35 : decode cX8_init 35 = .ok (.newarray .int, 2) := by decide +kernel
theorem dX8_init_37 : decode cX8_init 37 = .ok (.putfield 19, 3) := by decide +kernel
theorem dX8_init_40 : decode cX8_init 40 = .ok (.aload_n 0, 1) := by decide +kernel
theorem dX8_init_41 : decode cX8_init 41 = .ok (.iconst 2, 1) := by decide +kernel
theorem dX8_init_42 : decode cX8_init 42 = .ok (.newarray .int, 2) := by decide +kernel
theorem dX8_init_44 : decode cX8_init 44 = .ok (.putfield 22, 3) := by decide +kernel
theorem dX8_init_47 : decode cX8_init 47 = .ok (.aload_n 0, 1) := by decide +kernel
theorem dX8_init_48 : decode cX8_init 48 = .ok (.bipush 16, 2) := by decide +kernel
theorem dX8_init_50 : decode cX8_init 50 = .ok (.newarray .int, 2) := by decide +kernel
theorem dX8_init_52 : decode cX8_init 52 = .ok (.putfield 25, 3) := by decide +kernel
theorem dX8_init_55 : decode cX8_init 55 = .ok (.aload_n 0, 1) := by decide +kernel
theorem dX8_init_56 : decode cX8_init 56 = .ok (.bipush 13, 2) := by decide +kernel
theorem dX8_init_58 : decode cX8_init 58 = .ok (.newarray .long, 2) := by decide +kernel
theorem dX8_init_60 : decode cX8_init 60 = .ok (.putfield 28, 3) := by decide +kernel
theorem dX8_init_63 : decode cX8_init 63 = .ok (.aload_n 0, 1) := by decide +kernel
theorem dX8_init_64 : decode cX8_init 64 = .ok (.bipush 13, 2) := by decide +kernel
theorem dX8_init_66 : decode cX8_init 66 = .ok (.newarray .int, 2) := by decide +kernel
theorem dX8_init_68 : decode cX8_init 68 = .ok (.putfield 32, 3) := by decide +kernel
theorem dX8_init_71 : decode cX8_init 71 = .ok (.aload_n 0, 1) := by decide +kernel
theorem dX8_init_72 : decode cX8_init 72 = .ok (.bipush 13, 2) := by decide +kernel
theorem dX8_init_74 : decode cX8_init 74 = .ok (.newarray .int, 2) := by decide +kernel
theorem dX8_init_76 : decode cX8_init 76 = .ok (.putfield 35, 3) := by decide +kernel
theorem dX8_init_79 : decode cX8_init 79 = .ok (.aload_n 0, 1) := by decide +kernel
theorem dX8_init_80 : decode cX8_init 80 = .ok (.bipush 13, 2) := by decide +kernel
theorem dX8_init_82 : decode cX8_init 82 = .ok (.newarray .long, 2) := by decide +kernel
theorem dX8_init_84 : decode cX8_init 84 = .ok (.putfield 38, 3) := by decide +kernel
theorem dX8_init_87 : decode cX8_init 87 = .ok (.aload_n 0, 1) := by decide +kernel
theorem dX8_init_88 : decode cX8_init 88 = .ok (.bipush 13, 2) := by decide +kernel
theorem dX8_init_90 : decode cX8_init 90 = .ok (.newarray .long, 2) := by decide +kernel
theorem dX8_init_92 : decode cX8_init 92 = .ok (.putfield 41, 3) := by decide +kernel
theorem dX8_init_95 : decode cX8_init 95 = .ok (.aload_n 0, 1) := by decide +kernel
theorem dX8_init_96 : decode cX8_init 96 = .ok (.bipush 88, 2) := by decide +kernel
theorem dX8_init_98 : decode cX8_init 98 = .ok (.newarray .int, 2) := by decide +kernel
theorem dX8_init_100 : decode cX8_init 100 = .ok (.putfield 44, 3) := by decide +kernel
theorem dX8_init_103 : decode cX8_init 103 = .ok (.aload_n 0, 1) := by decide +kernel
theorem dX8_init_104 : decode cX8_init 104 = .ok (.bipush 88, 2) := by decide +kernel
theorem dX8_init_106 : decode cX8_init 106 = .ok (.newarray .int, 2) := by decide +kernel
theorem dX8_init_108 : decode cX8_init 108 = .ok (.putfield 47, 3) := by decide +kernel
theorem dX8_init_111 : decode cX8_init 111 = .ok (.aload_n 0, 1) := by decide +kernel
theorem dX8_init_112 : decode cX8_init 112 = .ok (.bipush 88, 2) := by decide +kernel
theorem dX8_init_114 : decode cX8_init 114 = .ok (.newarray .int, 2) := by decide +kernel
theorem dX8_init_116 : decode cX8_init 116 = .ok (.putfield 50, 3) := by decide +kernel
theorem dX8_init_119 : decode cX8_init 119 = .ok (.aload_n 0, 1) := by decide +kernel
theorem dX8_init_120 : decode cX8_init 120 = .ok (.bipush 16, 2) := by decide +kernel
theorem dX8_init_122 : decode cX8_init 122 = .ok (.newarray .int, 2) := by decide +kernel
theorem dX8_init_124 : decode cX8_init 124 = .ok (.putfield 53, 3) := by decide +kernel
theorem dX8_init_127 : decode cX8_init 127 = .ok (.aload_n 0, 1) := by decide +kernel
theorem dX8_init_128 : decode cX8_init 128 = .ok (.getfield 7, 3) := by decide +kernel
theorem dX8_init_131 : decode cX8_init 131 = .ok (.iconst 0, 1) := by decide +kernel
theorem dX8_init_132 : decode cX8_init 132 = .ok (.iconst 0, 1) := by decide +kernel
theorem dX8_init_133 : decode cX8_init 133 = .ok (.iastore, 1) := by decide +kernel
theorem dX8_init_134 : decode cX8_init 134 = .ok (.return_, 1) := by decide +kernel
theorem dX8_copy_0 : decode cX8_copy 0 = .ok (.iconst 0, 1) := by decide +kernel
theorem dX8_copy_1 : decode cX8_copy 1 = .ok (.istore 4, 2) := by decide +kernel
theorem dX8_copy_3 : decode cX8_copy 3 = .ok (.iload 4, 2) := by decide +kernel
theorem dX8_copy_5 : decode cX8_copy 5 = .ok (.sipush 210, 3) := by decide +kernel
theorem dX8_copy_8 : decode cX8_copy 8 = .ok (.if_icmp .ge 21, 3) := by decide +kernel
theorem dX8_copy_11 : decode cX8_copy 11 = .ok (.aload_n 2, 1) := by decide +kernel
theorem dX8_copy_12 : decode cX8_copy 12 = .ok (.iload_n 3, 1) := by decide +kernel
theorem dX8_copy_13 : decode cX8_copy 13 = .ok (.iload 4, 2) := by decide +kernel
theorem dX8_copy_15 : decode cX8_copy 15 = .ok (.iadd, 1) := by decide +kernel
theorem dX8_copy_16 : decode cX8_copy 16 = .ok (.aload_n 0, 1) := by decide +kernel
theorem dX8_copy_17 : decode cX8_copy 17 = .ok (.iload_n 1, 1) := by decide +kernel
theorem dX8_copy_18 : decode cX8_copy 18 = .ok (.iload 4, 2) := by decide +kernel
theorem dX8_copy_20 : decode cX8_copy 20 = .ok (.iadd, 1) := by decide +kernel
theorem dX8_copy_21 : decode cX8_copy 21 = .ok (.iaload, 1) := by decide +kernel
theorem dX8_copy_22 : decode cX8_copy 22 = .ok (.iastore, 1) := by decide +kernel
theorem dX8_copy_23 : decode cX8_copy 23 = .ok (.iinc 4 1, 3) := by decide +kernel
theorem dX8_copy_26 : decode cX8_copy 26 = .ok (.goto (-23), 3) := by decide +kernel
theorem dX8_copy_29 : decode cX8_copy 29 = .ok (.return_, 1) := by decide +kernel
theorem dX8_within_0 : decode cX8_within 0 = .ok (.iload_n 0, 1) := by decide +kernel
theorem dX8_within_1 : decode cX8_within 1 = .ok (.iload_n 1, 1) := by decide +kernel
theorem dX8_within_2 : decode cX8_within 2 = .ok (.if_icmp .lt 12, 3) := by decide +kernel
theorem dX8_within_5 : decode cX8_within 5 = .ok (.iload_n 0, 1) := by decide +kernel
theorem dX8_within_6 : decode cX8_within 6 = .ok (.iload_n 2, 1) := by decide +kernel
theorem dX8_within_7 : decode cX8_within 7 = .ok (.if_icmp .gt 7, 3) := by decide +kernel
theorem dX8_within_10 : decode cX8_within 10 = .ok (.iconst 1, 1) := by decide +kernel
theorem dX8_within_11 : decode cX8_within 11 = .ok (.goto 4, 3) := by decide +kernel
theorem dX8_within_14 : decode cX8_within 14 = .ok (.iconst 0, 1) := by decide +kernel
theorem dX8_within_15 : decode cX8_within 15 = .ok (.ireturn, 1) := by decide +kernel
set_option maxRecDepth 20000 in
theorem ggX8_record_X8_copy : GoodIn wsX8_record wsX8_copy := goodIn_r _ [7] (by decide +kernel) (by decide +kernel)
set_option maxRecDepth 20000 in
theorem gX8_record_X8_copy : GoodIn wsX8_record (va_wsS RX8 60 yX8_copy wsX8_copy) := goodIn_app (goodIn_of _ (by decide +kernel)) ggX8_record_X8_copy
theorem dX8_record_0 : decode cX8_record 0 = .ok (.aload_n 0, 1) := by decide +kernel
theorem dX8_record_1 : decode cX8_record 1 = .ok (.getfield 56, 3) := by decide +kernel
theorem dX8_record_4 : decode cX8_record 4 = .ok (.bipush 6, 2) := by decide +kernel
theorem dX8_record_6 : decode cX8_record 6 = .ok (.if_icmp .ne 44, 3) := by decide +kernel
theorem dX8_record_9 : decode cX8_record 9 = .ok (.iconst 0, 1) := by decide +kernel
theorem dX8_record_10 : decode cX8_record 10 = .ok (.istore_n 1, 1) := by decide +kernel
theorem dX8_record_11 : decode cX8_record 11 = .ok (.iload_n 1, 1) := by decide +kernel
theorem dX8_record_12 : decode cX8_record 12 = .ok (.sipush 1050, 3) := by decide +kernel
theorem dX8_record_15 : decode cX8_record 15 = .ok (.if_icmp .ge 25, 3) := by decide +kernel
theorem dX8_record_18 : decode cX8_record 18 = .ok (.aload_n 0, 1) := by decide +kernel
theorem dX8_record_19 : decode cX8_record 19 = .ok (.getfield 16, 3) := by decide +kernel
theorem dX8_record_22 : decode cX8_record 22 = .ok (.iload_n 1, 1) := by decide +kernel
theorem dX8_record_23 : decode cX8_record 23 = .ok (.aload_n 0, 1) := by decide +kernel
theorem dX8_record_24 : decode cX8_record 24 = .ok (.getfield 16, 3) := by decide +kernel
theorem dX8_record_27 : decode cX8_record 27 = .ok (.iload_n 1, 1) := by decide +kernel
theorem dX8_record_28 : decode cX8_record 28 = .ok (.sipush 210, 3) := by decide +kernel
theorem dX8_record_31 : decode cX8_record 31 = .ok (.iadd, 1) := by decide +kernel
theorem dX8_record_32 : decode cX8_record 32 = .ok (.iaload, 1) := by decide +kernel
theorem dX8_record_33 : decode cX8_record 33 = .ok (.iastore, 1) := by decide +kernel
theorem dX8_record_34 : decode cX8_record 34 = .ok (.iinc 1 1, 3) := by decide +kernel
theorem dX8_record_37 : decode cX8_record 37 = .ok (.goto (-26), 3) := by decide +kernel
theorem dX8_record_40 : decode cX8_record 40 = .ok (.aload_n 0, 1) := by decide +kernel
theorem dX8_record_41 : decode cX8_record 41 = .ok (.dup, 1) := by decide +kernel
theorem dX8_record_42 : decode cX8_record 42 = .ok (.getfield 56, 3) := by decide +kernel
theorem dX8_record_45 : decode cX8_record 45 = .ok (.iconst 1, 1) := by decide +kernel
theorem dX8_record_46 : decode cX8_record 46 = .ok (.isub, 1) := by decide +kernel
theorem dX8_record_47 : decode cX8_record 47 = .ok (.putfield 56, 3) := by decide +kernel
theorem dX8_record_50 : decode cX8_record 50 = .ok (.aload_n 0, 1) := by decide +kernel
theorem dX8_record_51 : decode cX8_record 51 = .ok (.getfield 7, 3) := by decide +kernel
theorem dX8_record_54 : decode cX8_record 54 = .ok (.iconst 0, 1) := by decide +kernel
theorem dX8_record_55 : decode cX8_record 55 = .ok (.aload_n 0, 1) := by decide +kernel
theorem dX8_record_56 : decode cX8_record 56 = .ok (.getfield 16, 3) := by decide +kernel
theorem dX8_record_59 : decode cX8_record 59 = .ok (.aload_n 0, 1) := by decide +kernel
theorem dX8_record_60 : decode cX8_record 60 = .ok (.getfield 56, 3) := by decide +kernel
theorem dX8_record_63 : decode cX8_record 63 = .ok (.sipush 210, 3) := by decide +kernel
theorem dX8_record_66 : decode cX8_record 66 = .ok (.imul, 1) := by decide +kernel
theorem dX8_record_67 : decode cX8_record 67 = .ok (.invokestatic 60, 3) := by decide +kernel
theorem dX8_record_70 : decode cX8_record 70 = .ok (.aload_n 0, 1) := by decide +kernel
theorem dX8_record_71 : decode cX8_record 71 = .ok (.dup, 1) := by decide +kernel
theorem dX8_record_72 : decode cX8_record 72 = .ok (.getfield 56, 3) := by decide +kernel
theorem dX8_record_75 : decode cX8_record 75 = .ok (.iconst 1, 1) := by decide +kernel
theorem dX8_record_76 : decode cX8_record 76 = .ok (.iadd, 1) := by decide +kernel
theorem dX8_record_77 : decode cX8_record 77 = .ok (.putfield 56, 3) := by decide +kernel
theorem dX8_record_80 : decode cX8_record 80 = .ok (.return_, 1) := by decide +kernel
set_option maxRecDepth 20000 in
theorem ggX8_isPiece_X8_within : GoodIn wsX8_isPiece wsX8_within := goodIn_r _ [5] (by decide +kernel) (by decide +kernel)
set_option maxRecDepth 20000 in
theorem gX8_isPiece_X8_within : GoodIn wsX8_isPiece (va_wsS RX8 64 yX8_within wsX8_within) := goodIn_app (goodIn_of _ (by decide +kernel)) ggX8_isPiece_X8_within
theorem dX8_isPiece_0 : decode cX8_isPiece 0 = .ok (.iload_n 1, 1) := by decide +kernel
theorem dX8_isPiece_1 : decode cX8_isPiece 1 = .ok (.iconst 0, 1) := by decide +kernel
theorem dX8_isPiece_2 : decode cX8_isPiece 2 = .ok (.aload_n 0, 1) := by decide +kernel
theorem dX8_isPiece_3 : decode cX8_isPiece 3 = .ok (.getfield 7, 3) := by decide +kernel
theorem dX8_isPiece_6 : decode cX8_isPiece 6 = .ok (.iconst 0, 1) := by decide +kernel
theorem dX8_isPiece_7 : decode cX8_isPiece 7 = .ok (.iaload, 1) := by decide +kernel
theorem dX8_isPiece_8 : decode cX8_isPiece 8 = .ok (.iconst 1, 1) := by decide +kernel
theorem dX8_isPiece_9 : decode cX8_isPiece 9 = .ok (.isub, 1) := by decide +kernel
theorem dX8_isPiece_10 : decode cX8_isPiece 10 = .ok (.invokestatic 64, 3) := by decide +kernel
theorem dX8_isPiece_13 : decode cX8_isPiece 13 = .ok (.ireturn, 1) := by decide +kernel
set_option maxRecDepth 20000 in
theorem ggX8_isWord_X8_within : GoodIn wsX8_isWord wsX8_within := goodIn_r _ [5] (by decide +kernel) (by decide +kernel)
set_option maxRecDepth 20000 in
theorem gX8_isWord_X8_within : GoodIn wsX8_isWord (va_wsS RX8 64 yX8_within wsX8_within) := goodIn_app (goodIn_of _ (by decide +kernel)) ggX8_isWord_X8_within
theorem dX8_isWord_0 : decode cX8_isWord 0 = .ok (.iload_n 1, 1) := by decide +kernel
theorem dX8_isWord_1 : decode cX8_isWord 1 = .ok (.iconst 0, 1) := by decide +kernel
theorem dX8_isWord_2 : decode cX8_isWord 2 = .ok (.aload_n 0, 1) := by decide +kernel
theorem dX8_isWord_3 : decode cX8_isWord 3 = .ok (.getfield 7, 3) := by decide +kernel
theorem dX8_isWord_6 : decode cX8_isWord 6 = .ok (.iconst 1, 1) := by decide +kernel
theorem dX8_isWord_7 : decode cX8_isWord 7 = .ok (.iaload, 1) := by decide +kernel
theorem dX8_isWord_8 : decode cX8_isWord 8 = .ok (.iconst 1, 1) := by decide +kernel
theorem dX8_isWord_9 : decode cX8_isWord 9 = .ok (.isub, 1) := by decide +kernel
theorem dX8_isWord_10 : decode cX8_isWord 10 = .ok (.invokestatic 64, 3) := by decide +kernel
theorem dX8_isWord_13 : decode cX8_isWord 13 = .ok (.ireturn, 1) := by decide +kernel
theorem dX8_piecePart_0 : decode cX8_piecePart 0 = .ok (.aload_n 0, 1) := by decide +kernel
theorem dX8_piecePart_1 : decode cX8_piecePart 1 = .ok (.getfield 7, 3) := by decide +kernel
theorem dX8_piecePart_4 : decode cX8_piecePart 4 = .ok (.iconst 2, 1) := by decide +kernel
theorem dX8_piecePart_5 : decode cX8_piecePart 5 = .ok (.bipush 6, 2) := by decide +kernel
theorem dX8_piecePart_7 : decode cX8_piecePart 7 = .ok (.iload_n 1, 1) := by decide +kernel
theorem dX8_piecePart_8 : decode cX8_piecePart 8 = .ok (.imul, 1) := by decide +kernel
theorem dX8_piecePart_9 : decode cX8_piecePart 9 = .ok (.iadd, 1) := by decide +kernel
theorem dX8_piecePart_10 : decode cX8_piecePart 10 = .ok (.iload_n 2, 1) := by decide +kernel
theorem dX8_piecePart_11 : decode cX8_piecePart 11 = .ok (.iadd, 1) := by decide +kernel
theorem dX8_piecePart_12 : decode cX8_piecePart 12 = .ok (.iaload, 1) := by decide +kernel
theorem dX8_piecePart_13 : decode cX8_piecePart 13 = .ok (.ireturn, 1) := by decide +kernel
theorem dX8_wordPart_0 : decode cX8_wordPart 0 = .ok (.aload_n 0, 1) := by decide +kernel
theorem dX8_wordPart_1 : decode cX8_wordPart 1 = .ok (.getfield 7, 3) := by decide +kernel
theorem dX8_wordPart_4 : decode cX8_wordPart 4 = .ok (.bipush 98, 2) := by decide +kernel
theorem dX8_wordPart_6 : decode cX8_wordPart 6 = .ok (.bipush 14, 2) := by decide +kernel
theorem dX8_wordPart_8 : decode cX8_wordPart 8 = .ok (.iload_n 1, 1) := by decide +kernel
theorem dX8_wordPart_9 : decode cX8_wordPart 9 = .ok (.imul, 1) := by decide +kernel
theorem dX8_wordPart_10 : decode cX8_wordPart 10 = .ok (.iadd, 1) := by decide +kernel
theorem dX8_wordPart_11 : decode cX8_wordPart 11 = .ok (.iload_n 2, 1) := by decide +kernel
theorem dX8_wordPart_12 : decode cX8_wordPart 12 = .ok (.iadd, 1) := by decide +kernel
theorem dX8_wordPart_13 : decode cX8_wordPart 13 = .ok (.iaload, 1) := by decide +kernel
theorem dX8_wordPart_14 : decode cX8_wordPart 14 = .ok (.ireturn, 1) := by decide +kernel
set_option maxRecDepth 20000 in
theorem ggX8_textOf_X8_piecePart : GoodIn wsX8_textOf wsX8_piecePart := goodIn_r _ [5, 6, 7, 8, 9, 10, 11, 12, 13, 14, 15, 16, 17, 18, 19, 20, 21, 22, 23, 24] (by decide +kernel) (by decide +kernel)
set_option maxRecDepth 20000 in
theorem gX8_textOf_X8_piecePart : GoodIn wsX8_textOf (wsV RX8 68 RX8 yX8_piecePart wsX8_piecePart) := goodIn_app (goodIn_of _ (by decide +kernel)) ggX8_textOf_X8_piecePart
theorem dX8_textOf_0 : decode cX8_textOf 0 = .ok (.iconst 0, 1) := by decide +kernel
theorem dX8_textOf_1 : decode cX8_textOf 1 = .ok (.istore_n 2, 1) := by decide +kernel
theorem dX8_textOf_2 : decode cX8_textOf 2 = .ok (.iconst 0, 1) := by decide +kernel
theorem dX8_textOf_3 : decode cX8_textOf 3 = .ok (.istore_n 3, 1) := by decide +kernel
theorem dX8_textOf_4 : decode cX8_textOf 4 = .ok (.iload_n 3, 1) := by decide +kernel
theorem dX8_textOf_5 : decode cX8_textOf 5 = .ok (.aload_n 0, 1) := by decide +kernel
theorem dX8_textOf_6 : decode cX8_textOf 6 = .ok (.iload_n 1, 1) := by decide +kernel
theorem dX8_textOf_7 : decode cX8_textOf 7 = .ok (.iconst 0, 1) := by decide +kernel
theorem dX8_textOf_8 : decode cX8_textOf 8 = .ok (.invokevirtual 68, 3) := by decide +kernel
theorem dX8_textOf_11 : decode cX8_textOf 11 = .ok (.if_icmp .ge 23, 3) := by decide +kernel
theorem dX8_textOf_14 : decode cX8_textOf 14 = .ok (.bipush 7, 2) := by decide +kernel
theorem dX8_textOf_16 : decode cX8_textOf 16 = .ok (.iload_n 2, 1) := by decide +kernel
theorem dX8_textOf_17 : decode cX8_textOf 17 = .ok (.imul, 1) := by decide +kernel
theorem dX8_textOf_18 : decode cX8_textOf 18 = .ok (.aload_n 0, 1) := by decide +kernel
theorem dX8_textOf_19 : decode cX8_textOf 19 = .ok (.iload_n 1, 1) := by decide +kernel
theorem dX8_textOf_20 : decode cX8_textOf 20 = .ok (.iconst 2, 1) := by decide +kernel
theorem dX8_textOf_21 : decode cX8_textOf 21 = .ok (.iload_n 3, 1) := by decide +kernel
theorem dX8_textOf_22 : decode cX8_textOf 22 = .ok (.iadd, 1) := by decide +kernel
theorem dX8_textOf_23 : decode cX8_textOf 23 = .ok (.invokevirtual 68, 3) := by decide +kernel
theorem dX8_textOf_26 : decode cX8_textOf 26 = .ok (.iadd, 1) := by decide +kernel
theorem dX8_textOf_27 : decode cX8_textOf 27 = .ok (.istore_n 2, 1) := by decide +kernel
theorem dX8_textOf_28 : decode cX8_textOf 28 = .ok (.iinc 3 1, 3) := by decide +kernel
theorem dX8_textOf_31 : decode cX8_textOf 31 = .ok (.goto (-27), 3) := by decide +kernel
theorem dX8_textOf_34 : decode cX8_textOf 34 = .ok (.iload_n 2, 1) := by decide +kernel
theorem dX8_textOf_35 : decode cX8_textOf 35 = .ok (.ireturn, 1) := by decide +kernel
set_option maxRecDepth 20000 in
theorem ggX8_textIn_X8_wordPart : GoodIn wsX8_textIn wsX8_wordPart := goodIn_r _ [5, 6, 7, 8, 9, 10, 11, 12, 13, 14, 15, 16, 17, 18, 19, 20, 21, 22, 23, 24] (by decide +kernel) (by decide +kernel)
set_option maxRecDepth 20000 in
theorem gX8_textIn_X8_wordPart : GoodIn wsX8_textIn (wsV RX8 72 RX8 yX8_wordPart wsX8_wordPart) := goodIn_app (goodIn_of _ (by decide +kernel)) ggX8_textIn_X8_wordPart
theorem dX8_textIn_0 : decode cX8_textIn 0 = .ok (.iconst 0, 1) := by decide +kernel
theorem dX8_textIn_1 : decode cX8_textIn 1 = .ok (.istore 4, 2) := by decide +kernel
theorem dX8_textIn_3 : decode cX8_textIn 3 = .ok (.iconst 0, 1) := by decide +kernel
theorem dX8_textIn_4 : decode cX8_textIn 4 = .ok (.istore 5, 2) := by decide +kernel
theorem dX8_textIn_6 : decode cX8_textIn 6 = .ok (.iload 5, 2) := by decide +kernel
theorem dX8_textIn_8 : decode cX8_textIn 8 = .ok (.iload_n 3, 1) := by decide +kernel
theorem dX8_textIn_9 : decode cX8_textIn 9 = .ok (.if_icmp .ge 28, 3) := by decide +kernel
theorem dX8_textIn_12 : decode cX8_textIn 12 = .ok (.bipush 7, 2) := by decide +kernel
theorem dX8_textIn_14 : decode cX8_textIn 14 = .ok (.iload 4, 2) := by decide +kernel
theorem dX8_textIn_16 : decode cX8_textIn 16 = .ok (.imul, 1) := by decide +kernel
theorem dX8_textIn_17 : decode cX8_textIn 17 = .ok (.aload_n 0, 1) := by decide +kernel
theorem dX8_textIn_18 : decode cX8_textIn 18 = .ok (.iload_n 1, 1) := by decide +kernel
theorem dX8_textIn_19 : decode cX8_textIn 19 = .ok (.iconst 2, 1) := by decide +kernel
theorem dX8_textIn_20 : decode cX8_textIn 20 = .ok (.iload_n 2, 1) := by decide +kernel
theorem dX8_textIn_21 : decode cX8_textIn 21 = .ok (.iadd, 1) := by decide +kernel
theorem dX8_textIn_22 : decode cX8_textIn 22 = .ok (.iload 5, 2) := by decide +kernel
theorem dX8_textIn_24 : decode cX8_textIn 24 = .ok (.iadd, 1) := by decide +kernel
theorem dX8_textIn_25 : decode cX8_textIn 25 = .ok (.invokevirtual 72, 3) := by decide +kernel
theorem dX8_textIn_28 : decode cX8_textIn 28 = .ok (.iadd, 1) := by decide +kernel
theorem dX8_textIn_29 : decode cX8_textIn 29 = .ok (.istore 4, 2) := by decide +kernel
theorem dX8_textIn_31 : decode cX8_textIn 31 = .ok (.iinc 5 1, 3) := by decide +kernel
theorem dX8_textIn_34 : decode cX8_textIn 34 = .ok (.goto (-28), 3) := by decide +kernel
theorem dX8_textIn_37 : decode cX8_textIn 37 = .ok (.iload 4, 2) := by decide +kernel
theorem dX8_textIn_39 : decode cX8_textIn 39 = .ok (.ireturn, 1) := by decide +kernel
theorem dX8_lengthOf_0 : decode cX8_lengthOf 0 = .ok (.iconst 0, 1) := by decide +kernel
theorem dX8_lengthOf_1 : decode cX8_lengthOf 1 = .ok (.istore_n 1, 1) := by decide +kernel
theorem dX8_lengthOf_2 : decode cX8_lengthOf 2 = .ok (.iload_n 0, 1) := by decide +kernel
theorem dX8_lengthOf_3 : decode cX8_lengthOf 3 = .ok (.istore_n 2, 1) := by decide +kernel
theorem dX8_lengthOf_4 : decode cX8_lengthOf 4 = .ok (.iload_n 2, 1) := by decide +kernel
theorem dX8_lengthOf_5 : decode cX8_lengthOf 5 = .ok (.ifCond .le 14, 3) := by decide +kernel
theorem dX8_lengthOf_8 : decode cX8_lengthOf 8 = .ok (.iinc 1 1, 3) := by decide +kernel
theorem dX8_lengthOf_11 : decode cX8_lengthOf 11 = .ok (.iload_n 2, 1) := by decide +kernel
theorem dX8_lengthOf_12 : decode cX8_lengthOf 12 = .ok (.bipush 7, 2) := by decide +kernel
theorem dX8_lengthOf_14 : decode cX8_lengthOf 14 = .ok (.idiv, 1) := by decide +kernel
theorem dX8_lengthOf_15 : decode cX8_lengthOf 15 = .ok (.istore_n 2, 1) := by decide +kernel
theorem dX8_lengthOf_16 : decode cX8_lengthOf 16 = .ok (.goto (-12), 3) := by decide +kernel
theorem dX8_lengthOf_19 : decode cX8_lengthOf 19 = .ok (.iload_n 1, 1) := by decide +kernel
theorem dX8_lengthOf_20 : decode cX8_lengthOf 20 = .ok (.ireturn, 1) := by decide +kernel
set_option maxRecDepth 20000 in
theorem ggX8_letterOf_X8_lengthOf : GoodIn wsX8_letterOf wsX8_lengthOf := goodIn_r _ [4] (by decide +kernel) (by decide +kernel)
set_option maxRecDepth 20000 in
theorem gX8_letterOf_X8_lengthOf : GoodIn wsX8_letterOf (va_wsS RX8 75 yX8_lengthOf wsX8_lengthOf) := goodIn_app (goodIn_of _ (by decide +kernel)) ggX8_letterOf_X8_lengthOf
theorem dX8_letterOf_0 : decode cX8_letterOf 0 = .ok (.iload_n 0, 1) := by decide +kernel
theorem dX8_letterOf_1 : decode cX8_letterOf 1 = .ok (.invokestatic 75, 3) := by decide +kernel
theorem dX8_letterOf_4 : decode cX8_letterOf 4 = .ok (.istore_n 2, 1) := by decide +kernel
theorem dX8_letterOf_5 : decode cX8_letterOf 5 = .ok (.iload_n 0, 1) := by decide +kernel
theorem dX8_letterOf_6 : decode cX8_letterOf 6 = .ok (.istore_n 3, 1) := by decide +kernel
theorem dX8_letterOf_7 : decode cX8_letterOf 7 = .ok (.iload_n 2, 1) := by decide +kernel
theorem dX8_letterOf_8 : decode cX8_letterOf 8 = .ok (.iconst 1, 1) := by decide +kernel
theorem dX8_letterOf_9 : decode cX8_letterOf 9 = .ok (.isub, 1) := by decide +kernel
theorem dX8_letterOf_10 : decode cX8_letterOf 10 = .ok (.istore 4, 2) := by decide +kernel
theorem dX8_letterOf_12 : decode cX8_letterOf 12 = .ok (.iload 4, 2) := by decide +kernel
theorem dX8_letterOf_14 : decode cX8_letterOf 14 = .ok (.iload_n 1, 1) := by decide +kernel
theorem dX8_letterOf_15 : decode cX8_letterOf 15 = .ok (.if_icmp .le 14, 3) := by decide +kernel
theorem dX8_letterOf_18 : decode cX8_letterOf 18 = .ok (.iload_n 3, 1) := by decide +kernel
theorem dX8_letterOf_19 : decode cX8_letterOf 19 = .ok (.bipush 7, 2) := by decide +kernel
theorem dX8_letterOf_21 : decode cX8_letterOf 21 = .ok (.idiv, 1) := by decide +kernel
theorem dX8_letterOf_22 : decode cX8_letterOf 22 = .ok (.istore_n 3, 1) := by decide +kernel
theorem dX8_letterOf_23 : decode cX8_letterOf 23 = .ok (.iinc 4 (-1), 3) := by decide +kernel
theorem dX8_letterOf_26 : decode cX8_letterOf 26 = .ok (.goto (-14), 3) := by decide +kernel
theorem dX8_letterOf_29 : decode cX8_letterOf 29 = .ok (.iload_n 1, 1) := by decide +kernel
theorem dX8_letterOf_30 : decode cX8_letterOf 30 = .ok (.iload_n 2, 1) := by decide +kernel
theorem dX8_letterOf_31 : decode cX8_letterOf 31 = .ok (.if_icmp .ge 12, 3) := by decide +kernel
theorem dX8_letterOf_34 : decode cX8_letterOf 34 = .ok (.iload_n 3, 1) := by decide +kernel
theorem dX8_letterOf_35 : decode cX8_letterOf 35 = .ok (.bipush 7, 2) := by decide +kernel
theorem dX8_letterOf_37 : decode cX8_letterOf 37 = .ok (.irem, 1) := by decide +kernel
theorem dX8_letterOf_38 : decode cX8_letterOf 38 = .ok (.iconst 1, 1) := by decide +kernel
theorem dX8_letterOf_39 : decode cX8_letterOf 39 = .ok (.isub, 1) := by decide +kernel
theorem dX8_letterOf_40 : decode cX8_letterOf 40 = .ok (.goto 5, 3) := by decide +kernel
theorem dX8_letterOf_43 : decode cX8_letterOf 43 = .ok (.bipush (-6), 2) := by decide +kernel
theorem dX8_letterOf_45 : decode cX8_letterOf 45 = .ok (.ireturn, 1) := by decide +kernel
set_option maxRecDepth 20000 in
theorem ggX8_pieceOf_X8_textOf : GoodIn wsX8_pieceOf wsX8_textOf := goodIn_r _ [6, 7, 8, 9, 5, 10, 1, 11, 12, 13, 14, 15, 16, 17, 18, 19, 20, 21, 22, 23, 24, 25, 26, 27, 28] (by decide +kernel) (by decide +kernel)
set_option maxRecDepth 20000 in
theorem gX8_pieceOf_X8_textOf : GoodIn wsX8_pieceOf (wsV RX8 79 RX8 yX8_textOf wsX8_textOf) := goodIn_app (goodIn_of _ (by decide +kernel)) ggX8_pieceOf_X8_textOf
theorem dX8_pieceOf_0 : decode cX8_pieceOf 0 = .ok (.bipush (-6), 2) := by decide +kernel
theorem dX8_pieceOf_2 : decode cX8_pieceOf 2 = .ok (.istore_n 2, 1) := by decide +kernel
theorem dX8_pieceOf_3 : decode cX8_pieceOf 3 = .ok (.iconst 0, 1) := by decide +kernel
theorem dX8_pieceOf_4 : decode cX8_pieceOf 4 = .ok (.istore_n 3, 1) := by decide +kernel
theorem dX8_pieceOf_5 : decode cX8_pieceOf 5 = .ok (.iload_n 3, 1) := by decide +kernel
theorem dX8_pieceOf_6 : decode cX8_pieceOf 6 = .ok (.aload_n 0, 1) := by decide +kernel
theorem dX8_pieceOf_7 : decode cX8_pieceOf 7 = .ok (.getfield 7, 3) := by decide +kernel
theorem dX8_pieceOf_10 : decode cX8_pieceOf 10 = .ok (.iconst 0, 1) := by decide +kernel
theorem dX8_pieceOf_11 : decode cX8_pieceOf 11 = .ok (.iaload, 1) := by decide +kernel
theorem dX8_pieceOf_12 : decode cX8_pieceOf 12 = .ok (.if_icmp .ge 24, 3) := by decide +kernel
theorem dX8_pieceOf_15 : decode cX8_pieceOf 15 = .ok (.aload_n 0, 1) := by decide +kernel
theorem dX8_pieceOf_16 : decode cX8_pieceOf 16 = .ok (.iload_n 3, 1) := by decide +kernel
theorem dX8_pieceOf_17 : decode cX8_pieceOf 17 = .ok (.invokevirtual 79, 3) := by decide +kernel
theorem dX8_pieceOf_20 : decode cX8_pieceOf 20 = .ok (.iload_n 1, 1) := by decide +kernel
theorem dX8_pieceOf_21 : decode cX8_pieceOf 21 = .ok (.if_icmp .ne 7, 3) := by decide +kernel
theorem dX8_pieceOf_24 : decode cX8_pieceOf 24 = .ok (.iload_n 3, 1) := by decide +kernel
theorem dX8_pieceOf_25 : decode cX8_pieceOf 25 = .ok (.goto 4, 3) := by decide +kernel
theorem dX8_pieceOf_28 : decode cX8_pieceOf 28 = .ok (.iload_n 2, 1) := by decide +kernel
theorem dX8_pieceOf_29 : decode cX8_pieceOf 29 = .ok (.istore_n 2, 1) := by decide +kernel
theorem dX8_pieceOf_30 : decode cX8_pieceOf 30 = .ok (.iinc 3 1, 3) := by decide +kernel
theorem dX8_pieceOf_33 : decode cX8_pieceOf 33 = .ok (.goto (-28), 3) := by decide +kernel
theorem dX8_pieceOf_36 : decode cX8_pieceOf 36 = .ok (.iload_n 2, 1) := by decide +kernel
theorem dX8_pieceOf_37 : decode cX8_pieceOf 37 = .ok (.ireturn, 1) := by decide +kernel
set_option maxRecDepth 20000 in
theorem ggX8_weightIn_X8_textIn : GoodIn wsX8_weightIn wsX8_textIn := goodIn_r _ [5, 6, 7, 8, 4, 9, 10, 23, 24, 25, 26, 27, 28, 29, 30, 31, 32, 33, 34, 35, 36, 37, 38, 39, 40] (by decide +kernel) (by decide +kernel)
set_option maxRecDepth 20000 in
theorem gX8_weightIn_X8_textIn : GoodIn wsX8_weightIn (wsV RX8 82 RX8 yX8_textIn wsX8_textIn) := goodIn_app (goodIn_of _ (by decide +kernel)) ggX8_weightIn_X8_textIn
set_option maxRecDepth 20000 in
theorem ggX8_weightIn_X8_pieceOf : GoodIn wsX8_weightIn wsX8_pieceOf := goodIn_r _ [14, 10, 15, 16, 17, 4, 18, 19, 20, 21, 22, 23, 24, 25, 26, 27, 28, 29, 30, 31, 32, 33, 34, 35, 36, 37, 38, 39, 40] (by decide +kernel) (by decide +kernel)
set_option maxRecDepth 20000 in
theorem gX8_weightIn_X8_pieceOf : GoodIn wsX8_weightIn (wsV RX8 86 RX8 yX8_pieceOf wsX8_pieceOf) := goodIn_app (goodIn_of _ (by decide +kernel)) ggX8_weightIn_X8_pieceOf
set_option maxRecDepth 20000 in
theorem ggX8_weightIn_X8_piecePart : GoodIn wsX8_weightIn wsX8_piecePart := goodIn_r _ [22, 10, 23, 24, 25, 26, 27, 28, 29, 30, 31, 32, 33, 34, 35, 36, 37, 38, 39, 40] (by decide +kernel) (by decide +kernel)
set_option maxRecDepth 20000 in
theorem gX8_weightIn_X8_piecePart : GoodIn wsX8_weightIn (wsV RX8 68 RX8 yX8_piecePart wsX8_piecePart) := goodIn_app (goodIn_of _ (by decide +kernel)) ggX8_weightIn_X8_piecePart
theorem dX8_weightIn_0 : decode cX8_weightIn 0 = .ok (.aload_n 0, 1) := by decide +kernel
theorem dX8_weightIn_1 : decode cX8_weightIn 1 = .ok (.aload_n 0, 1) := by decide +kernel
theorem dX8_weightIn_2 : decode cX8_weightIn 2 = .ok (.iload_n 1, 1) := by decide +kernel
theorem dX8_weightIn_3 : decode cX8_weightIn 3 = .ok (.iload_n 2, 1) := by decide +kernel
theorem dX8_weightIn_4 : decode cX8_weightIn 4 = .ok (.iload_n 3, 1) := by decide +kernel
theorem dX8_weightIn_5 : decode cX8_weightIn 5 = .ok (.invokevirtual 82, 3) := by decide +kernel
theorem dX8_weightIn_8 : decode cX8_weightIn 8 = .ok (.invokevirtual 86, 3) := by decide +kernel
theorem dX8_weightIn_11 : decode cX8_weightIn 11 = .ok (.istore 4, 2) := by decide +kernel
theorem dX8_weightIn_13 : decode cX8_weightIn 13 = .ok (.iload 4, 2) := by decide +kernel
theorem dX8_weightIn_15 : decode cX8_weightIn 15 = .ok (.bipush (-6), 2) := by decide +kernel
theorem dX8_weightIn_17 : decode cX8_weightIn 17 = .ok (.if_icmp .eq 13, 3) := by decide +kernel
theorem dX8_weightIn_20 : decode cX8_weightIn 20 = .ok (.aload_n 0, 1) := by decide +kernel
theorem dX8_weightIn_21 : decode cX8_weightIn 21 = .ok (.iload 4, 2) := by decide +kernel
theorem dX8_weightIn_23 : decode cX8_weightIn 23 = .ok (.iconst 1, 1) := by decide +kernel
theorem dX8_weightIn_24 : decode cX8_weightIn 24 = .ok (.invokevirtual 68, 3) := by decide +kernel
theorem dX8_weightIn_27 : decode cX8_weightIn 27 = .ok (.goto 13, 3) := by decide +kernel
theorem dX8_weightIn_30 : decode cX8_weightIn 30 = .ok (.iload_n 3, 1) := by decide +kernel
theorem dX8_weightIn_31 : decode cX8_weightIn 31 = .ok (.iconst 1, 1) := by decide +kernel
theorem dX8_weightIn_32 : decode cX8_weightIn 32 = .ok (.if_icmp .ne 7, 3) := by decide +kernel
theorem dX8_weightIn_35 : decode cX8_weightIn 35 = .ok (.iconst 1, 1) := by decide +kernel
theorem dX8_weightIn_36 : decode cX8_weightIn 36 = .ok (.goto 4, 3) := by decide +kernel
theorem dX8_weightIn_39 : decode cX8_weightIn 39 = .ok (.iconst 0, 1) := by decide +kernel
theorem dX8_weightIn_40 : decode cX8_weightIn 40 = .ok (.ireturn, 1) := by decide +kernel
set_option maxRecDepth 20000 in
theorem ggX8_longestAt_X8_wordPart : GoodIn wsX8_longestAt wsX8_wordPart := goodIn_r _ [5, 6, 7, 8, 9, 10, 11, 12, 13, 14, 15, 16, 17, 18, 19, 20, 21, 22, 23, 24] (by decide +kernel) (by decide +kernel)
set_option maxRecDepth 20000 in
theorem gX8_longestAt_X8_wordPart : GoodIn wsX8_longestAt (wsV RX8 72 RX8 yX8_wordPart wsX8_wordPart) := goodIn_app (goodIn_of _ (by decide +kernel)) ggX8_longestAt_X8_wordPart
theorem dX8_longestAt_0 : decode cX8_longestAt 0 = .ok (.aload_n 0, 1) := by decide +kernel
theorem dX8_longestAt_1 : decode cX8_longestAt 1 = .ok (.iload_n 1, 1) := by decide +kernel
theorem dX8_longestAt_2 : decode cX8_longestAt 2 = .ok (.iconst 0, 1) := by decide +kernel
theorem dX8_longestAt_3 : decode cX8_longestAt 3 = .ok (.invokevirtual 72, 3) := by decide +kernel
theorem dX8_longestAt_6 : decode cX8_longestAt 6 = .ok (.iload_n 2, 1) := by decide +kernel
theorem dX8_longestAt_7 : decode cX8_longestAt 7 = .ok (.isub, 1) := by decide +kernel
theorem dX8_longestAt_8 : decode cX8_longestAt 8 = .ok (.istore_n 3, 1) := by decide +kernel
theorem dX8_longestAt_9 : decode cX8_longestAt 9 = .ok (.iload_n 3, 1) := by decide +kernel
theorem dX8_longestAt_10 : decode cX8_longestAt 10 = .ok (.iconst 4, 1) := by decide +kernel
theorem dX8_longestAt_11 : decode cX8_longestAt 11 = .ok (.if_icmp .ge 7, 3) := by decide +kernel
theorem dX8_longestAt_14 : decode cX8_longestAt 14 = .ok (.iload_n 3, 1) := by decide +kernel
theorem dX8_longestAt_15 : decode cX8_longestAt 15 = .ok (.goto 4, 3) := by decide +kernel
theorem dX8_longestAt_18 : decode cX8_longestAt 18 = .ok (.iconst 4, 1) := by decide +kernel
theorem dX8_longestAt_19 : decode cX8_longestAt 19 = .ok (.ireturn, 1) := by decide +kernel
set_option maxRecDepth 20000 in
theorem ggX8_findCut_X8_wordPart : GoodIn wsX8_findCut wsX8_wordPart := goodIn_r _ [8, 9, 34, 35, 36, 37, 38, 39, 40, 41, 42, 43, 44, 45, 46, 47, 48, 49, 50, 51] (by decide +kernel) (by decide +kernel)
set_option maxRecDepth 20000 in
theorem gX8_findCut_X8_wordPart : GoodIn wsX8_findCut (wsV RX8 72 RX8 yX8_wordPart wsX8_wordPart) := goodIn_app (goodIn_of _ (by decide +kernel)) ggX8_findCut_X8_wordPart
set_option maxRecDepth 20000 in
theorem ggX8_findCut_X8_longestAt : GoodIn wsX8_findCut wsX8_longestAt := goodIn_r _ [13, 4, 5, 6, 7, 8, 9, 34, 35, 36, 37, 38, 39, 40, 41, 42, 43, 44, 45, 46, 47, 48, 49, 50, 51] (by decide +kernel) (by decide +kernel)
set_option maxRecDepth 20000 in
theorem gX8_findCut_X8_longestAt : GoodIn wsX8_findCut (wsV RX8 89 RX8 yX8_longestAt wsX8_longestAt) := goodIn_app (goodIn_of _ (by decide +kernel)) ggX8_findCut_X8_longestAt
set_option maxRecDepth 20000 in
theorem ggX8_findCut_X8_weightIn : GoodIn wsX8_findCut wsX8_weightIn := goodIn_r _ [17, 18, 19, 20, 7, 21, 4, 5, 6, 8, 9, 22, 23, 24, 25, 26, 27, 28, 29, 30, 31, 32, 33, 34, 35, 36, 37, 38, 39, 40, 41, 42, 43, 44, 45, 46, 47, 48, 49, 50, 51] (by decide +kernel) (by decide +kernel)
set_option maxRecDepth 20000 in
theorem gX8_findCut_X8_weightIn : GoodIn wsX8_findCut (wsV RX8 92 RX8 yX8_weightIn wsX8_weightIn) := goodIn_app (goodIn_of _ (by decide +kernel)) ggX8_findCut_X8_weightIn
theorem dX8_findCut_0 : decode cX8_findCut 0 = .ok (.aload_n 0, 1) := by decide +kernel
theorem dX8_findCut_1 : decode cX8_findCut 1 = .ok (.iload_n 1, 1) := by decide +kernel
theorem dX8_findCut_2 : decode cX8_findCut 2 = .ok (.iconst 0, 1) := by decide +kernel
theorem dX8_findCut_3 : decode cX8_findCut 3 = .ok (.invokevirtual 72, 3) := by decide +kernel
theorem dX8_findCut_6 : decode cX8_findCut 6 = .ok (.istore_n 2, 1) := by decide +kernel
theorem dX8_findCut_7 : decode cX8_findCut 7 = .ok (.aload_n 0, 1) := by decide +kernel
theorem dX8_findCut_8 : decode cX8_findCut 8 = .ok (.getfield 28, 3) := by decide +kernel
theorem dX8_findCut_11 : decode cX8_findCut 11 = .ok (.iload_n 2, 1) := by decide +kernel
theorem dX8_findCut_12 : decode cX8_findCut 12 = .ok (.lconst 1, 1) := by decide +kernel
theorem dX8_findCut_13 : decode cX8_findCut 13 = .ok (.lastore, 1) := by decide +kernel
theorem dX8_findCut_14 : decode cX8_findCut 14 = .ok (.aload_n 0, 1) := by decide +kernel
theorem dX8_findCut_15 : decode cX8_findCut 15 = .ok (.getfield 32, 3) := by decide +kernel
theorem dX8_findCut_18 : decode cX8_findCut 18 = .ok (.iload_n 2, 1) := by decide +kernel
theorem dX8_findCut_19 : decode cX8_findCut 19 = .ok (.iconst 0, 1) := by decide +kernel
theorem dX8_findCut_20 : decode cX8_findCut 20 = .ok (.iastore, 1) := by decide +kernel
theorem dX8_findCut_21 : decode cX8_findCut 21 = .ok (.iload_n 2, 1) := by decide +kernel
theorem dX8_findCut_22 : decode cX8_findCut 22 = .ok (.iconst 1, 1) := by decide +kernel
theorem dX8_findCut_23 : decode cX8_findCut 23 = .ok (.isub, 1) := by decide +kernel
theorem dX8_findCut_24 : decode cX8_findCut 24 = .ok (.istore_n 3, 1) := by decide +kernel
theorem dX8_findCut_25 : decode cX8_findCut 25 = .ok (.iload_n 3, 1) := by decide +kernel
theorem dX8_findCut_26 : decode cX8_findCut 26 = .ok (.ifCond .lt 138, 3) := by decide +kernel
theorem dX8_findCut_29 : decode cX8_findCut 29 = .ok (.aload_n 0, 1) := by decide +kernel
theorem dX8_findCut_30 : decode cX8_findCut 30 = .ok (.getfield 28, 3) := by decide +kernel
theorem dX8_findCut_33 : decode cX8_findCut 33 = .ok (.iload_n 3, 1) := by decide +kernel
theorem dX8_findCut_34 : decode cX8_findCut 34 = .ok (.lconst 0, 1) := by decide +kernel
theorem dX8_findCut_35 : decode cX8_findCut 35 = .ok (.lastore, 1) := by decide +kernel
theorem dX8_findCut_36 : decode cX8_findCut 36 = .ok (.iconst 1, 1) := by decide +kernel
theorem dX8_findCut_37 : decode cX8_findCut 37 = .ok (.istore 4, 2) := by decide +kernel
theorem dX8_findCut_39 : decode cX8_findCut 39 = .ok (.iload 4, 2) := by decide +kernel
theorem dX8_findCut_41 : decode cX8_findCut 41 = .ok (.aload_n 0, 1) := by decide +kernel
theorem dX8_findCut_42 : decode cX8_findCut 42 = .ok (.iload_n 1, 1) := by decide +kernel
theorem dX8_findCut_43 : decode cX8_findCut 43 = .ok (.iload_n 3, 1) := by decide +kernel
theorem dX8_findCut_44 : decode cX8_findCut 44 = .ok (.invokevirtual 89, 3) := by decide +kernel
theorem dX8_findCut_47 : decode cX8_findCut 47 = .ok (.if_icmp .gt 111, 3) := by decide +kernel
theorem dX8_findCut_50 : decode cX8_findCut 50 = .ok (.aload_n 0, 1) := by decide +kernel
theorem dX8_findCut_51 : decode cX8_findCut 51 = .ok (.iload_n 1, 1) := by decide +kernel
theorem dX8_findCut_52 : decode cX8_findCut 52 = .ok (.iload_n 3, 1) := by decide +kernel
theorem dX8_findCut_53 : decode cX8_findCut 53 = .ok (.iload 4, 2) := by decide +kernel
theorem dX8_findCut_55 : decode cX8_findCut 55 = .ok (.invokevirtual 92, 3) := by decide +kernel
theorem dX8_findCut_58 : decode cX8_findCut 58 = .ok (.istore 5, 2) := by decide +kernel
theorem dX8_findCut_60 : decode cX8_findCut 60 = .ok (.iload 5, 2) := by decide +kernel
theorem dX8_findCut_62 : decode cX8_findCut 62 = .ok (.i2l, 1) := by decide +kernel
theorem dX8_findCut_63 : decode cX8_findCut 63 = .ok (.aload_n 0, 1) := by decide +kernel
theorem dX8_findCut_64 : decode cX8_findCut 64 = .ok (.getfield 28, 3) := by decide +kernel
theorem dX8_findCut_67 : decode cX8_findCut 67 = .ok (.iload_n 3, 1) := by decide +kernel
theorem dX8_findCut_68 : decode cX8_findCut 68 = .ok (.iload 4, 2) := by decide +kernel
theorem dX8_findCut_70 : decode cX8_findCut 70 = .ok (.iadd, 1) := by decide +kernel
theorem dX8_findCut_71 : decode cX8_findCut 71 = .ok (.laload, 1) := by decide +kernel
theorem dX8_findCut_72 : decode cX8_findCut 72 = .ok (.lmul, 1) := by decide +kernel
theorem dX8_findCut_73 : decode cX8_findCut 73 = .ok (.lstore 6, 2) := by decide +kernel
theorem dX8_findCut_75 : decode cX8_findCut 75 = .ok (.iconst 1, 1) := by decide +kernel
theorem dX8_findCut_76 : decode cX8_findCut 76 = .ok (.aload_n 0, 1) := by decide +kernel
theorem dX8_findCut_77 : decode cX8_findCut 77 = .ok (.getfield 32, 3) := by decide +kernel
theorem dX8_findCut_80 : decode cX8_findCut 80 = .ok (.iload_n 3, 1) := by decide +kernel
theorem dX8_findCut_81 : decode cX8_findCut 81 = .ok (.iload 4, 2) := by decide +kernel
theorem dX8_findCut_83 : decode cX8_findCut 83 = .ok (.iadd, 1) := by decide +kernel
theorem dX8_findCut_84 : decode cX8_findCut 84 = .ok (.iaload, 1) := by decide +kernel
theorem dX8_findCut_85 : decode cX8_findCut 85 = .ok (.iadd, 1) := by decide +kernel
theorem dX8_findCut_86 : decode cX8_findCut 86 = .ok (.istore 8, 2) := by decide +kernel
theorem dX8_findCut_88 : decode cX8_findCut 88 = .ok (.iload 5, 2) := by decide +kernel
theorem dX8_findCut_90 : decode cX8_findCut 90 = .ok (.ifCond .le 62, 3) := by decide +kernel
theorem dX8_findCut_93 : decode cX8_findCut 93 = .ok (.lload 6, 2) := by decide +kernel
theorem dX8_findCut_95 : decode cX8_findCut 95 = .ok (.aload_n 0, 1) := by decide +kernel
theorem dX8_findCut_96 : decode cX8_findCut 96 = .ok (.getfield 28, 3) := by decide +kernel
theorem dX8_findCut_99 : decode cX8_findCut 99 = .ok (.iload_n 3, 1) := by decide +kernel
theorem dX8_findCut_100 : decode cX8_findCut 100 = .ok (.laload, 1) := by decide +kernel
theorem dX8_findCut_101 : decode cX8_findCut 101 = .ok (.lcmp, 1) := by decide +kernel
