theorem dL_share_29 : decode cL_share 29 = .ok (.aload_n 2, 1) := by decide +kernel
theorem dL_share_30 : decode cL_share 30 = .ok (.aload_n 3, 1) := by decide +kernel
theorem dL_share_31 : decode cL_share 31 = .ok (.invokestatic 27, 3) := by decide +kernel
theorem dL_share_34 : decode cL_share 34 = .ok (.lstore 10, 2) := by decide +kernel
theorem dL_share_36 : decode cL_share 36 = .ok (.lload 5, 2) := by decide +kernel
theorem dL_share_38 : decode cL_share 38 = .ok (.lload 10, 2) := by decide +kernel
theorem dL_share_40 : decode cL_share 40 = .ok (.ladd, 1) := by decide +kernel
theorem dL_share_41 : decode cL_share 41 = .ok (.lstore 5, 2) := by decide +kernel
theorem dL_share_43 : decode cL_share 43 = .ok (.iconst 0, 1) := by decide +kernel
theorem dL_share_44 : decode cL_share 44 = .ok (.istore 12, 2) := by decide +kernel
theorem dL_share_46 : decode cL_share 46 = .ok (.iload 12, 2) := by decide +kernel
theorem dL_share_48 : decode cL_share 48 = .ok (.iload 4, 2) := by decide +kernel
theorem dL_share_50 : decode cL_share 50 = .ok (.if_icmp .ge 61, 3) := by decide +kernel
theorem dL_share_53 : decode cL_share 53 = .ok (.lload 10, 2) := by decide +kernel
theorem dL_share_55 : decode cL_share 55 = .ok (.lconst 0, 1) := by decide +kernel
theorem dL_share_56 : decode cL_share 56 = .ok (.lcmp, 1) := by decide +kernel
theorem dL_share_57 : decode cL_share 57 = .ok (.ifCond .le 54, 3) := by decide +kernel
theorem dL_share_60 : decode cL_share 60 = .ok (.lload 7, 2) := by decide +kernel
theorem dL_share_62 : decode cL_share 62 = .ok (.iload_n 0, 1) := by decide +kernel
theorem dL_share_63 : decode cL_share 63 = .ok (.iload 12, 2) := by decide +kernel
theorem dL_share_65 : decode cL_share 65 = .ok (.iload 4, 2) := by decide +kernel
theorem dL_share_67 : decode cL_share 67 = .ok (.iload 9, 2) := by decide +kernel
theorem dL_share_69 : decode cL_share 69 = .ok (.iload 12, 2) := by decide +kernel
theorem dL_share_71 : decode cL_share 71 = .ok (.invokestatic 16, 3) := by decide +kernel
theorem dL_share_74 : decode cL_share 74 = .ok (.invokestatic 20, 3) := by decide +kernel
theorem dL_share_77 : decode cL_share 77 = .ok (.aload_n 3, 1) := by decide +kernel
theorem dL_share_78 : decode cL_share 78 = .ok (.iconst 2, 1) := by decide +kernel
theorem dL_share_79 : decode cL_share 79 = .ok (.iload_n 1, 1) := by decide +kernel
theorem dL_share_80 : decode cL_share 80 = .ok (.imul, 1) := by decide +kernel
theorem dL_share_81 : decode cL_share 81 = .ok (.iaload, 1) := by decide +kernel
theorem dL_share_82 : decode cL_share 82 = .ok (.if_icmp .ne 8, 3) := by decide +kernel
theorem dL_share_85 : decode cL_share 85 = .ok (.lload 10, 2) := by decide +kernel
theorem dL_share_87 : decode cL_share 87 = .ok (.goto 4, 3) := by decide +kernel
theorem dL_share_90 : decode cL_share 90 = .ok (.lconst 0, 1) := by decide +kernel
theorem dL_share_91 : decode cL_share 91 = .ok (.ladd, 1) := by decide +kernel
theorem dL_share_92 : decode cL_share 92 = .ok (.lstore 7, 2) := by decide +kernel
theorem dL_share_94 : decode cL_share 94 = .ok (.iload 12, 2) := by decide +kernel
theorem dL_share_96 : decode cL_share 96 = .ok (.iload 4, 2) := by decide +kernel
theorem dL_share_98 : decode cL_share 98 = .ok (.iload 9, 2) := by decide +kernel
theorem dL_share_100 : decode cL_share 100 = .ok (.iload 12, 2) := by decide +kernel
theorem dL_share_102 : decode cL_share 102 = .ok (.invokestatic 16, 3) := by decide +kernel
theorem dL_share_105 : decode cL_share 105 = .ok (.iadd, 1) := by decide +kernel
theorem dL_share_106 : decode cL_share 106 = .ok (.istore 12, 2) := by decide +kernel
theorem dL_share_108 : decode cL_share 108 = .ok (.goto (-62), 3) := by decide +kernel
theorem dL_share_111 : decode cL_share 111 = .ok (.iinc 9 1, 3) := by decide +kernel
theorem dL_share_114 : decode cL_share 114 = .ok (.goto (-99), 3) := by decide +kernel
theorem dL_share_117 : decode cL_share 117 = .ok (.ldc2_w 41, 3) := by decide +kernel
theorem dL_share_120 : decode cL_share 120 = .ok (.lload 7, 2) := by decide +kernel
theorem dL_share_122 : decode cL_share 122 = .ok (.lmul, 1) := by decide +kernel
theorem dL_share_123 : decode cL_share 123 = .ok (.lload 5, 2) := by decide +kernel
theorem dL_share_125 : decode cL_share 125 = .ok (.ldiv, 1) := by decide +kernel
theorem dL_share_126 : decode cL_share 126 = .ok (.l2i, 1) := by decide +kernel
theorem dL_share_127 : decode cL_share 127 = .ok (.ireturn, 1) := by decide +kernel
theorem dL_drop_0 : decode cL_drop 0 = .ok (.iconst 2, 1) := by decide +kernel
theorem dL_drop_1 : decode cL_drop 1 = .ok (.iload_n 0, 1) := by decide +kernel
theorem dL_drop_2 : decode cL_drop 2 = .ok (.imul, 1) := by decide +kernel
theorem dL_drop_3 : decode cL_drop 3 = .ok (.istore_n 3, 1) := by decide +kernel
theorem dL_drop_4 : decode cL_drop 4 = .ok (.iload_n 3, 1) := by decide +kernel
theorem dL_drop_5 : decode cL_drop 5 = .ok (.iconst 2, 1) := by decide +kernel
theorem dL_drop_6 : decode cL_drop 6 = .ok (.iadd, 1) := by decide +kernel
theorem dL_drop_7 : decode cL_drop 7 = .ok (.iconst 2, 1) := by decide +kernel
theorem dL_drop_8 : decode cL_drop 8 = .ok (.aload_n 1, 1) := by decide +kernel
theorem dL_drop_9 : decode cL_drop 9 = .ok (.iconst 0, 1) := by decide +kernel
theorem dL_drop_10 : decode cL_drop 10 = .ok (.iaload, 1) := by decide +kernel
theorem dL_drop_11 : decode cL_drop 11 = .ok (.imul, 1) := by decide +kernel
theorem dL_drop_12 : decode cL_drop 12 = .ok (.if_icmp .ge 17, 3) := by decide +kernel
theorem dL_drop_15 : decode cL_drop 15 = .ok (.aload_n 2, 1) := by decide +kernel
theorem dL_drop_16 : decode cL_drop 16 = .ok (.iload_n 3, 1) := by decide +kernel
theorem dL_drop_17 : decode cL_drop 17 = .ok (.aload_n 2, 1) := by decide +kernel
theorem dL_drop_18 : decode cL_drop 18 = .ok (.iload_n 3, 1) := by decide +kernel
theorem dL_drop_19 : decode cL_drop 19 = .ok (.iconst 2, 1) := by decide +kernel
theorem dL_drop_20 : decode cL_drop 20 = .ok (.iadd, 1) := by decide +kernel
theorem dL_drop_21 : decode cL_drop 21 = .ok (.iaload, 1) := by decide +kernel
theorem dL_drop_22 : decode cL_drop 22 = .ok (.iastore, 1) := by decide +kernel
theorem dL_drop_23 : decode cL_drop 23 = .ok (.iinc 3 1, 3) := by decide +kernel
theorem dL_drop_26 : decode cL_drop 26 = .ok (.goto (-22), 3) := by decide +kernel
theorem dL_drop_29 : decode cL_drop 29 = .ok (.aload_n 1, 1) := by decide +kernel
theorem dL_drop_30 : decode cL_drop 30 = .ok (.iconst 0, 1) := by decide +kernel
theorem dL_drop_31 : decode cL_drop 31 = .ok (.dup2, 1) := by decide +kernel
theorem dL_drop_32 : decode cL_drop 32 = .ok (.iaload, 1) := by decide +kernel
theorem dL_drop_33 : decode cL_drop 33 = .ok (.iconst 1, 1) := by decide +kernel
theorem dL_drop_34 : decode cL_drop 34 = .ok (.isub, 1) := by decide +kernel
theorem dL_drop_35 : decode cL_drop 35 = .ok (.iastore, 1) := by decide +kernel
theorem dL_drop_36 : decode cL_drop 36 = .ok (.return_, 1) := by decide +kernel
set_option maxRecDepth 20000 in
theorem ggL_loss_L_drop : GoodIn wsL_loss wsL_drop := goodIn_r _ [4] (by decide +kernel) (by decide +kernel)
set_option maxRecDepth 20000 in
theorem gL_loss_L_drop : GoodIn wsL_loss (va_wsS RL 43 yL_drop wsL_drop) := goodIn_app (goodIn_of _ (by decide +kernel)) ggL_loss_L_drop
set_option maxRecDepth 20000 in
theorem ggL_loss_L_cost : GoodIn wsL_loss wsL_cost := goodIn_r _ [7, 8, 9, 3, 10, 11, 12, 13, 14, 15, 16, 17, 18, 19, 20, 21, 22, 23, 24, 25, 26, 27, 28, 29, 30, 31] (by decide +kernel) (by decide +kernel)
set_option maxRecDepth 20000 in
theorem gL_loss_L_cost : GoodIn wsL_loss (va_wsS RL 47 yL_cost wsL_cost) := goodIn_app (goodIn_of _ (by decide +kernel)) ggL_loss_L_cost
theorem dL_loss_0 : decode cL_loss 0 = .ok (.iconst 0, 1) := by decide +kernel
theorem dL_loss_1 : decode cL_loss 1 = .ok (.istore 6, 2) := by decide +kernel
theorem dL_loss_3 : decode cL_loss 3 = .ok (.iload 6, 2) := by decide +kernel
theorem dL_loss_5 : decode cL_loss 5 = .ok (.bipush 16, 2) := by decide +kernel
theorem dL_loss_7 : decode cL_loss 7 = .ok (.if_icmp .ge 18, 3) := by decide +kernel
theorem dL_loss_10 : decode cL_loss 10 = .ok (.aload 5, 2) := by decide +kernel
theorem dL_loss_12 : decode cL_loss 12 = .ok (.iload 6, 2) := by decide +kernel
theorem dL_loss_14 : decode cL_loss 14 = .ok (.aload_n 2, 1) := by decide +kernel
theorem dL_loss_15 : decode cL_loss 15 = .ok (.iload 6, 2) := by decide +kernel
theorem dL_loss_17 : decode cL_loss 17 = .ok (.iaload, 1) := by decide +kernel
theorem dL_loss_18 : decode cL_loss 18 = .ok (.iastore, 1) := by decide +kernel
theorem dL_loss_19 : decode cL_loss 19 = .ok (.iinc 6 1, 3) := by decide +kernel
theorem dL_loss_22 : decode cL_loss 22 = .ok (.goto (-19), 3) := by decide +kernel
theorem dL_loss_25 : decode cL_loss 25 = .ok (.aload 4, 2) := by decide +kernel
theorem dL_loss_27 : decode cL_loss 27 = .ok (.iconst 0, 1) := by decide +kernel
theorem dL_loss_28 : decode cL_loss 28 = .ok (.aload_n 1, 1) := by decide +kernel
theorem dL_loss_29 : decode cL_loss 29 = .ok (.iconst 0, 1) := by decide +kernel
theorem dL_loss_30 : decode cL_loss 30 = .ok (.iaload, 1) := by decide +kernel
theorem dL_loss_31 : decode cL_loss 31 = .ok (.iastore, 1) := by decide +kernel
theorem dL_loss_32 : decode cL_loss 32 = .ok (.aload 4, 2) := by decide +kernel
theorem dL_loss_34 : decode cL_loss 34 = .ok (.iconst 1, 1) := by decide +kernel
theorem dL_loss_35 : decode cL_loss 35 = .ok (.aload_n 1, 1) := by decide +kernel
theorem dL_loss_36 : decode cL_loss 36 = .ok (.iconst 1, 1) := by decide +kernel
theorem dL_loss_37 : decode cL_loss 37 = .ok (.iaload, 1) := by decide +kernel
theorem dL_loss_38 : decode cL_loss 38 = .ok (.iastore, 1) := by decide +kernel
theorem dL_loss_39 : decode cL_loss 39 = .ok (.iload_n 0, 1) := by decide +kernel
theorem dL_loss_40 : decode cL_loss 40 = .ok (.aload 4, 2) := by decide +kernel
theorem dL_loss_42 : decode cL_loss 42 = .ok (.aload 5, 2) := by decide +kernel
theorem dL_loss_44 : decode cL_loss 44 = .ok (.invokestatic 43, 3) := by decide +kernel
theorem dL_loss_47 : decode cL_loss 47 = .ok (.aload 4, 2) := by decide +kernel
theorem dL_loss_49 : decode cL_loss 49 = .ok (.aload 5, 2) := by decide +kernel
theorem dL_loss_51 : decode cL_loss 51 = .ok (.aload_n 3, 1) := by decide +kernel
theorem dL_loss_52 : decode cL_loss 52 = .ok (.invokestatic 47, 3) := by decide +kernel
theorem dL_loss_55 : decode cL_loss 55 = .ok (.aload_n 1, 1) := by decide +kernel
theorem dL_loss_56 : decode cL_loss 56 = .ok (.aload_n 2, 1) := by decide +kernel
theorem dL_loss_57 : decode cL_loss 57 = .ok (.aload_n 3, 1) := by decide +kernel
theorem dL_loss_58 : decode cL_loss 58 = .ok (.invokestatic 47, 3) := by decide +kernel
theorem dL_loss_61 : decode cL_loss 61 = .ok (.isub, 1) := by decide +kernel
theorem dL_loss_62 : decode cL_loss 62 = .ok (.ireturn, 1) := by decide +kernel
set_option maxRecDepth 20000 in
theorem ggL_least_L_loss : GoodIn wsL_least wsL_loss := goodIn_r _ [4, 5, 6, 3, 7, 8, 9, 10, 11, 12, 13, 14, 15, 16, 17, 18, 19, 20, 21, 22, 23, 24, 25, 26, 27, 28, 29, 30, 31, 32, 33, 34] (by decide +kernel) (by decide +kernel)
set_option maxRecDepth 20000 in
theorem gL_least_L_loss : GoodIn wsL_least (va_wsS RL 51 yL_loss wsL_loss) := goodIn_app (goodIn_of _ (by decide +kernel)) ggL_least_L_loss
theorem dL_least_0 : decode cL_least 0 = .ok (.bipush (-6), 2) := by decide +kernel
theorem dL_least_2 : decode cL_least 2 = .ok (.istore 5, 2) := by decide +kernel
theorem dL_least_4 : decode cL_least 4 = .ok (.iconst 0, 1) := by decide +kernel
theorem dL_least_5 : decode cL_least 5 = .ok (.istore 6, 2) := by decide +kernel
theorem dL_least_7 : decode cL_least 7 = .ok (.aload_n 0, 1) := by decide +kernel
theorem dL_least_8 : decode cL_least 8 = .ok (.iconst 0, 1) := by decide +kernel
theorem dL_least_9 : decode cL_least 9 = .ok (.iaload, 1) := by decide +kernel
theorem dL_least_10 : decode cL_least 10 = .ok (.iconst 1, 1) := by decide +kernel
theorem dL_least_11 : decode cL_least 11 = .ok (.isub, 1) := by decide +kernel
theorem dL_least_12 : decode cL_least 12 = .ok (.istore 7, 2) := by decide +kernel
theorem dL_least_14 : decode cL_least 14 = .ok (.iload 7, 2) := by decide +kernel
theorem dL_least_16 : decode cL_least 16 = .ok (.ifCond .lt 95, 3) := by decide +kernel
theorem dL_least_19 : decode cL_least 19 = .ok (.iload 7, 2) := by decide +kernel
theorem dL_least_21 : decode cL_least 21 = .ok (.aload_n 0, 1) := by decide +kernel
theorem dL_least_22 : decode cL_least 22 = .ok (.aload_n 1, 1) := by decide +kernel
theorem dL_least_23 : decode cL_least 23 = .ok (.aload_n 2, 1) := by decide +kernel
theorem dL_least_24 : decode cL_least 24 = .ok (.aload_n 3, 1) := by decide +kernel
theorem dL_least_25 : decode cL_least 25 = .ok (.aload 4, 2) := by decide +kernel
theorem dL_least_27 : decode cL_least 27 = .ok (.invokestatic 51, 3) := by decide +kernel
theorem dL_least_30 : decode cL_least 30 = .ok (.istore 8, 2) := by decide +kernel
theorem dL_least_32 : decode cL_least 32 = .ok (.iload 5, 2) := by decide +kernel
theorem dL_least_34 : decode cL_least 34 = .ok (.ifCond .lt 36, 3) := by decide +kernel
theorem dL_least_37 : decode cL_least 37 = .ok (.iload 8, 2) := by decide +kernel
theorem dL_least_39 : decode cL_least 39 = .ok (.iload 6, 2) := by decide +kernel
theorem dL_least_41 : decode cL_least 41 = .ok (.if_icmp .lt 29, 3) := by decide +kernel
theorem dL_least_44 : decode cL_least 44 = .ok (.iload 8, 2) := by decide +kernel
theorem dL_least_46 : decode cL_least 46 = .ok (.iload 6, 2) := by decide +kernel
theorem dL_least_48 : decode cL_least 48 = .ok (.if_icmp .ne 26, 3) := by decide +kernel
theorem dL_least_51 : decode cL_least 51 = .ok (.aload_n 1, 1) := by decide +kernel
theorem dL_least_52 : decode cL_least 52 = .ok (.iconst 2, 1) := by decide +kernel
theorem dL_least_53 : decode cL_least 53 = .ok (.iload 7, 2) := by decide +kernel
theorem dL_least_55 : decode cL_least 55 = .ok (.imul, 1) := by decide +kernel
theorem dL_least_56 : decode cL_least 56 = .ok (.iconst 1, 1) := by decide +kernel
theorem dL_least_57 : decode cL_least 57 = .ok (.iadd, 1) := by decide +kernel
theorem dL_least_58 : decode cL_least 58 = .ok (.iaload, 1) := by decide +kernel
theorem dL_least_59 : decode cL_least 59 = .ok (.aload_n 1, 1) := by decide +kernel
theorem dL_least_60 : decode cL_least 60 = .ok (.iconst 2, 1) := by decide +kernel
theorem dL_least_61 : decode cL_least 61 = .ok (.iload 5, 2) := by decide +kernel
theorem dL_least_63 : decode cL_least 63 = .ok (.imul, 1) := by decide +kernel
theorem dL_least_64 : decode cL_least 64 = .ok (.iconst 1, 1) := by decide +kernel
theorem dL_least_65 : decode cL_least 65 = .ok (.iadd, 1) := by decide +kernel
theorem dL_least_66 : decode cL_least 66 = .ok (.iaload, 1) := by decide +kernel
theorem dL_least_67 : decode cL_least 67 = .ok (.if_icmp .ge 7, 3) := by decide +kernel
theorem dL_least_70 : decode cL_least 70 = .ok (.iconst 1, 1) := by decide +kernel
theorem dL_least_71 : decode cL_least 71 = .ok (.goto 4, 3) := by decide +kernel
theorem dL_least_74 : decode cL_least 74 = .ok (.iconst 0, 1) := by decide +kernel
theorem dL_least_75 : decode cL_least 75 = .ok (.istore 9, 2) := by decide +kernel
theorem dL_least_77 : decode cL_least 77 = .ok (.iload 9, 2) := by decide +kernel
theorem dL_least_79 : decode cL_least 79 = .ok (.ifCond .eq 8, 3) := by decide +kernel
theorem dL_least_82 : decode cL_least 82 = .ok (.iload 7, 2) := by decide +kernel
theorem dL_least_84 : decode cL_least 84 = .ok (.goto 5, 3) := by decide +kernel
theorem dL_least_87 : decode cL_least 87 = .ok (.iload 5, 2) := by decide +kernel
theorem dL_least_89 : decode cL_least 89 = .ok (.istore 5, 2) := by decide +kernel
theorem dL_least_91 : decode cL_least 91 = .ok (.iload 9, 2) := by decide +kernel
theorem dL_least_93 : decode cL_least 93 = .ok (.ifCond .eq 8, 3) := by decide +kernel
theorem dL_least_96 : decode cL_least 96 = .ok (.iload 8, 2) := by decide +kernel
theorem dL_least_98 : decode cL_least 98 = .ok (.goto 5, 3) := by decide +kernel
theorem dL_least_101 : decode cL_least 101 = .ok (.iload 6, 2) := by decide +kernel
theorem dL_least_103 : decode cL_least 103 = .ok (.istore 6, 2) := by decide +kernel
theorem dL_least_105 : decode cL_least 105 = .ok (.iinc 7 (-1), 3) := by decide +kernel
theorem dL_least_108 : decode cL_least 108 = .ok (.goto (-94), 3) := by decide +kernel
theorem dL_least_111 : decode cL_least 111 = .ok (.iload 5, 2) := by decide +kernel
theorem dL_least_113 : decode cL_least 113 = .ok (.ireturn, 1) := by decide +kernel
set_option maxRecDepth 20000 in
theorem ggL_puts_X7_wipe : GoodIn wsL_puts wsX7_wipe := goodIn_r _ [5, 6, 7, 42, 43, 44, 45, 46, 47, 48, 49, 50, 51, 52, 53, 54, 55] (by decide +kernel) (by decide +kernel)
set_option maxRecDepth 20000 in
theorem gL_puts_X7_wipe : GoodIn wsL_puts (wsV RL 55 RX7 yX7_wipe wsX7_wipe) := goodIn_app (goodIn_of _ (by decide +kernel)) ggL_puts_X7_wipe
set_option maxRecDepth 20000 in
theorem ggL_puts_L_size : GoodIn wsL_puts wsL_size := goodIn_r _ [11] (by decide +kernel) (by decide +kernel)
set_option maxRecDepth 20000 in
theorem gL_puts_L_size : GoodIn wsL_puts (va_wsS RL 10 yL_size wsL_size) := goodIn_app (goodIn_of _ (by decide +kernel)) ggL_puts_L_size
set_option maxRecDepth 20000 in
theorem ggL_puts_L_some : GoodIn wsL_puts wsL_some := goodIn_r _ [14, 8, 9, 10, 11] (by decide +kernel) (by decide +kernel)
set_option maxRecDepth 20000 in
theorem gL_puts_L_some : GoodIn wsL_puts (va_wsS RL 20 yL_some wsL_some) := goodIn_app (goodIn_of _ (by decide +kernel)) ggL_puts_L_some
set_option maxRecDepth 20000 in
theorem ggL_puts_X7_put : GoodIn wsL_puts wsX7_put := goodIn_r _ [18, 6, 7, 19, 20, 4, 21, 22, 23, 24, 25, 26, 27, 28, 29, 42, 43, 44, 45, 46, 47, 48, 49, 50, 51, 52, 53, 54, 55] (by decide +kernel) (by decide +kernel)
set_option maxRecDepth 20000 in
theorem gL_puts_X7_put : GoodIn wsL_puts (wsV RL 61 RX7 yX7_put wsX7_put) := goodIn_app (goodIn_of _ (by decide +kernel)) ggL_puts_X7_put
set_option maxRecDepth 20000 in
theorem ggL_puts_X7_fault : GoodIn wsL_puts wsX7_fault := goodIn_r _ [33, 6, 7, 34, 35, 36, 26, 37, 28, 38, 39, 40, 41, 29, 42, 43, 44, 45, 46, 47, 48, 49, 50, 51, 52, 53, 54, 55] (by decide +kernel) (by decide +kernel)
set_option maxRecDepth 20000 in
theorem gL_puts_X7_fault : GoodIn wsL_puts (wsV RL 65 RX7 yX7_fault wsX7_fault) := goodIn_app (goodIn_of _ (by decide +kernel)) ggL_puts_X7_fault
theorem dL_puts_0 : decode cL_puts 0 = .ok (.aload_n 0, 1) := by decide +kernel
theorem dL_puts_1 : decode cL_puts 1 = .ok (.invokevirtual 55, 3) := by decide +kernel
theorem dL_puts_4 : decode cL_puts 4 = .ok (.pop, 1) := by decide +kernel
theorem dL_puts_5 : decode cL_puts 5 = .ok (.iconst 0, 1) := by decide +kernel
theorem dL_puts_6 : decode cL_puts 6 = .ok (.istore_n 2, 1) := by decide +kernel
theorem dL_puts_7 : decode cL_puts 7 = .ok (.iload_n 2, 1) := by decide +kernel
theorem dL_puts_8 : decode cL_puts 8 = .ok (.iload_n 1, 1) := by decide +kernel
theorem dL_puts_9 : decode cL_puts 9 = .ok (.invokestatic 10, 3) := by decide +kernel
theorem dL_puts_12 : decode cL_puts 12 = .ok (.if_icmp .ge 31, 3) := by decide +kernel
theorem dL_puts_15 : decode cL_puts 15 = .ok (.aload_n 0, 1) := by decide +kernel
theorem dL_puts_16 : decode cL_puts 16 = .ok (.bipush 96, 2) := by decide +kernel
theorem dL_puts_18 : decode cL_puts 18 = .ok (.iload_n 1, 1) := by decide +kernel
theorem dL_puts_19 : decode cL_puts 19 = .ok (.iload_n 2, 1) := by decide +kernel
theorem dL_puts_20 : decode cL_puts 20 = .ok (.iconst 1, 1) := by decide +kernel
theorem dL_puts_21 : decode cL_puts 21 = .ok (.invokestatic 20, 3) := by decide +kernel
theorem dL_puts_24 : decode cL_puts 24 = .ok (.iadd, 1) := by decide +kernel
theorem dL_puts_25 : decode cL_puts 25 = .ok (.i2l, 1) := by decide +kernel
theorem dL_puts_26 : decode cL_puts 26 = .ok (.invokevirtual 61, 3) := by decide +kernel
theorem dL_puts_29 : decode cL_puts 29 = .ok (.iload_n 2, 1) := by decide +kernel
theorem dL_puts_30 : decode cL_puts 30 = .ok (.iconst 1, 1) := by decide +kernel
theorem dL_puts_31 : decode cL_puts 31 = .ok (.iadd, 1) := by decide +kernel
theorem dL_puts_32 : decode cL_puts 32 = .ok (.if_icmp .eq 5, 3) := by decide +kernel
theorem dL_puts_35 : decode cL_puts 35 = .ok (.iconst 0, 1) := by decide +kernel
theorem dL_puts_36 : decode cL_puts 36 = .ok (.ireturn, 1) := by decide +kernel
theorem dL_puts_37 : decode cL_puts 37 = .ok (.iinc 2 1, 3) := by decide +kernel
theorem dL_puts_40 : decode cL_puts 40 = .ok (.goto (-33), 3) := by decide +kernel
theorem dL_puts_43 : decode cL_puts 43 = .ok (.aload_n 0, 1) := by decide +kernel
theorem dL_puts_44 : decode cL_puts 44 = .ok (.invokevirtual 65, 3) := by decide +kernel
theorem dL_puts_47 : decode cL_puts 47 = .ok (.bipush (-6), 2) := by decide +kernel
theorem dL_puts_49 : decode cL_puts 49 = .ok (.if_icmp .ne 7, 3) := by decide +kernel
theorem dL_puts_52 : decode cL_puts 52 = .ok (.iconst 1, 1) := by decide +kernel
theorem dL_puts_53 : decode cL_puts 53 = .ok (.goto 4, 3) := by decide +kernel
theorem dL_puts_56 : decode cL_puts 56 = .ok (.iconst 0, 1) := by decide +kernel
theorem dL_puts_57 : decode cL_puts 57 = .ok (.ireturn, 1) := by decide +kernel
set_option maxRecDepth 20000 in
theorem ggL_same_L_size : GoodIn wsL_same wsL_size := goodIn_r _ [5] (by decide +kernel) (by decide +kernel)
set_option maxRecDepth 20000 in
theorem gL_same_L_size : GoodIn wsL_same (va_wsS RL 10 yL_size wsL_size) := goodIn_app (goodIn_of _ (by decide +kernel)) ggL_same_L_size
set_option maxRecDepth 20000 in
theorem ggL_same_L_best : GoodIn wsL_same wsL_best := goodIn_r _ [8, 2, 3, 4, 5, 9, 10, 11, 12, 13, 14, 15, 16, 17, 18, 19, 20, 21, 22, 23] (by decide +kernel) (by decide +kernel)
set_option maxRecDepth 20000 in
theorem gL_same_L_best : GoodIn wsL_same (va_wsS RL 34 yL_best wsL_best) := goodIn_app (goodIn_of _ (by decide +kernel)) ggL_same_L_best
set_option maxRecDepth 20000 in
theorem ggL_same_L_product : GoodIn wsL_same wsL_product := goodIn_r _ [11, 2, 3, 4, 5, 12, 13, 14, 15, 16, 17, 18, 19, 20] (by decide +kernel) (by decide +kernel)
set_option maxRecDepth 20000 in
theorem gL_same_L_product : GoodIn wsL_same (va_wsS RL 27 yL_product wsL_product) := goodIn_app (goodIn_of _ (by decide +kernel)) ggL_same_L_product
set_option maxRecDepth 20000 in
theorem ggL_same_L_reaches : GoodIn wsL_same wsL_reaches := goodIn_r _ [14] (by decide +kernel) (by decide +kernel)
set_option maxRecDepth 20000 in
theorem gL_same_L_reaches : GoodIn wsL_same (va_wsS RL 16 yL_reaches wsL_reaches) := goodIn_app (goodIn_of _ (by decide +kernel)) ggL_same_L_reaches
set_option maxRecDepth 20000 in
theorem ggL_same_X7_part : GoodIn wsL_same wsX7_part := goodIn_r _ [28, 29, 30, 31, 32, 33, 34, 35, 36, 37, 27, 38, 39, 40, 41, 42, 43, 44, 45, 46, 47, 48, 49, 50, 51, 52, 53, 54, 55, 56, 57, 58, 59, 60, 61, 62, 63, 64, 65, 66, 67, 68, 69, 70, 71, 72, 73, 74, 75, 76, 77, 78, 79, 80, 81, 82, 83, 84, 85, 86, 87, 88, 89, 90, 91, 92, 93, 94, 95, 96, 97, 98, 99, 100, 101, 102, 103, 104, 105, 106, 107, 108, 109, 110, 111, 112, 113, 114, 260, 261, 262, 263, 264, 265, 266, 267, 268, 269, 270, 271, 272, 273, 274, 275, 276, 277, 278, 279, 280, 281, 282, 283, 284, 285, 286, 287, 288, 289, 290, 291] (by decide +kernel) (by decide +kernel)
set_option maxRecDepth 20000 in
theorem gL_same_X7_part : GoodIn wsL_same (wsV RL 68 RX7 yX7_part wsX7_part) := goodIn_app (goodIn_of _ (by decide +kernel)) ggL_same_X7_part
set_option maxRecDepth 20000 in
theorem ggL_same_L_some : GoodIn wsL_same wsL_some := goodIn_r _ [17, 2, 3, 4, 5] (by decide +kernel) (by decide +kernel)
set_option maxRecDepth 20000 in
theorem gL_same_L_some : GoodIn wsL_same (va_wsS RL 20 yL_some wsL_some) := goodIn_app (goodIn_of _ (by decide +kernel)) ggL_same_L_some
set_option maxRecDepth 20000 in
theorem ggL_same_L_piece : GoodIn wsL_same wsL_piece := goodIn_r _ [20] (by decide +kernel) (by decide +kernel)
set_option maxRecDepth 20000 in
theorem gL_same_L_piece : GoodIn wsL_same (va_wsS RL 23 yL_piece wsL_piece) := goodIn_app (goodIn_of _ (by decide +kernel)) ggL_same_L_piece
set_option maxRecDepth 20000 in
theorem ggL_same_X7_ofWord : GoodIn wsL_same wsX7_ofWord := goodIn_r _ [118, 29, 119, 120, 30, 31, 121, 122, 44, 35, 36, 37, 27, 38, 39, 40, 41, 42, 43, 45, 46, 47, 48, 49, 50, 51, 52, 53, 54, 55, 56, 57, 58, 59, 60, 61, 62, 63, 64, 65, 66, 67, 68, 69, 70, 71, 72, 73, 74, 75, 76, 77, 78, 79, 80, 81, 82, 83, 84, 85, 86, 87, 88, 89, 90, 91, 92, 93, 94, 95, 96, 97, 98, 99, 100, 101, 102, 103, 104, 105, 106, 107, 108, 109, 110, 111, 112, 113, 114, 123, 124, 125, 126, 127, 128, 129, 130, 131, 132, 133, 134, 135, 136, 137, 138, 139, 140, 141, 142, 143, 144, 145, 146, 147, 148, 149, 260, 261, 262, 263, 264, 265, 266, 267, 268, 269, 270, 271, 280, 281, 282, 283, 284, 285, 286, 287, 272, 273, 274, 275, 276, 277, 278, 279, 288, 289, 290, 291, 292, 293, 294] (by decide +kernel) (by decide +kernel)
set_option maxRecDepth 20000 in
theorem gL_same_X7_ofWord : GoodIn wsL_same (wsV RL 71 RX7 yX7_ofWord wsX7_ofWord) := goodIn_app (goodIn_of _ (by decide +kernel)) ggL_same_X7_ofWord
set_option maxRecDepth 20000 in
theorem ggL_same_L_unseen : GoodIn wsL_same wsL_unseen := goodIn_r _ [152, 2, 3, 4, 5, 12, 13, 14, 15, 16, 17, 18, 19, 20] (by decide +kernel) (by decide +kernel)
set_option maxRecDepth 20000 in
theorem gL_same_L_unseen : GoodIn wsL_same (va_wsS RL 37 yL_unseen wsL_unseen) := goodIn_app (goodIn_of _ (by decide +kernel)) ggL_same_L_unseen
set_option maxRecDepth 20000 in
theorem ggL_same_X7_product : GoodIn wsL_same wsX7_product := goodIn_r _ [156, 157, 44, 29, 122, 30, 158, 35, 36, 37, 27, 38, 39, 45, 46, 47, 48, 49, 50, 51, 52, 53, 54, 55, 56, 57, 58, 59, 60, 61, 62, 63, 64, 65, 66, 67, 68, 69, 70, 71, 72, 73, 74, 75, 76, 77, 78, 79, 80, 81, 82, 127, 128, 129, 130, 131, 132, 133, 134, 135, 136, 137, 138, 139, 140, 141, 98, 99, 100, 101, 102, 103, 104, 142, 143, 144, 145, 159, 160, 161, 162, 40, 41, 42, 43, 83, 84, 85, 86, 87, 88, 89, 90, 91, 92, 93, 94, 95, 96, 97, 105, 106, 107, 108, 109, 110, 111, 112, 113, 114, 163, 164, 165, 166, 260, 261, 262, 263, 264, 265, 266, 267, 268, 269, 270, 271, 280, 281, 282, 283, 284, 285, 286, 287, 288, 289, 290, 291, 292, 293, 294, 272, 273, 274, 275, 276, 277, 278, 279] (by decide +kernel) (by decide +kernel)
set_option maxRecDepth 20000 in
theorem gL_same_X7_product : GoodIn wsL_same (wsV RL 75 RX7 yX7_product wsX7_product) := goodIn_app (goodIn_of _ (by decide +kernel)) ggL_same_X7_product
set_option maxRecDepth 20000 in
theorem ggL_same_X7_letter : GoodIn wsL_same wsX7_letter := goodIn_r _ [170, 29, 119, 35, 36, 37, 27, 38, 39, 171, 69, 70, 71, 72, 73, 260, 261, 262, 263, 264, 265, 266, 267, 268, 269, 270, 271, 280, 281, 282, 283, 284, 285, 286, 287] (by decide +kernel) (by decide +kernel)
set_option maxRecDepth 20000 in
theorem gL_same_X7_letter : GoodIn wsL_same (wsV RL 78 RX7 yX7_letter wsX7_letter) := goodIn_app (goodIn_of _ (by decide +kernel)) ggL_same_X7_letter
set_option maxRecDepth 20000 in
theorem ggL_same_L_share : GoodIn wsL_same wsL_share := goodIn_r _ [174, 175, 2, 3, 4, 5, 9, 10, 11, 12, 13, 14, 15, 16, 17, 18, 19, 20] (by decide +kernel) (by decide +kernel)
set_option maxRecDepth 20000 in
theorem gL_same_L_share : GoodIn wsL_same (va_wsS RL 81 yL_share wsL_share) := goodIn_app (goodIn_of _ (by decide +kernel)) ggL_same_L_share
set_option maxRecDepth 20000 in
theorem ggL_same_X7_share : GoodIn wsL_same wsX7_share := goodIn_r _ [179, 44, 29, 122, 35, 36, 37, 27, 38, 39, 180, 181, 182, 183, 184, 45, 46, 47, 48, 49, 50, 51, 52, 53, 54, 55, 56, 57, 58, 59, 60, 61, 62, 63, 64, 65, 66, 67, 68, 69, 70, 71, 72, 73, 74, 75, 76, 77, 78, 79, 80, 81, 82, 127, 128, 129, 130, 131, 132, 133, 134, 135, 136, 137, 138, 139, 140, 141, 98, 99, 100, 101, 102, 103, 104, 142, 143, 144, 145, 185, 186, 187, 188, 189, 190, 191, 160, 161, 162, 260, 261, 262, 263, 264, 265, 266, 267, 268, 269, 270, 271, 280, 281, 282, 283, 284, 285, 286, 287, 288, 289, 290, 291, 292, 293, 294] (by decide +kernel) (by decide +kernel)
set_option maxRecDepth 20000 in
theorem gL_same_X7_share : GoodIn wsL_same (wsV RL 84 RX7 yX7_share wsX7_share) := goodIn_app (goodIn_of _ (by decide +kernel)) ggL_same_X7_share
set_option maxRecDepth 20000 in
theorem ggL_same_X7_ofPiece : GoodIn wsL_same wsX7_ofPiece := goodIn_r _ [195, 29, 196, 197, 198, 199, 200, 201, 180, 181, 182, 27, 183, 184, 202, 203, 204, 205, 206, 207, 208, 39, 30, 31, 32, 120, 40, 41, 42, 43, 44, 45, 46, 47, 48, 49, 50, 51, 52, 53, 54, 55, 56, 57, 58, 59, 60, 61, 62, 63, 64, 65, 66, 67, 68, 69, 70, 71, 72, 73, 74, 75, 76, 77, 78, 79, 80, 81, 82, 83, 84, 85, 86, 87, 88, 89, 90, 91, 92, 93, 94, 95, 96, 97, 98, 99, 100, 101, 102, 103, 104, 105, 106, 107, 108, 109, 110, 111, 112, 113, 114, 209, 210, 211, 212, 213, 214, 138, 215, 123, 124, 125, 126, 216, 217, 218, 219, 220, 221, 222, 223, 122, 127, 128, 129, 130, 131, 132, 133, 134, 135, 136, 137, 139, 140, 141, 142, 143, 144, 145, 185, 186, 187, 188, 189, 190, 191, 160, 161, 162, 260, 261, 262, 263, 264, 265, 266, 267, 268, 269, 270, 271, 280, 281, 282, 283, 284, 285, 286, 287, 272, 273, 274, 275, 276, 277, 278, 279, 288, 289, 290, 291, 292, 293, 294] (by decide +kernel) (by decide +kernel)
set_option maxRecDepth 20000 in
theorem gL_same_X7_ofPiece : GoodIn wsL_same (wsV RL 86 RX7 yX7_ofPiece wsX7_ofPiece) := goodIn_app (goodIn_of _ (by decide +kernel)) ggL_same_X7_ofPiece
set_option maxRecDepth 20000 in
theorem ggL_same_L_loss : GoodIn wsL_same wsL_loss := goodIn_r _ [226, 227, 228, 4, 229, 230, 231, 232, 6, 7, 8, 2, 3, 5, 9, 10, 11, 12, 13, 14, 15, 16, 17, 18, 19, 20, 21, 22, 23, 150, 151, 152] (by decide +kernel) (by decide +kernel)
set_option maxRecDepth 20000 in
theorem gL_same_L_loss : GoodIn wsL_same (va_wsS RL 51 yL_loss wsL_loss) := goodIn_app (goodIn_of _ (by decide +kernel)) ggL_same_L_loss
set_option maxRecDepth 20000 in
theorem ggL_same_X7_least : GoodIn wsL_same wsX7_least := goodIn_r _ [236, 237, 238, 239, 27, 240, 29, 184, 199, 197, 209, 210, 211, 212, 39, 44, 30, 120, 213, 214, 138, 215, 45, 46, 47, 48, 49, 50, 51, 52, 53, 54, 55, 56, 57, 58, 59, 60, 61, 62, 63, 64, 65, 66, 67, 68, 69, 70, 71, 72, 73, 74, 75, 76, 77, 78, 79, 80, 81, 82, 83, 84, 85, 86, 87, 88, 89, 90, 91, 92, 93, 94, 95, 96, 97, 98, 99, 100, 101, 102, 103, 104, 105, 106, 107, 108, 109, 110, 111, 112, 113, 114, 123, 124, 125, 126, 260, 261, 262, 263, 264, 265, 266, 267, 268, 269, 270, 271, 280, 281, 282, 283, 284, 285, 286, 287, 288, 289, 290, 291, 272, 273, 274, 275, 276, 277, 278, 279] (by decide +kernel) (by decide +kernel)
set_option maxRecDepth 20000 in
theorem gL_same_X7_least : GoodIn wsL_same (wsV RL 90 RX7 yX7_least wsX7_least) := goodIn_app (goodIn_of _ (by decide +kernel)) ggL_same_X7_least
set_option maxRecDepth 20000 in
theorem ggL_same_L_least : GoodIn wsL_same wsL_least := goodIn_r _ [243, 224, 225, 4, 226, 227, 228, 229, 230, 231, 232, 6, 7, 8, 2, 3, 5, 9, 10, 11, 12, 13, 14, 15, 16, 17, 18, 19, 20, 21, 22, 23, 150, 151, 152] (by decide +kernel) (by decide +kernel)
set_option maxRecDepth 20000 in
theorem gL_same_L_least : GoodIn wsL_same (va_wsS RL 93 yL_least wsL_least) := goodIn_app (goodIn_of _ (by decide +kernel)) ggL_same_L_least
set_option maxRecDepth 20000 in
theorem ggL_same_X7_count : GoodIn wsL_same wsX7_count := goodIn_r _ [247, 29, 184, 39, 248, 249, 250, 251, 216, 217, 218, 27, 219, 30, 120, 40, 41, 42, 43, 44, 45, 46, 47, 48, 49, 50, 51, 52, 53, 54, 55, 56, 57, 58, 59, 60, 61, 62, 63, 64, 65, 66, 67, 68, 69, 70, 71, 72, 73, 74, 75, 76, 77, 78, 79, 80, 81, 82, 83, 84, 85, 86, 87, 88, 89, 90, 91, 92, 93, 94, 95, 96, 97, 98, 99, 100, 101, 102, 103, 104, 105, 106, 107, 108, 109, 110, 111, 112, 113, 114, 123, 124, 125, 126, 252, 253, 254, 255, 119, 256, 257, 258, 259, 31, 260, 261, 262, 263, 264, 265, 266, 267, 268, 269, 270, 271, 280, 281, 282, 283, 284, 285, 286, 287, 295, 296, 297, 298, 288, 289, 290, 291, 272, 273, 274, 275, 276, 277, 278, 279] (by decide +kernel) (by decide +kernel)
set_option maxRecDepth 20000 in
theorem gL_same_X7_count : GoodIn wsL_same (wsV RL 96 RX7 yX7_count wsX7_count) := goodIn_app (goodIn_of _ (by decide +kernel)) ggL_same_X7_count
theorem dL_same_0 : decode cL_same 0 = .ok (.iconst 0, 1) := by decide +kernel
theorem dL_same_1 : decode cL_same 1 = .ok (.istore 6, 2) := by decide +kernel
theorem dL_same_3 : decode cL_same 3 = .ok (.iconst 0, 1) := by decide +kernel
theorem dL_same_4 : decode cL_same 4 = .ok (.istore 7, 2) := by decide +kernel
theorem dL_same_6 : decode cL_same 6 = .ok (.iconst 0, 1) := by decide +kernel
theorem dL_same_7 : decode cL_same 7 = .ok (.istore 8, 2) := by decide +kernel
theorem dL_same_9 : decode cL_same 9 = .ok (.iconst 0, 1) := by decide +kernel
theorem dL_same_10 : decode cL_same 10 = .ok (.istore 9, 2) := by decide +kernel
theorem dL_same_12 : decode cL_same 12 = .ok (.iload 9, 2) := by decide +kernel
theorem dL_same_14 : decode cL_same 14 = .ok (.aload_n 1, 1) := by decide +kernel
theorem dL_same_15 : decode cL_same 15 = .ok (.iconst 1, 1) := by decide +kernel
theorem dL_same_16 : decode cL_same 16 = .ok (.iaload, 1) := by decide +kernel
theorem dL_same_17 : decode cL_same 17 = .ok (.if_icmp .ge 390, 3) := by decide +kernel
theorem dL_same_20 : decode cL_same 20 = .ok (.aload_n 3, 1) := by decide +kernel
theorem dL_same_21 : decode cL_same 21 = .ok (.iconst 2, 1) := by decide +kernel
theorem dL_same_22 : decode cL_same 22 = .ok (.iload 9, 2) := by decide +kernel
theorem dL_same_24 : decode cL_same 24 = .ok (.imul, 1) := by decide +kernel
theorem dL_same_25 : decode cL_same 25 = .ok (.iaload, 1) := by decide +kernel
theorem dL_same_26 : decode cL_same 26 = .ok (.istore 10, 2) := by decide +kernel
theorem dL_same_28 : decode cL_same 28 = .ok (.iload 10, 2) := by decide +kernel
theorem dL_same_30 : decode cL_same 30 = .ok (.invokestatic 10, 3) := by decide +kernel
theorem dL_same_33 : decode cL_same 33 = .ok (.istore 11, 2) := by decide +kernel
theorem dL_same_35 : decode cL_same 35 = .ok (.iload 10, 2) := by decide +kernel
theorem dL_same_37 : decode cL_same 37 = .ok (.aload_n 1, 1) := by decide +kernel
theorem dL_same_38 : decode cL_same 38 = .ok (.aload_n 2, 1) := by decide +kernel
theorem dL_same_39 : decode cL_same 39 = .ok (.invokestatic 34, 3) := by decide +kernel
theorem dL_same_42 : decode cL_same 42 = .ok (.istore 12, 2) := by decide +kernel
theorem dL_same_44 : decode cL_same 44 = .ok (.iconst 0, 1) := by decide +kernel
theorem dL_same_45 : decode cL_same 45 = .ok (.istore 13, 2) := by decide +kernel
theorem dL_same_47 : decode cL_same 47 = .ok (.iconst 0, 1) := by decide +kernel
theorem dL_same_48 : decode cL_same 48 = .ok (.istore 14, 2) := by decide +kernel
theorem dL_same_50 : decode cL_same 50 = .ok (.lconst 0, 1) := by decide +kernel
theorem dL_same_51 : decode cL_same 51 = .ok (.lstore 15, 2) := by decide +kernel
theorem dL_same_53 : decode cL_same 53 = .ok (.iconst 0, 1) := by decide +kernel
theorem dL_same_54 : decode cL_same 54 = .ok (.istore 17, 2) := by decide +kernel
theorem dL_same_56 : decode cL_same 56 = .ok (.iload 17, 2) := by decide +kernel
theorem dL_same_58 : decode cL_same 58 = .ok (.iconst 1, 1) := by decide +kernel
theorem dL_same_59 : decode cL_same 59 = .ok (.iload 11, 2) := by decide +kernel
theorem dL_same_61 : decode cL_same 61 = .ok (.iconst 1, 1) := by decide +kernel
theorem dL_same_62 : decode cL_same 62 = .ok (.isub, 1) := by decide +kernel
theorem dL_same_63 : decode cL_same 63 = .ok (.ishl, 1) := by decide +kernel
theorem dL_same_64 : decode cL_same 64 = .ok (.if_icmp .ge 44, 3) := by decide +kernel
theorem dL_same_67 : decode cL_same 67 = .ok (.iload 10, 2) := by decide +kernel
theorem dL_same_69 : decode cL_same 69 = .ok (.iload 17, 2) := by decide +kernel
theorem dL_same_71 : decode cL_same 71 = .ok (.aload_n 1, 1) := by decide +kernel
theorem dL_same_72 : decode cL_same 72 = .ok (.aload_n 2, 1) := by decide +kernel
theorem dL_same_73 : decode cL_same 73 = .ok (.invokestatic 27, 3) := by decide +kernel
theorem dL_same_76 : decode cL_same 76 = .ok (.lstore 18, 2) := by decide +kernel
theorem dL_same_78 : decode cL_same 78 = .ok (.lload 15, 2) := by decide +kernel
theorem dL_same_80 : decode cL_same 80 = .ok (.lload 18, 2) := by decide +kernel
theorem dL_same_82 : decode cL_same 82 = .ok (.ladd, 1) := by decide +kernel
theorem dL_same_83 : decode cL_same 83 = .ok (.lstore 15, 2) := by decide +kernel
theorem dL_same_85 : decode cL_same 85 = .ok (.iload 13, 2) := by decide +kernel
theorem dL_same_87 : decode cL_same 87 = .ok (.lload 18, 2) := by decide +kernel
theorem dL_same_89 : decode cL_same 89 = .ok (.lconst 0, 1) := by decide +kernel
theorem dL_same_90 : decode cL_same 90 = .ok (.lcmp, 1) := by decide +kernel
theorem dL_same_91 : decode cL_same 91 = .ok (.ifCond .le 7, 3) := by decide +kernel
theorem dL_same_94 : decode cL_same 94 = .ok (.iconst 1, 1) := by decide +kernel
theorem dL_same_95 : decode cL_same 95 = .ok (.goto 4, 3) := by decide +kernel
theorem dL_same_98 : decode cL_same 98 = .ok (.iconst 0, 1) := by decide +kernel
theorem dL_same_99 : decode cL_same 99 = .ok (.iadd, 1) := by decide +kernel
theorem dL_same_100 : decode cL_same 100 = .ok (.istore 13, 2) := by decide +kernel
theorem dL_same_102 : decode cL_same 102 = .ok (.iinc 17 1, 3) := by decide +kernel
theorem dL_same_105 : decode cL_same 105 = .ok (.goto (-49), 3) := by decide +kernel
theorem dL_same_108 : decode cL_same 108 = .ok (.iconst 0, 1) := by decide +kernel
theorem dL_same_109 : decode cL_same 109 = .ok (.istore 17, 2) := by decide +kernel
theorem dL_same_111 : decode cL_same 111 = .ok (.iload 17, 2) := by decide +kernel
theorem dL_same_113 : decode cL_same 113 = .ok (.iload 11, 2) := by decide +kernel
theorem dL_same_115 : decode cL_same 115 = .ok (.if_icmp .ge 90, 3) := by decide +kernel
theorem dL_same_118 : decode cL_same 118 = .ok (.iload 11, 2) := by decide +kernel
theorem dL_same_120 : decode cL_same 120 = .ok (.iload 12, 2) := by decide +kernel
theorem dL_same_122 : decode cL_same 122 = .ok (.iload 17, 2) := by decide +kernel
theorem dL_same_124 : decode cL_same 124 = .ok (.invokestatic 16, 3) := by decide +kernel
theorem dL_same_127 : decode cL_same 127 = .ok (.istore 18, 2) := by decide +kernel
theorem dL_same_129 : decode cL_same 129 = .ok (.aload_n 0, 1) := by decide +kernel
theorem dL_same_130 : decode cL_same 130 = .ok (.iload 9, 2) := by decide +kernel
theorem dL_same_132 : decode cL_same 132 = .ok (.iload 14, 2) := by decide +kernel
theorem dL_same_134 : decode cL_same 134 = .ok (.iconst 0, 1) := by decide +kernel
theorem dL_same_135 : decode cL_same 135 = .ok (.invokevirtual 68, 3) := by decide +kernel
theorem dL_same_138 : decode cL_same 138 = .ok (.iload 10, 2) := by decide +kernel
theorem dL_same_140 : decode cL_same 140 = .ok (.iload 17, 2) := by decide +kernel
theorem dL_same_142 : decode cL_same 142 = .ok (.iload 18, 2) := by decide +kernel
theorem dL_same_144 : decode cL_same 144 = .ok (.invokestatic 20, 3) := by decide +kernel
theorem dL_same_147 : decode cL_same 147 = .ok (.aload_n 1, 1) := by decide +kernel
theorem dL_same_148 : decode cL_same 148 = .ok (.aload_n 2, 1) := by decide +kernel
theorem dL_same_149 : decode cL_same 149 = .ok (.invokestatic 23, 3) := by decide +kernel
theorem dL_same_152 : decode cL_same 152 = .ok (.if_icmp .ne 31, 3) := by decide +kernel
theorem dL_same_155 : decode cL_same 155 = .ok (.aload_n 0, 1) := by decide +kernel
theorem dL_same_156 : decode cL_same 156 = .ok (.iload 9, 2) := by decide +kernel
theorem dL_same_158 : decode cL_same 158 = .ok (.iload 14, 2) := by decide +kernel
theorem dL_same_160 : decode cL_same 160 = .ok (.iconst 1, 1) := by decide +kernel
theorem dL_same_161 : decode cL_same 161 = .ok (.invokevirtual 68, 3) := by decide +kernel
theorem dL_same_164 : decode cL_same 164 = .ok (.iload 17, 2) := by decide +kernel
theorem dL_same_166 : decode cL_same 166 = .ok (.if_icmp .ne 17, 3) := by decide +kernel
theorem dL_same_169 : decode cL_same 169 = .ok (.aload_n 0, 1) := by decide +kernel
theorem dL_same_170 : decode cL_same 170 = .ok (.iload 9, 2) := by decide +kernel
theorem dL_same_172 : decode cL_same 172 = .ok (.iload 14, 2) := by decide +kernel
theorem dL_same_174 : decode cL_same 174 = .ok (.iconst 2, 1) := by decide +kernel
theorem dL_same_175 : decode cL_same 175 = .ok (.invokevirtual 68, 3) := by decide +kernel
theorem dL_same_178 : decode cL_same 178 = .ok (.iload 18, 2) := by decide +kernel
theorem dL_same_180 : decode cL_same 180 = .ok (.if_icmp .eq 5, 3) := by decide +kernel
theorem dL_same_183 : decode cL_same 183 = .ok (.iconst 0, 1) := by decide +kernel
theorem dL_same_184 : decode cL_same 184 = .ok (.ireturn, 1) := by decide +kernel
theorem dL_same_185 : decode cL_same 185 = .ok (.iinc 14 1, 3) := by decide +kernel
theorem dL_same_188 : decode cL_same 188 = .ok (.iload 17, 2) := by decide +kernel
theorem dL_same_190 : decode cL_same 190 = .ok (.iload 11, 2) := by decide +kernel
theorem dL_same_192 : decode cL_same 192 = .ok (.iload 12, 2) := by decide +kernel
theorem dL_same_194 : decode cL_same 194 = .ok (.iload 17, 2) := by decide +kernel
theorem dL_same_196 : decode cL_same 196 = .ok (.invokestatic 16, 3) := by decide +kernel
theorem dL_same_199 : decode cL_same 199 = .ok (.iadd, 1) := by decide +kernel
theorem dL_same_200 : decode cL_same 200 = .ok (.istore 17, 2) := by decide +kernel
theorem dL_same_202 : decode cL_same 202 = .ok (.goto (-91), 3) := by decide +kernel
theorem dL_same_205 : decode cL_same 205 = .ok (.aload_n 0, 1) := by decide +kernel
theorem dL_same_206 : decode cL_same 206 = .ok (.iload 9, 2) := by decide +kernel
theorem dL_same_208 : decode cL_same 208 = .ok (.iconst 0, 1) := by decide +kernel
theorem dL_same_209 : decode cL_same 209 = .ok (.invokevirtual 71, 3) := by decide +kernel
theorem dL_same_212 : decode cL_same 212 = .ok (.iload 11, 2) := by decide +kernel
theorem dL_same_214 : decode cL_same 214 = .ok (.if_icmp .ne 130, 3) := by decide +kernel
theorem dL_same_217 : decode cL_same 217 = .ok (.aload_n 0, 1) := by decide +kernel
theorem dL_same_218 : decode cL_same 218 = .ok (.iload 9, 2) := by decide +kernel
theorem dL_same_220 : decode cL_same 220 = .ok (.iconst 1, 1) := by decide +kernel
theorem dL_same_221 : decode cL_same 221 = .ok (.invokevirtual 71, 3) := by decide +kernel
theorem dL_same_224 : decode cL_same 224 = .ok (.aload_n 3, 1) := by decide +kernel
theorem dL_same_225 : decode cL_same 225 = .ok (.iconst 2, 1) := by decide +kernel
theorem dL_same_226 : decode cL_same 226 = .ok (.iload 9, 2) := by decide +kernel
theorem dL_same_228 : decode cL_same 228 = .ok (.imul, 1) := by decide +kernel
theorem dL_same_229 : decode cL_same 229 = .ok (.iconst 1, 1) := by decide +kernel
theorem dL_same_230 : decode cL_same 230 = .ok (.iadd, 1) := by decide +kernel
theorem dL_same_231 : decode cL_same 231 = .ok (.iaload, 1) := by decide +kernel
theorem dL_same_232 : decode cL_same 232 = .ok (.if_icmp .ne 112, 3) := by decide +kernel
theorem dL_same_235 : decode cL_same 235 = .ok (.aload_n 0, 1) := by decide +kernel
theorem dL_same_236 : decode cL_same 236 = .ok (.iload 9, 2) := by decide +kernel
theorem dL_same_238 : decode cL_same 238 = .ok (.iconst 2, 1) := by decide +kernel
theorem dL_same_239 : decode cL_same 239 = .ok (.invokevirtual 71, 3) := by decide +kernel
theorem dL_same_242 : decode cL_same 242 = .ok (.iload 14, 2) := by decide +kernel
theorem dL_same_244 : decode cL_same 244 = .ok (.if_icmp .ne 100, 3) := by decide +kernel
theorem dL_same_247 : decode cL_same 247 = .ok (.aload_n 0, 1) := by decide +kernel
theorem dL_same_248 : decode cL_same 248 = .ok (.iload 9, 2) := by decide +kernel
theorem dL_same_250 : decode cL_same 250 = .ok (.iconst 3, 1) := by decide +kernel
theorem dL_same_251 : decode cL_same 251 = .ok (.invokevirtual 71, 3) := by decide +kernel
theorem dL_same_254 : decode cL_same 254 = .ok (.iload 10, 2) := by decide +kernel
theorem dL_same_256 : decode cL_same 256 = .ok (.iload 12, 2) := by decide +kernel
theorem dL_same_258 : decode cL_same 258 = .ok (.aload_n 1, 1) := by decide +kernel
theorem dL_same_259 : decode cL_same 259 = .ok (.aload_n 2, 1) := by decide +kernel
theorem dL_same_260 : decode cL_same 260 = .ok (.invokestatic 37, 3) := by decide +kernel
theorem dL_same_263 : decode cL_same 263 = .ok (.if_icmp .ne 81, 3) := by decide +kernel
theorem dL_same_266 : decode cL_same 266 = .ok (.aload_n 0, 1) := by decide +kernel
theorem dL_same_267 : decode cL_same 267 = .ok (.iload 9, 2) := by decide +kernel
theorem dL_same_269 : decode cL_same 269 = .ok (.iconst 5, 1) := by decide +kernel
theorem dL_same_270 : decode cL_same 270 = .ok (.invokevirtual 71, 3) := by decide +kernel
theorem dL_same_273 : decode cL_same 273 = .ok (.iload 13, 2) := by decide +kernel
theorem dL_same_275 : decode cL_same 275 = .ok (.if_icmp .ne 69, 3) := by decide +kernel
theorem dL_same_278 : decode cL_same 278 = .ok (.aload_n 0, 1) := by decide +kernel
theorem dL_same_279 : decode cL_same 279 = .ok (.iload 9, 2) := by decide +kernel
theorem dL_same_281 : decode cL_same 281 = .ok (.iconst 0, 1) := by decide +kernel
theorem dL_same_282 : decode cL_same 282 = .ok (.invokevirtual 75, 3) := by decide +kernel
theorem dL_same_285 : decode cL_same 285 = .ok (.lload 15, 2) := by decide +kernel
theorem dL_same_287 : decode cL_same 287 = .ok (.lcmp, 1) := by decide +kernel
theorem dL_same_288 : decode cL_same 288 = .ok (.ifCond .ne 56, 3) := by decide +kernel
theorem dL_same_291 : decode cL_same 291 = .ok (.aload_n 0, 1) := by decide +kernel
theorem dL_same_292 : decode cL_same 292 = .ok (.iload 9, 2) := by decide +kernel
theorem dL_same_294 : decode cL_same 294 = .ok (.iconst 1, 1) := by decide +kernel
theorem dL_same_295 : decode cL_same 295 = .ok (.invokevirtual 75, 3) := by decide +kernel
theorem dL_same_298 : decode cL_same 298 = .ok (.iload 10, 2) := by decide +kernel
theorem dL_same_300 : decode cL_same 300 = .ok (.iload 12, 2) := by decide +kernel
theorem dL_same_302 : decode cL_same 302 = .ok (.aload_n 1, 1) := by decide +kernel
theorem dL_same_303 : decode cL_same 303 = .ok (.aload_n 2, 1) := by decide +kernel
theorem dL_same_304 : decode cL_same 304 = .ok (.invokestatic 27, 3) := by decide +kernel
theorem dL_same_307 : decode cL_same 307 = .ok (.lcmp, 1) := by decide +kernel
theorem dL_same_308 : decode cL_same 308 = .ok (.ifCond .ne 36, 3) := by decide +kernel
theorem dL_same_311 : decode cL_same 311 = .ok (.aload_n 0, 1) := by decide +kernel
theorem dL_same_312 : decode cL_same 312 = .ok (.iload 9, 2) := by decide +kernel
theorem dL_same_314 : decode cL_same 314 = .ok (.iload 14, 2) := by decide +kernel
theorem dL_same_316 : decode cL_same 316 = .ok (.iconst 0, 1) := by decide +kernel
theorem dL_same_317 : decode cL_same 317 = .ok (.invokevirtual 68, 3) := by decide +kernel
theorem dL_same_320 : decode cL_same 320 = .ok (.iconst (-1), 1) := by decide +kernel
theorem dL_same_321 : decode cL_same 321 = .ok (.if_icmp .ne 23, 3) := by decide +kernel
theorem dL_same_324 : decode cL_same 324 = .ok (.aload_n 0, 1) := by decide +kernel
theorem dL_same_325 : decode cL_same 325 = .ok (.iload 9, 2) := by decide +kernel
theorem dL_same_327 : decode cL_same 327 = .ok (.iload 11, 2) := by decide +kernel
theorem dL_same_329 : decode cL_same 329 = .ok (.iconst 1, 1) := by decide +kernel
theorem dL_same_330 : decode cL_same 330 = .ok (.isub, 1) := by decide +kernel
theorem dL_same_331 : decode cL_same 331 = .ok (.invokevirtual 78, 3) := by decide +kernel
theorem dL_same_334 : decode cL_same 334 = .ok (.iload 10, 2) := by decide +kernel
theorem dL_same_336 : decode cL_same 336 = .ok (.bipush 7, 2) := by decide +kernel
theorem dL_same_338 : decode cL_same 338 = .ok (.irem, 1) := by decide +kernel
theorem dL_same_339 : decode cL_same 339 = .ok (.iconst 1, 1) := by decide +kernel
theorem dL_same_340 : decode cL_same 340 = .ok (.isub, 1) := by decide +kernel
theorem dL_same_341 : decode cL_same 341 = .ok (.if_icmp .eq 5, 3) := by decide +kernel
theorem dL_same_344 : decode cL_same 344 = .ok (.iconst 0, 1) := by decide +kernel
theorem dL_same_345 : decode cL_same 345 = .ok (.ireturn, 1) := by decide +kernel
theorem dL_same_346 : decode cL_same 346 = .ok (.iload 6, 2) := by decide +kernel
theorem dL_same_348 : decode cL_same 348 = .ok (.iload 14, 2) := by decide +kernel
theorem dL_same_350 : decode cL_same 350 = .ok (.aload_n 3, 1) := by decide +kernel
theorem dL_same_351 : decode cL_same 351 = .ok (.iconst 2, 1) := by decide +kernel
theorem dL_same_352 : decode cL_same 352 = .ok (.iload 9, 2) := by decide +kernel
theorem dL_same_354 : decode cL_same 354 = .ok (.imul, 1) := by decide +kernel
theorem dL_same_355 : decode cL_same 355 = .ok (.iconst 1, 1) := by decide +kernel
theorem dL_same_356 : decode cL_same 356 = .ok (.iadd, 1) := by decide +kernel
theorem dL_same_357 : decode cL_same 357 = .ok (.iaload, 1) := by decide +kernel
theorem dL_same_358 : decode cL_same 358 = .ok (.imul, 1) := by decide +kernel
theorem dL_same_359 : decode cL_same 359 = .ok (.iadd, 1) := by decide +kernel
theorem dL_same_360 : decode cL_same 360 = .ok (.istore 6, 2) := by decide +kernel
theorem dL_same_362 : decode cL_same 362 = .ok (.iload 7, 2) := by decide +kernel
theorem dL_same_364 : decode cL_same 364 = .ok (.iload 10, 2) := by decide +kernel
theorem dL_same_366 : decode cL_same 366 = .ok (.iload 12, 2) := by decide +kernel
theorem dL_same_368 : decode cL_same 368 = .ok (.aload_n 1, 1) := by decide +kernel
theorem dL_same_369 : decode cL_same 369 = .ok (.aload_n 2, 1) := by decide +kernel
theorem dL_same_370 : decode cL_same 370 = .ok (.invokestatic 37, 3) := by decide +kernel
theorem dL_same_373 : decode cL_same 373 = .ok (.aload_n 3, 1) := by decide +kernel
theorem dL_same_374 : decode cL_same 374 = .ok (.iconst 2, 1) := by decide +kernel
theorem dL_same_375 : decode cL_same 375 = .ok (.iload 9, 2) := by decide +kernel
theorem dL_same_377 : decode cL_same 377 = .ok (.imul, 1) := by decide +kernel
theorem dL_same_378 : decode cL_same 378 = .ok (.iconst 1, 1) := by decide +kernel
theorem dL_same_379 : decode cL_same 379 = .ok (.iadd, 1) := by decide +kernel
theorem dL_same_380 : decode cL_same 380 = .ok (.iaload, 1) := by decide +kernel
theorem dL_same_381 : decode cL_same 381 = .ok (.imul, 1) := by decide +kernel
theorem dL_same_382 : decode cL_same 382 = .ok (.iadd, 1) := by decide +kernel
theorem dL_same_383 : decode cL_same 383 = .ok (.istore 7, 2) := by decide +kernel
theorem dL_same_385 : decode cL_same 385 = .ok (.iload 8, 2) := by decide +kernel
theorem dL_same_387 : decode cL_same 387 = .ok (.iload 11, 2) := by decide +kernel
theorem dL_same_389 : decode cL_same 389 = .ok (.aload_n 3, 1) := by decide +kernel
theorem dL_same_390 : decode cL_same 390 = .ok (.iconst 2, 1) := by decide +kernel
theorem dL_same_391 : decode cL_same 391 = .ok (.iload 9, 2) := by decide +kernel
theorem dL_same_393 : decode cL_same 393 = .ok (.imul, 1) := by decide +kernel
theorem dL_same_394 : decode cL_same 394 = .ok (.iconst 1, 1) := by decide +kernel
theorem dL_same_395 : decode cL_same 395 = .ok (.iadd, 1) := by decide +kernel
theorem dL_same_396 : decode cL_same 396 = .ok (.iaload, 1) := by decide +kernel
theorem dL_same_397 : decode cL_same 397 = .ok (.imul, 1) := by decide +kernel
theorem dL_same_398 : decode cL_same 398 = .ok (.iadd, 1) := by decide +kernel
theorem dL_same_399 : decode cL_same 399 = .ok (.istore 8, 2) := by decide +kernel
theorem dL_same_401 : decode cL_same 401 = .ok (.iinc 9 1, 3) := by decide +kernel
theorem dL_same_404 : decode cL_same 404 = .ok (.goto (-392), 3) := by decide +kernel
theorem dL_same_407 : decode cL_same 407 = .ok (.iconst 0, 1) := by decide +kernel
theorem dL_same_408 : decode cL_same 408 = .ok (.istore 9, 2) := by decide +kernel
theorem dL_same_410 : decode cL_same 410 = .ok (.iload 9, 2) := by decide +kernel
theorem dL_same_412 : decode cL_same 412 = .ok (.aload_n 1, 1) := by decide +kernel
theorem dL_same_413 : decode cL_same 413 = .ok (.iconst 0, 1) := by decide +kernel
theorem dL_same_414 : decode cL_same 414 = .ok (.iaload, 1) := by decide +kernel
theorem dL_same_415 : decode cL_same 415 = .ok (.if_icmp .ge 176, 3) := by decide +kernel
theorem dL_same_418 : decode cL_same 418 = .ok (.iconst 0, 1) := by decide +kernel
theorem dL_same_419 : decode cL_same 419 = .ok (.istore 10, 2) := by decide +kernel
theorem dL_same_421 : decode cL_same 421 = .ok (.iconst 0, 1) := by decide +kernel
theorem dL_same_422 : decode cL_same 422 = .ok (.istore 11, 2) := by decide +kernel
theorem dL_same_424 : decode cL_same 424 = .ok (.iload 11, 2) := by decide +kernel
theorem dL_same_426 : decode cL_same 426 = .ok (.aload_n 1, 1) := by decide +kernel
theorem dL_same_427 : decode cL_same 427 = .ok (.iconst 1, 1) := by decide +kernel
theorem dL_same_428 : decode cL_same 428 = .ok (.iaload, 1) := by decide +kernel
theorem dL_same_429 : decode cL_same 429 = .ok (.if_icmp .ge 55, 3) := by decide +kernel
theorem dL_same_432 : decode cL_same 432 = .ok (.aload_n 3, 1) := by decide +kernel
theorem dL_same_433 : decode cL_same 433 = .ok (.iconst 2, 1) := by decide +kernel
theorem dL_same_434 : decode cL_same 434 = .ok (.iload 11, 2) := by decide +kernel
theorem dL_same_436 : decode cL_same 436 = .ok (.imul, 1) := by decide +kernel
theorem dL_same_437 : decode cL_same 437 = .ok (.iaload, 1) := by decide +kernel
theorem dL_same_438 : decode cL_same 438 = .ok (.iload 9, 2) := by decide +kernel
theorem dL_same_440 : decode cL_same 440 = .ok (.aload_n 1, 1) := by decide +kernel
theorem dL_same_441 : decode cL_same 441 = .ok (.aload_n 2, 1) := by decide +kernel
theorem dL_same_442 : decode cL_same 442 = .ok (.invokestatic 81, 3) := by decide +kernel
theorem dL_same_445 : decode cL_same 445 = .ok (.istore 12, 2) := by decide +kernel
theorem dL_same_447 : decode cL_same 447 = .ok (.iload 10, 2) := by decide +kernel
theorem dL_same_449 : decode cL_same 449 = .ok (.iload 12, 2) := by decide +kernel
theorem dL_same_451 : decode cL_same 451 = .ok (.aload_n 3, 1) := by decide +kernel
theorem dL_same_452 : decode cL_same 452 = .ok (.iconst 2, 1) := by decide +kernel
theorem dL_same_453 : decode cL_same 453 = .ok (.iload 11, 2) := by decide +kernel
theorem dL_same_455 : decode cL_same 455 = .ok (.imul, 1) := by decide +kernel
theorem dL_same_456 : decode cL_same 456 = .ok (.iconst 1, 1) := by decide +kernel
theorem dL_same_457 : decode cL_same 457 = .ok (.iadd, 1) := by decide +kernel
theorem dL_same_458 : decode cL_same 458 = .ok (.iaload, 1) := by decide +kernel
theorem dL_same_459 : decode cL_same 459 = .ok (.imul, 1) := by decide +kernel
theorem dL_same_460 : decode cL_same 460 = .ok (.iadd, 1) := by decide +kernel
theorem dL_same_461 : decode cL_same 461 = .ok (.istore 10, 2) := by decide +kernel
theorem dL_same_463 : decode cL_same 463 = .ok (.aload_n 0, 1) := by decide +kernel
theorem dL_same_464 : decode cL_same 464 = .ok (.iload 11, 2) := by decide +kernel
theorem dL_same_466 : decode cL_same 466 = .ok (.iload 9, 2) := by decide +kernel
theorem dL_same_468 : decode cL_same 468 = .ok (.invokevirtual 84, 3) := by decide +kernel
theorem dL_same_471 : decode cL_same 471 = .ok (.iload 12, 2) := by decide +kernel
theorem dL_same_473 : decode cL_same 473 = .ok (.if_icmp .eq 5, 3) := by decide +kernel
theorem dL_same_476 : decode cL_same 476 = .ok (.iconst 0, 1) := by decide +kernel
theorem dL_same_477 : decode cL_same 477 = .ok (.ireturn, 1) := by decide +kernel
theorem dL_same_478 : decode cL_same 478 = .ok (.iinc 11 1, 3) := by decide +kernel
theorem dL_same_481 : decode cL_same 481 = .ok (.goto (-57), 3) := by decide +kernel
theorem dL_same_484 : decode cL_same 484 = .ok (.aload_n 0, 1) := by decide +kernel
theorem dL_same_485 : decode cL_same 485 = .ok (.iload 9, 2) := by decide +kernel
theorem dL_same_487 : decode cL_same 487 = .ok (.iconst 0, 1) := by decide +kernel
theorem dL_same_488 : decode cL_same 488 = .ok (.invokevirtual 86, 3) := by decide +kernel
theorem dL_same_491 : decode cL_same 491 = .ok (.aload_n 2, 1) := by decide +kernel
theorem dL_same_492 : decode cL_same 492 = .ok (.iconst 2, 1) := by decide +kernel
theorem dL_same_493 : decode cL_same 493 = .ok (.iload 9, 2) := by decide +kernel
theorem dL_same_495 : decode cL_same 495 = .ok (.imul, 1) := by decide +kernel
theorem dL_same_496 : decode cL_same 496 = .ok (.iaload, 1) := by decide +kernel
theorem dL_same_497 : decode cL_same 497 = .ok (.invokestatic 10, 3) := by decide +kernel
theorem dL_same_500 : decode cL_same 500 = .ok (.if_icmp .ne 83, 3) := by decide +kernel
theorem dL_same_503 : decode cL_same 503 = .ok (.aload_n 0, 1) := by decide +kernel
theorem dL_same_504 : decode cL_same 504 = .ok (.iload 9, 2) := by decide +kernel
theorem dL_same_506 : decode cL_same 506 = .ok (.iconst 1, 1) := by decide +kernel
theorem dL_same_507 : decode cL_same 507 = .ok (.invokevirtual 86, 3) := by decide +kernel
theorem dL_same_510 : decode cL_same 510 = .ok (.aload_n 2, 1) := by decide +kernel
theorem dL_same_511 : decode cL_same 511 = .ok (.iconst 2, 1) := by decide +kernel
theorem dL_same_512 : decode cL_same 512 = .ok (.iload 9, 2) := by decide +kernel
theorem dL_same_514 : decode cL_same 514 = .ok (.imul, 1) := by decide +kernel
theorem dL_same_515 : decode cL_same 515 = .ok (.iconst 1, 1) := by decide +kernel
theorem dL_same_516 : decode cL_same 516 = .ok (.iadd, 1) := by decide +kernel
theorem dL_same_517 : decode cL_same 517 = .ok (.iaload, 1) := by decide +kernel
theorem dL_same_518 : decode cL_same 518 = .ok (.if_icmp .ne 65, 3) := by decide +kernel
theorem dL_same_521 : decode cL_same 521 = .ok (.aload_n 0, 1) := by decide +kernel
theorem dL_same_522 : decode cL_same 522 = .ok (.iload 9, 2) := by decide +kernel
theorem dL_same_524 : decode cL_same 524 = .ok (.iconst 2, 1) := by decide +kernel
theorem dL_same_525 : decode cL_same 525 = .ok (.invokevirtual 86, 3) := by decide +kernel
theorem dL_same_528 : decode cL_same 528 = .ok (.aload_n 2, 1) := by decide +kernel
theorem dL_same_529 : decode cL_same 529 = .ok (.iconst 2, 1) := by decide +kernel
theorem dL_same_530 : decode cL_same 530 = .ok (.iload 9, 2) := by decide +kernel
theorem dL_same_532 : decode cL_same 532 = .ok (.imul, 1) := by decide +kernel
theorem dL_same_533 : decode cL_same 533 = .ok (.iaload, 1) := by decide +kernel
theorem dL_same_534 : decode cL_same 534 = .ok (.iconst 0, 1) := by decide +kernel
theorem dL_same_535 : decode cL_same 535 = .ok (.iconst 1, 1) := by decide +kernel
theorem dL_same_536 : decode cL_same 536 = .ok (.invokestatic 20, 3) := by decide +kernel
theorem dL_same_539 : decode cL_same 539 = .ok (.iconst 1, 1) := by decide +kernel
theorem dL_same_540 : decode cL_same 540 = .ok (.isub, 1) := by decide +kernel
theorem dL_same_541 : decode cL_same 541 = .ok (.if_icmp .ne 42, 3) := by decide +kernel
theorem dL_same_544 : decode cL_same 544 = .ok (.aload_n 0, 1) := by decide +kernel
theorem dL_same_545 : decode cL_same 545 = .ok (.iload 9, 2) := by decide +kernel
theorem dL_same_547 : decode cL_same 547 = .ok (.bipush 7, 2) := by decide +kernel
theorem dL_same_549 : decode cL_same 549 = .ok (.invokevirtual 86, 3) := by decide +kernel
theorem dL_same_552 : decode cL_same 552 = .ok (.iload 9, 2) := by decide +kernel
theorem dL_same_554 : decode cL_same 554 = .ok (.aload_n 1, 1) := by decide +kernel
theorem dL_same_555 : decode cL_same 555 = .ok (.aload_n 2, 1) := by decide +kernel
theorem dL_same_556 : decode cL_same 556 = .ok (.aload_n 3, 1) := by decide +kernel
theorem dL_same_557 : decode cL_same 557 = .ok (.aload 4, 2) := by decide +kernel
theorem dL_same_559 : decode cL_same 559 = .ok (.aload 5, 2) := by decide +kernel
theorem dL_same_561 : decode cL_same 561 = .ok (.invokestatic 51, 3) := by decide +kernel
theorem dL_same_564 : decode cL_same 564 = .ok (.ldc 89, 2) := by decide +kernel
theorem dL_same_566 : decode cL_same 566 = .ok (.iadd, 1) := by decide +kernel
theorem dL_same_567 : decode cL_same 567 = .ok (.if_icmp .ne 16, 3) := by decide +kernel
theorem dL_same_570 : decode cL_same 570 = .ok (.aload_n 0, 1) := by decide +kernel
theorem dL_same_571 : decode cL_same 571 = .ok (.iload 9, 2) := by decide +kernel
theorem dL_same_573 : decode cL_same 573 = .ok (.bipush 8, 2) := by decide +kernel
theorem dL_same_575 : decode cL_same 575 = .ok (.invokevirtual 86, 3) := by decide +kernel
theorem dL_same_578 : decode cL_same 578 = .ok (.iload 10, 2) := by decide +kernel
theorem dL_same_580 : decode cL_same 580 = .ok (.if_icmp .eq 5, 3) := by decide +kernel
theorem dL_same_583 : decode cL_same 583 = .ok (.iconst 0, 1) := by decide +kernel
theorem dL_same_584 : decode cL_same 584 = .ok (.ireturn, 1) := by decide +kernel
theorem dL_same_585 : decode cL_same 585 = .ok (.iinc 9 1, 3) := by decide +kernel
theorem dL_same_588 : decode cL_same 588 = .ok (.goto (-178), 3) := by decide +kernel
theorem dL_same_591 : decode cL_same 591 = .ok (.aload_n 0, 1) := by decide +kernel
theorem dL_same_592 : decode cL_same 592 = .ok (.invokevirtual 90, 3) := by decide +kernel
theorem dL_same_595 : decode cL_same 595 = .ok (.aload_n 1, 1) := by decide +kernel
theorem dL_same_596 : decode cL_same 596 = .ok (.aload_n 2, 1) := by decide +kernel
theorem dL_same_597 : decode cL_same 597 = .ok (.aload_n 3, 1) := by decide +kernel
theorem dL_same_598 : decode cL_same 598 = .ok (.aload 4, 2) := by decide +kernel
theorem dL_same_600 : decode cL_same 600 = .ok (.aload 5, 2) := by decide +kernel
theorem dL_same_602 : decode cL_same 602 = .ok (.invokestatic 93, 3) := by decide +kernel
theorem dL_same_605 : decode cL_same 605 = .ok (.if_icmp .ne 72, 3) := by decide +kernel
theorem dL_same_608 : decode cL_same 608 = .ok (.aload_n 0, 1) := by decide +kernel
theorem dL_same_609 : decode cL_same 609 = .ok (.iconst 0, 1) := by decide +kernel
theorem dL_same_610 : decode cL_same 610 = .ok (.invokevirtual 96, 3) := by decide +kernel
theorem dL_same_613 : decode cL_same 613 = .ok (.aload_n 1, 1) := by decide +kernel
theorem dL_same_614 : decode cL_same 614 = .ok (.iconst 0, 1) := by decide +kernel
theorem dL_same_615 : decode cL_same 615 = .ok (.iaload, 1) := by decide +kernel
theorem dL_same_616 : decode cL_same 616 = .ok (.if_icmp .ne 61, 3) := by decide +kernel
theorem dL_same_619 : decode cL_same 619 = .ok (.aload_n 0, 1) := by decide +kernel
theorem dL_same_620 : decode cL_same 620 = .ok (.iconst 1, 1) := by decide +kernel
theorem dL_same_621 : decode cL_same 621 = .ok (.invokevirtual 96, 3) := by decide +kernel
theorem dL_same_624 : decode cL_same 624 = .ok (.aload_n 1, 1) := by decide +kernel
theorem dL_same_625 : decode cL_same 625 = .ok (.iconst 1, 1) := by decide +kernel
theorem dL_same_626 : decode cL_same 626 = .ok (.iaload, 1) := by decide +kernel
theorem dL_same_627 : decode cL_same 627 = .ok (.if_icmp .ne 50, 3) := by decide +kernel
theorem dL_same_630 : decode cL_same 630 = .ok (.aload_n 0, 1) := by decide +kernel
theorem dL_same_631 : decode cL_same 631 = .ok (.iconst 2, 1) := by decide +kernel
theorem dL_same_632 : decode cL_same 632 = .ok (.invokevirtual 96, 3) := by decide +kernel
theorem dL_same_635 : decode cL_same 635 = .ok (.iload 6, 2) := by decide +kernel
theorem dL_same_637 : decode cL_same 637 = .ok (.iload 7, 2) := by decide +kernel
theorem dL_same_639 : decode cL_same 639 = .ok (.iadd, 1) := by decide +kernel
theorem dL_same_640 : decode cL_same 640 = .ok (.if_icmp .ne 37, 3) := by decide +kernel
theorem dL_same_643 : decode cL_same 643 = .ok (.aload_n 0, 1) := by decide +kernel
theorem dL_same_644 : decode cL_same 644 = .ok (.iconst 3, 1) := by decide +kernel
theorem dL_same_645 : decode cL_same 645 = .ok (.invokevirtual 96, 3) := by decide +kernel
theorem dL_same_648 : decode cL_same 648 = .ok (.iload 8, 2) := by decide +kernel
theorem dL_same_650 : decode cL_same 650 = .ok (.if_icmp .ne 27, 3) := by decide +kernel
theorem dL_same_653 : decode cL_same 653 = .ok (.aload_n 0, 1) := by decide +kernel
theorem dL_same_654 : decode cL_same 654 = .ok (.iconst 4, 1) := by decide +kernel
theorem dL_same_655 : decode cL_same 655 = .ok (.invokevirtual 96, 3) := by decide +kernel
theorem dL_same_658 : decode cL_same 658 = .ok (.iload 6, 2) := by decide +kernel
theorem dL_same_660 : decode cL_same 660 = .ok (.if_icmp .ne 17, 3) := by decide +kernel
theorem dL_same_663 : decode cL_same 663 = .ok (.aload_n 0, 1) := by decide +kernel
theorem dL_same_664 : decode cL_same 664 = .ok (.iconst 5, 1) := by decide +kernel
theorem dL_same_665 : decode cL_same 665 = .ok (.invokevirtual 96, 3) := by decide +kernel
theorem dL_same_668 : decode cL_same 668 = .ok (.iload 7, 2) := by decide +kernel
theorem dL_same_670 : decode cL_same 670 = .ok (.if_icmp .ne 7, 3) := by decide +kernel
theorem dL_same_673 : decode cL_same 673 = .ok (.iconst 1, 1) := by decide +kernel
theorem dL_same_674 : decode cL_same 674 = .ok (.goto 4, 3) := by decide +kernel
theorem dL_same_677 : decode cL_same 677 = .ok (.iconst 0, 1) := by decide +kernel
theorem dL_same_678 : decode cL_same 678 = .ok (.ireturn, 1) := by decide +kernel
set_option maxRecDepth 20000 in
theorem ggL_text_L_low : GoodIn wsL_text wsL_low := goodIn_r _ [4, 5] (by decide +kernel) (by decide +kernel)
set_option maxRecDepth 20000 in
theorem gL_text_L_low : GoodIn wsL_text (va_wsS RL 99 yL_low wsL_low) := goodIn_app (goodIn_of _ (by decide +kernel)) ggL_text_L_low
theorem dL_text_0 : decode cL_text 0 = .ok (.iconst 0, 1) := by decide +kernel
theorem dL_text_1 : decode cL_text 1 = .ok (.istore_n 3, 1) := by decide +kernel
theorem dL_text_2 : decode cL_text 2 = .ok (.iconst 0, 1) := by decide +kernel
theorem dL_text_3 : decode cL_text 3 = .ok (.istore 4, 2) := by decide +kernel
theorem dL_text_5 : decode cL_text 5 = .ok (.iload 4, 2) := by decide +kernel
theorem dL_text_7 : decode cL_text 7 = .ok (.iload_n 1, 1) := by decide +kernel
theorem dL_text_8 : decode cL_text 8 = .ok (.if_icmp .ge 27, 3) := by decide +kernel
theorem dL_text_11 : decode cL_text 11 = .ok (.bipush 7, 2) := by decide +kernel
theorem dL_text_13 : decode cL_text 13 = .ok (.iload_n 3, 1) := by decide +kernel
theorem dL_text_14 : decode cL_text 14 = .ok (.imul, 1) := by decide +kernel
theorem dL_text_15 : decode cL_text 15 = .ok (.iconst 1, 1) := by decide +kernel
theorem dL_text_16 : decode cL_text 16 = .ok (.iadd, 1) := by decide +kernel
theorem dL_text_17 : decode cL_text 17 = .ok (.iload_n 0, 1) := by decide +kernel
theorem dL_text_18 : decode cL_text 18 = .ok (.iconst 2, 1) := by decide +kernel
theorem dL_text_19 : decode cL_text 19 = .ok (.iload 4, 2) := by decide +kernel
theorem dL_text_21 : decode cL_text 21 = .ok (.imul, 1) := by decide +kernel
theorem dL_text_22 : decode cL_text 22 = .ok (.ishr, 1) := by decide +kernel
theorem dL_text_23 : decode cL_text 23 = .ok (.iload_n 2, 1) := by decide +kernel
theorem dL_text_24 : decode cL_text 24 = .ok (.invokestatic 99, 3) := by decide +kernel
theorem dL_text_27 : decode cL_text 27 = .ok (.iadd, 1) := by decide +kernel
theorem dL_text_28 : decode cL_text 28 = .ok (.istore_n 3, 1) := by decide +kernel
theorem dL_text_29 : decode cL_text 29 = .ok (.iinc 4 1, 3) := by decide +kernel
theorem dL_text_32 : decode cL_text 32 = .ok (.goto (-27), 3) := by decide +kernel
theorem dL_text_35 : decode cL_text 35 = .ok (.iload_n 3, 1) := by decide +kernel
theorem dL_text_36 : decode cL_text 36 = .ok (.ireturn, 1) := by decide +kernel
