theorem dX7_init_0 : decode cX7_init 0 = .ok (.aload_n 0, 1) := by decide +kernel
theorem dX7_init_1 : decode cX7_init 1 = .ok (.invokespecial 3, 3) := by decide +kernel
theorem dX7_init_4 : decode cX7_init 4 = .ok (.aload_n 0, 1) := by decide +kernel
theorem dX7_init_5 : decode cX7_init 5 = .ok (.iconst 4, 1) := by decide +kernel
theorem dX7_init_6 : decode cX7_init 6 = .ok (.anewarray 9, 3) := by decide +kernel
theorem dX7_init_9 : decode cX7_init 9 = .ok (.putfield 11, 3) := by decide +kernel
theorem dX7_init_12 : decode cX7_init 12 = .ok (.iconst 0, 1) := by decide +kernel
theorem dX7_init_13 : decode cX7_init 13 = .ok (.istore_n 1, 1) := by decide +kernel
theorem dX7_init_14 : decode cX7_init 14 = .ok (.iload_n 1, 1) := by decide +kernel
theorem dX7_init_15 : decode cX7_init 15 = .ok (.iconst 4, 1) := by decide +kernel
theorem dX7_init_16 : decode cX7_init 16 = .ok (.if_icmp .ge 22, 3) := by decide +kernel
theorem dX7_init_19 : decode cX7_init 19 = .ok (.aload_n 0, 1) := by decide +kernel
theorem dX7_init_20 : decode cX7_init 20 = .ok (.getfield 11, 3) := by decide +kernel
theorem dX7_init_23 : decode cX7_init 23 = .ok (.iload_n 1, 1) := by decide +kernel
theorem dX7_init_24 : decode cX7_init 24 = .ok (.new 9, 3) := by decide +kernel
theorem dX7_init_27 : decode cX7_init 27 = .ok (.dup, 1) := by decide +kernel
theorem dX7_init_28 : decode cX7_init 28 = .ok (.invokespecial 15, 3) := by decide +kernel
theorem dX7_init_31 : decode cX7_init 31 = .ok (.aastore, 1) := by decide +kernel
theorem dX7_init_32 : decode cX7_init 32 = .ok (.iinc 1 1, 3) := by decide +kernel
theorem dX7_init_35 : decode cX7_init 35 = .ok (.goto (-21), 3) := by decide +kernel
theorem dX7_init_38 : decode cX7_init 38 = .ok (.aload_n 0, 1) := by decide +kernel
theorem dX7_init_39 : decode cX7_init 39 = .ok (.new 16, 3) := by decide +kernel
theorem dX7_init_42 : decode cX7_init 42 = .ok (.dup, 1) := by decide +kernel
theorem dX7_init_43 : decode cX7_init 43 = .ok (.invokespecial 18, 3) := by decide +kernel
theorem dX7_init_46 : decode cX7_init 46 = .ok (.putfield 19, 3) := by decide +kernel
theorem dX7_init_49 : decode cX7_init 49 = .ok (.aload_n 0, 1) := by decide +kernel
theorem dX7_init_50 : decode cX7_init 50 = .ok (.new 16, 3) := by decide +kernel
theorem dX7_init_53 : decode cX7_init 53 = .ok (.dup, 1) := by decide +kernel
theorem dX7_init_54 : decode cX7_init 54 = .ok (.invokespecial 18, 3) := by decide +kernel
theorem dX7_init_57 : decode cX7_init 57 = .ok (.putfield 23, 3) := by decide +kernel
theorem dX7_init_60 : decode cX7_init 60 = .ok (.aload_n 0, 1) := by decide +kernel
theorem dX7_init_61 : decode cX7_init 61 = .ok (.new 26, 3) := by decide +kernel
theorem dX7_init_64 : decode cX7_init 64 = .ok (.dup, 1) := by decide +kernel
theorem dX7_init_65 : decode cX7_init 65 = .ok (.invokespecial 28, 3) := by decide +kernel
theorem dX7_init_68 : decode cX7_init 68 = .ok (.putfield 29, 3) := by decide +kernel
theorem dX7_init_71 : decode cX7_init 71 = .ok (.aload_n 0, 1) := by decide +kernel
theorem dX7_init_72 : decode cX7_init 72 = .ok (.new 33, 3) := by decide +kernel
theorem dX7_init_75 : decode cX7_init 75 = .ok (.dup, 1) := by decide +kernel
theorem dX7_init_76 : decode cX7_init 76 = .ok (.invokespecial 35, 3) := by decide +kernel
theorem dX7_init_79 : decode cX7_init 79 = .ok (.putfield 36, 3) := by decide +kernel
theorem dX7_init_82 : decode cX7_init 82 = .ok (.aload_n 0, 1) := by decide +kernel
theorem dX7_init_83 : decode cX7_init 83 = .ok (.new 40, 3) := by decide +kernel
theorem dX7_init_86 : decode cX7_init 86 = .ok (.dup, 1) := by decide +kernel
theorem dX7_init_87 : decode cX7_init 87 = .ok (.invokespecial 42, 3) := by decide +kernel
theorem dX7_init_90 : decode cX7_init 90 = .ok (.putfield 43, 3) := by decide +kernel
theorem dX7_init_93 : decode cX7_init 93 = .ok (.aload_n 0, 1) := by decide +kernel
theorem dX7_init_94 : decode cX7_init 94 = .ok (.bipush 60, 2) := by decide +kernel
theorem dX7_init_96 : decode cX7_init 96 = .ok (.newarray .int, 2) := by decide +kernel
theorem dX7_init_98 : decode cX7_init 98 = .ok (.putfield 47, 3) := by decide +kernel
theorem dX7_init_101 : decode cX7_init 101 = .ok (.aload_n 0, 1) := by decide +kernel
theorem dX7_init_102 : decode cX7_init 102 = .ok (.iconst 1, 1) := by decide +kernel
theorem dX7_init_103 : decode cX7_init 103 = .ok (.putfield 51, 3) := by decide +kernel
theorem dX7_init_106 : decode cX7_init 106 = .ok (.return_, 1) := by decide +kernel
set_option maxRecDepth 20000 in
theorem ggX7_board_X7_isBoard : GoodIn wsX7_board wsX7_isBoard := goodIn_r _ [6] (by decide +kernel) (by decide +kernel)
set_option maxRecDepth 20000 in
theorem gX7_board_X7_isBoard : GoodIn wsX7_board (va_wsS RX7 55 yX7_isBoard wsX7_isBoard) := goodIn_app (goodIn_of _ (by decide +kernel)) ggX7_board_X7_isBoard
set_option maxRecDepth 20000 in
theorem ggX7_board_X7_finding : GoodIn wsX7_board wsX7_finding := goodIn_r _ [10, 11, 24, 25, 26, 27, 28, 29, 30, 31, 32, 33, 34, 35, 36, 37] (by decide +kernel) (by decide +kernel)
set_option maxRecDepth 20000 in
theorem gX7_board_X7_finding : GoodIn wsX7_board (wsV RX7 59 RX7 yX7_finding wsX7_finding) := goodIn_app (goodIn_of _ (by decide +kernel)) ggX7_board_X7_finding
set_option maxRecDepth 20000 in
theorem ggX7_board_X2_lay : GoodIn wsX7_board wsX2_lay := goodIn_r _ [16, 17, 18, 19, 20, 21, 22, 23, 38, 39, 40] (by decide +kernel) (by decide +kernel)
set_option maxRecDepth 20000 in
theorem gX7_board_X2_lay : GoodIn wsX7_board (wsV RX7 63 RX2 yX2_lay wsX2_lay) := goodIn_app (goodIn_of _ (by decide +kernel)) ggX7_board_X2_lay
theorem dX7_board_0 : decode cX7_board 0 = .ok (.iload_n 1, 1) := by decide +kernel
theorem dX7_board_1 : decode cX7_board 1 = .ok (.invokestatic 55, 3) := by decide +kernel
theorem dX7_board_4 : decode cX7_board 4 = .ok (.ifCond .eq 19, 3) := by decide +kernel
theorem dX7_board_7 : decode cX7_board 7 = .ok (.iload_n 2, 1) := by decide +kernel
theorem dX7_board_8 : decode cX7_board 8 = .ok (.ifCond .eq 21, 3) := by decide +kernel
theorem dX7_board_11 : decode cX7_board 11 = .ok (.iload_n 2, 1) := by decide +kernel
theorem dX7_board_12 : decode cX7_board 12 = .ok (.bipush 32, 2) := by decide +kernel
theorem dX7_board_14 : decode cX7_board 14 = .ok (.if_icmp .eq 15, 3) := by decide +kernel
theorem dX7_board_17 : decode cX7_board 17 = .ok (.iload_n 2, 1) := by decide +kernel
theorem dX7_board_18 : decode cX7_board 18 = .ok (.bipush 64, 2) := by decide +kernel
theorem dX7_board_20 : decode cX7_board 20 = .ok (.if_icmp .eq 9, 3) := by decide +kernel
theorem dX7_board_23 : decode cX7_board 23 = .ok (.aload_n 0, 1) := by decide +kernel
theorem dX7_board_24 : decode cX7_board 24 = .ok (.iconst (-1), 1) := by decide +kernel
theorem dX7_board_25 : decode cX7_board 25 = .ok (.invokevirtual 59, 3) := by decide +kernel
theorem dX7_board_28 : decode cX7_board 28 = .ok (.ireturn, 1) := by decide +kernel
theorem dX7_board_29 : decode cX7_board 29 = .ok (.iload_n 3, 1) := by decide +kernel
theorem dX7_board_30 : decode cX7_board 30 = .ok (.ifCond .ge 10, 3) := by decide +kernel
theorem dX7_board_33 : decode cX7_board 33 = .ok (.aload_n 0, 1) := by decide +kernel
theorem dX7_board_34 : decode cX7_board 34 = .ok (.bipush (-3), 2) := by decide +kernel
theorem dX7_board_36 : decode cX7_board 36 = .ok (.invokevirtual 59, 3) := by decide +kernel
theorem dX7_board_39 : decode cX7_board 39 = .ok (.ireturn, 1) := by decide +kernel
theorem dX7_board_40 : decode cX7_board 40 = .ok (.iload_n 3, 1) := by decide +kernel
theorem dX7_board_41 : decode cX7_board 41 = .ok (.bipush 24, 2) := by decide +kernel
theorem dX7_board_43 : decode cX7_board 43 = .ok (.if_icmp .le 9, 3) := by decide +kernel
theorem dX7_board_46 : decode cX7_board 46 = .ok (.aload_n 0, 1) := by decide +kernel
theorem dX7_board_47 : decode cX7_board 47 = .ok (.iconst (-1), 1) := by decide +kernel
theorem dX7_board_48 : decode cX7_board 48 = .ok (.invokevirtual 59, 3) := by decide +kernel
theorem dX7_board_51 : decode cX7_board 51 = .ok (.ireturn, 1) := by decide +kernel
theorem dX7_board_52 : decode cX7_board 52 = .ok (.aload_n 0, 1) := by decide +kernel
theorem dX7_board_53 : decode cX7_board 53 = .ok (.getfield 11, 3) := by decide +kernel
theorem dX7_board_56 : decode cX7_board 56 = .ok (.iload_n 1, 1) := by decide +kernel
theorem dX7_board_57 : decode cX7_board 57 = .ok (.aaload, 1) := by decide +kernel
theorem dX7_board_58 : decode cX7_board 58 = .ok (.iload_n 2, 1) := by decide +kernel
theorem dX7_board_59 : decode cX7_board 59 = .ok (.iload_n 2, 1) := by decide +kernel
theorem dX7_board_60 : decode cX7_board 60 = .ok (.ifCond .ne 7, 3) := by decide +kernel
theorem dX7_board_63 : decode cX7_board 63 = .ok (.iconst 0, 1) := by decide +kernel
theorem dX7_board_64 : decode cX7_board 64 = .ok (.goto 4, 3) := by decide +kernel
theorem dX7_board_67 : decode cX7_board 67 = .ok (.iload_n 3, 1) := by decide +kernel
theorem dX7_board_68 : decode cX7_board 68 = .ok (.invokevirtual 63, 3) := by decide +kernel
theorem dX7_board_71 : decode cX7_board 71 = .ok (.aload_n 0, 1) := by decide +kernel
theorem dX7_board_72 : decode cX7_board 72 = .ok (.getfield 11, 3) := by decide +kernel
theorem dX7_board_75 : decode cX7_board 75 = .ok (.iload_n 1, 1) := by decide +kernel
theorem dX7_board_76 : decode cX7_board 76 = .ok (.aaload, 1) := by decide +kernel
theorem dX7_board_77 : decode cX7_board 77 = .ok (.getfield 67, 3) := by decide +kernel
theorem dX7_board_80 : decode cX7_board 80 = .ok (.ireturn, 1) := by decide +kernel
set_option maxRecDepth 20000 in
theorem ggX7_put_X7_isBoard : GoodIn wsX7_put wsX7_isBoard := goodIn_r _ [5] (by decide +kernel) (by decide +kernel)
set_option maxRecDepth 20000 in
theorem gX7_put_X7_isBoard : GoodIn wsX7_put (va_wsS RX7 55 yX7_isBoard wsX7_isBoard) := goodIn_app (goodIn_of _ (by decide +kernel)) ggX7_put_X7_isBoard
set_option maxRecDepth 20000 in
theorem ggX7_put_X7_finding : GoodIn wsX7_put wsX7_finding := goodIn_r _ [9, 10, 27, 28, 29, 30, 31, 32, 33, 34, 35, 36, 37, 38, 39, 40] (by decide +kernel) (by decide +kernel)
set_option maxRecDepth 20000 in
theorem gX7_put_X7_finding : GoodIn wsX7_put (wsV RX7 59 RX7 yX7_finding wsX7_finding) := goodIn_app (goodIn_of _ (by decide +kernel)) ggX7_put_X7_finding
set_option maxRecDepth 20000 in
theorem ggX7_put_X2_isMissing : GoodIn wsX7_put wsX2_isMissing := goodIn_r _ [15, 16, 41, 42, 43] (by decide +kernel) (by decide +kernel)
set_option maxRecDepth 20000 in
theorem gX7_put_X2_isMissing : GoodIn wsX7_put (wsV RX7 70 RX2 yX2_isMissing wsX2_isMissing) := goodIn_app (goodIn_of _ (by decide +kernel)) ggX7_put_X2_isMissing
set_option maxRecDepth 20000 in
theorem ggX7_put_X2_has : GoodIn wsX7_put wsX2_has := goodIn_r _ [20, 21, 41, 42, 43] (by decide +kernel) (by decide +kernel)
set_option maxRecDepth 20000 in
theorem gX7_put_X2_has : GoodIn wsX7_put (wsV RX7 74 RX2 yX2_has wsX2_has) := goodIn_app (goodIn_of _ (by decide +kernel)) ggX7_put_X2_has
set_option maxRecDepth 20000 in
theorem ggX7_put_X2_write : GoodIn wsX7_put wsX2_write := goodIn_r _ [25, 26, 16, 41, 42, 43] (by decide +kernel) (by decide +kernel)
set_option maxRecDepth 20000 in
theorem gX7_put_X2_write : GoodIn wsX7_put (wsV RX7 78 RX2 yX2_write wsX2_write) := goodIn_app (goodIn_of _ (by decide +kernel)) ggX7_put_X2_write
theorem dX7_put_0 : decode cX7_put 0 = .ok (.iload_n 1, 1) := by decide +kernel
theorem dX7_put_1 : decode cX7_put 1 = .ok (.invokestatic 55, 3) := by decide +kernel
theorem dX7_put_4 : decode cX7_put 4 = .ok (.ifCond .ne 9, 3) := by decide +kernel
theorem dX7_put_7 : decode cX7_put 7 = .ok (.aload_n 0, 1) := by decide +kernel
theorem dX7_put_8 : decode cX7_put 8 = .ok (.iconst (-1), 1) := by decide +kernel
theorem dX7_put_9 : decode cX7_put 9 = .ok (.invokevirtual 59, 3) := by decide +kernel
theorem dX7_put_12 : decode cX7_put 12 = .ok (.ireturn, 1) := by decide +kernel
theorem dX7_put_13 : decode cX7_put 13 = .ok (.aload_n 0, 1) := by decide +kernel
theorem dX7_put_14 : decode cX7_put 14 = .ok (.getfield 11, 3) := by decide +kernel
theorem dX7_put_17 : decode cX7_put 17 = .ok (.iload_n 1, 1) := by decide +kernel
theorem dX7_put_18 : decode cX7_put 18 = .ok (.aaload, 1) := by decide +kernel
theorem dX7_put_19 : decode cX7_put 19 = .ok (.astore 5, 2) := by decide +kernel
theorem dX7_put_21 : decode cX7_put 21 = .ok (.aload 5, 2) := by decide +kernel
theorem dX7_put_23 : decode cX7_put 23 = .ok (.invokevirtual 70, 3) := by decide +kernel
theorem dX7_put_26 : decode cX7_put 26 = .ok (.ifCond .eq 10, 3) := by decide +kernel
theorem dX7_put_29 : decode cX7_put 29 = .ok (.aload_n 0, 1) := by decide +kernel
theorem dX7_put_30 : decode cX7_put 30 = .ok (.bipush (-2), 2) := by decide +kernel
theorem dX7_put_32 : decode cX7_put 32 = .ok (.invokevirtual 59, 3) := by decide +kernel
theorem dX7_put_35 : decode cX7_put 35 = .ok (.ireturn, 1) := by decide +kernel
theorem dX7_put_36 : decode cX7_put 36 = .ok (.aload 5, 2) := by decide +kernel
theorem dX7_put_38 : decode cX7_put 38 = .ok (.iload_n 2, 1) := by decide +kernel
theorem dX7_put_39 : decode cX7_put 39 = .ok (.iconst 1, 1) := by decide +kernel
theorem dX7_put_40 : decode cX7_put 40 = .ok (.invokevirtual 74, 3) := by decide +kernel
theorem dX7_put_43 : decode cX7_put 43 = .ok (.ifCond .ne 9, 3) := by decide +kernel
theorem dX7_put_46 : decode cX7_put 46 = .ok (.aload_n 0, 1) := by decide +kernel
theorem dX7_put_47 : decode cX7_put 47 = .ok (.iconst (-1), 1) := by decide +kernel
theorem dX7_put_48 : decode cX7_put 48 = .ok (.invokevirtual 59, 3) := by decide +kernel
theorem dX7_put_51 : decode cX7_put 51 = .ok (.ireturn, 1) := by decide +kernel
theorem dX7_put_52 : decode cX7_put 52 = .ok (.aload 5, 2) := by decide +kernel
theorem dX7_put_54 : decode cX7_put 54 = .ok (.iload_n 2, 1) := by decide +kernel
theorem dX7_put_55 : decode cX7_put 55 = .ok (.lload_n 3, 1) := by decide +kernel
theorem dX7_put_56 : decode cX7_put 56 = .ok (.invokevirtual 78, 3) := by decide +kernel
theorem dX7_put_59 : decode cX7_put 59 = .ok (.iconst 0, 1) := by decide +kernel
theorem dX7_put_60 : decode cX7_put 60 = .ok (.ireturn, 1) := by decide +kernel
set_option maxRecDepth 20000 in
theorem ggX7_copy_X7_isBoard : GoodIn wsX7_copy wsX7_isBoard := goodIn_r _ [11] (by decide +kernel) (by decide +kernel)
set_option maxRecDepth 20000 in
theorem gX7_copy_X7_isBoard : GoodIn wsX7_copy (va_wsS RX7 55 yX7_isBoard wsX7_isBoard) := goodIn_app (goodIn_of _ (by decide +kernel)) ggX7_copy_X7_isBoard
set_option maxRecDepth 20000 in
theorem ggX7_copy_X7_finding : GoodIn wsX7_copy wsX7_finding := goodIn_r _ [15, 16, 28, 29, 30, 31, 32, 33, 34, 35, 36, 37, 38, 39, 40, 41] (by decide +kernel) (by decide +kernel)
set_option maxRecDepth 20000 in
theorem gX7_copy_X7_finding : GoodIn wsX7_copy (wsV RX7 59 RX7 yX7_finding wsX7_finding) := goodIn_app (goodIn_of _ (by decide +kernel)) ggX7_copy_X7_finding
set_option maxRecDepth 20000 in
theorem ggX7_copy_X2_isMissing : GoodIn wsX7_copy wsX2_isMissing := goodIn_r _ [21, 22, 42, 43, 44] (by decide +kernel) (by decide +kernel)
set_option maxRecDepth 20000 in
theorem gX7_copy_X2_isMissing : GoodIn wsX7_copy (wsV RX7 70 RX2 yX2_isMissing wsX2_isMissing) := goodIn_app (goodIn_of _ (by decide +kernel)) ggX7_copy_X2_isMissing
set_option maxRecDepth 20000 in
theorem ggX7_copy_X2_has : GoodIn wsX7_copy wsX2_has := goodIn_r _ [26, 27, 42, 43, 44] (by decide +kernel) (by decide +kernel)
set_option maxRecDepth 20000 in
theorem gX7_copy_X2_has : GoodIn wsX7_copy (wsV RX7 74 RX2 yX2_has wsX2_has) := goodIn_app (goodIn_of _ (by decide +kernel)) ggX7_copy_X2_has
theorem dX7_copy_0 : decode cX7_copy 0 = .ok (.iload_n 1, 1) := by decide +kernel
theorem dX7_copy_1 : decode cX7_copy 1 = .ok (.invokestatic 55, 3) := by decide +kernel
theorem dX7_copy_4 : decode cX7_copy 4 = .ok (.ifCond .eq 10, 3) := by decide +kernel
theorem dX7_copy_7 : decode cX7_copy 7 = .ok (.iload_n 3, 1) := by decide +kernel
theorem dX7_copy_8 : decode cX7_copy 8 = .ok (.invokestatic 55, 3) := by decide +kernel
theorem dX7_copy_11 : decode cX7_copy 11 = .ok (.ifCond .ne 9, 3) := by decide +kernel
theorem dX7_copy_14 : decode cX7_copy 14 = .ok (.aload_n 0, 1) := by decide +kernel
theorem dX7_copy_15 : decode cX7_copy 15 = .ok (.iconst (-1), 1) := by decide +kernel
theorem dX7_copy_16 : decode cX7_copy 16 = .ok (.invokevirtual 59, 3) := by decide +kernel
theorem dX7_copy_19 : decode cX7_copy 19 = .ok (.ireturn, 1) := by decide +kernel
theorem dX7_copy_20 : decode cX7_copy 20 = .ok (.aload_n 0, 1) := by decide +kernel
theorem dX7_copy_21 : decode cX7_copy 21 = .ok (.getfield 11, 3) := by decide +kernel
theorem dX7_copy_24 : decode cX7_copy 24 = .ok (.iload_n 1, 1) := by decide +kernel
theorem dX7_copy_25 : decode cX7_copy 25 = .ok (.aaload, 1) := by decide +kernel
theorem dX7_copy_26 : decode cX7_copy 26 = .ok (.astore 6, 2) := by decide +kernel
theorem dX7_copy_28 : decode cX7_copy 28 = .ok (.aload_n 0, 1) := by decide +kernel
theorem dX7_copy_29 : decode cX7_copy 29 = .ok (.getfield 11, 3) := by decide +kernel
theorem dX7_copy_32 : decode cX7_copy 32 = .ok (.iload_n 3, 1) := by decide +kernel
theorem dX7_copy_33 : decode cX7_copy 33 = .ok (.aaload, 1) := by decide +kernel
theorem dX7_copy_34 : decode cX7_copy 34 = .ok (.astore 7, 2) := by decide +kernel
theorem dX7_copy_36 : decode cX7_copy 36 = .ok (.aload 6, 2) := by decide +kernel
theorem dX7_copy_38 : decode cX7_copy 38 = .ok (.invokevirtual 70, 3) := by decide +kernel
theorem dX7_copy_41 : decode cX7_copy 41 = .ok (.ifCond .ne 11, 3) := by decide +kernel
theorem dX7_copy_44 : decode cX7_copy 44 = .ok (.aload 7, 2) := by decide +kernel
theorem dX7_copy_46 : decode cX7_copy 46 = .ok (.invokevirtual 70, 3) := by decide +kernel
theorem dX7_copy_49 : decode cX7_copy 49 = .ok (.ifCond .eq 10, 3) := by decide +kernel
theorem dX7_copy_52 : decode cX7_copy 52 = .ok (.aload_n 0, 1) := by decide +kernel
theorem dX7_copy_53 : decode cX7_copy 53 = .ok (.bipush (-2), 2) := by decide +kernel
theorem dX7_copy_55 : decode cX7_copy 55 = .ok (.invokevirtual 59, 3) := by decide +kernel
theorem dX7_copy_58 : decode cX7_copy 58 = .ok (.ireturn, 1) := by decide +kernel
theorem dX7_copy_59 : decode cX7_copy 59 = .ok (.aload 6, 2) := by decide +kernel
theorem dX7_copy_61 : decode cX7_copy 61 = .ok (.getfield 82, 3) := by decide +kernel
theorem dX7_copy_64 : decode cX7_copy 64 = .ok (.aload 7, 2) := by decide +kernel
theorem dX7_copy_66 : decode cX7_copy 66 = .ok (.getfield 82, 3) := by decide +kernel
theorem dX7_copy_69 : decode cX7_copy 69 = .ok (.if_icmp .eq 10, 3) := by decide +kernel
theorem dX7_copy_72 : decode cX7_copy 72 = .ok (.aload_n 0, 1) := by decide +kernel
theorem dX7_copy_73 : decode cX7_copy 73 = .ok (.bipush (-4), 2) := by decide +kernel
theorem dX7_copy_75 : decode cX7_copy 75 = .ok (.invokevirtual 59, 3) := by decide +kernel
theorem dX7_copy_78 : decode cX7_copy 78 = .ok (.ireturn, 1) := by decide +kernel
theorem dX7_copy_79 : decode cX7_copy 79 = .ok (.aload 6, 2) := by decide +kernel
theorem dX7_copy_81 : decode cX7_copy 81 = .ok (.iload_n 2, 1) := by decide +kernel
theorem dX7_copy_82 : decode cX7_copy 82 = .ok (.iload 5, 2) := by decide +kernel
theorem dX7_copy_84 : decode cX7_copy 84 = .ok (.invokevirtual 74, 3) := by decide +kernel
theorem dX7_copy_87 : decode cX7_copy 87 = .ok (.ifCond .eq 15, 3) := by decide +kernel
theorem dX7_copy_90 : decode cX7_copy 90 = .ok (.aload 7, 2) := by decide +kernel
theorem dX7_copy_92 : decode cX7_copy 92 = .ok (.iload 4, 2) := by decide +kernel
theorem dX7_copy_94 : decode cX7_copy 94 = .ok (.iload 5, 2) := by decide +kernel
theorem dX7_copy_96 : decode cX7_copy 96 = .ok (.invokevirtual 74, 3) := by decide +kernel
theorem dX7_copy_99 : decode cX7_copy 99 = .ok (.ifCond .ne 9, 3) := by decide +kernel
theorem dX7_copy_102 : decode cX7_copy 102 = .ok (.aload_n 0, 1) := by decide +kernel
theorem dX7_copy_103 : decode cX7_copy 103 = .ok (.iconst (-1), 1) := by decide +kernel
theorem dX7_copy_104 : decode cX7_copy 104 = .ok (.invokevirtual 59, 3) := by decide +kernel
theorem dX7_copy_107 : decode cX7_copy 107 = .ok (.ireturn, 1) := by decide +kernel
theorem dX7_copy_108 : decode cX7_copy 108 = .ok (.aload 6, 2) := by decide +kernel
theorem dX7_copy_110 : decode cX7_copy 110 = .ok (.getfield 85, 3) := by decide +kernel
theorem dX7_copy_113 : decode cX7_copy 113 = .ok (.iload_n 2, 1) := by decide +kernel
theorem dX7_copy_114 : decode cX7_copy 114 = .ok (.aload 7, 2) := by decide +kernel
theorem dX7_copy_116 : decode cX7_copy 116 = .ok (.getfield 85, 3) := by decide +kernel
theorem dX7_copy_119 : decode cX7_copy 119 = .ok (.iload 4, 2) := by decide +kernel
theorem dX7_copy_121 : decode cX7_copy 121 = .ok (.iload 5, 2) := by decide +kernel
theorem dX7_copy_123 : decode cX7_copy 123 = .ok (.invokestatic 89, 3) := by decide +kernel
theorem dX7_copy_126 : decode cX7_copy 126 = .ok (.iload 5, 2) := by decide +kernel
theorem dX7_copy_128 : decode cX7_copy 128 = .ok (.ireturn, 1) := by decide +kernel
set_option maxRecDepth 20000 in
theorem ggX7_task_X7_isKind : GoodIn wsX7_task wsX7_isKind := goodIn_r _ [9, 2] (by decide +kernel) (by decide +kernel)
set_option maxRecDepth 20000 in
theorem gX7_task_X7_isKind : GoodIn wsX7_task (va_wsS RX7 95 yX7_isKind wsX7_isKind) := goodIn_app (goodIn_of _ (by decide +kernel)) ggX7_task_X7_isKind
set_option maxRecDepth 20000 in
theorem ggX7_task_X7_isBoard : GoodIn wsX7_task wsX7_isBoard := goodIn_r _ [12] (by decide +kernel) (by decide +kernel)
set_option maxRecDepth 20000 in
theorem gX7_task_X7_isBoard : GoodIn wsX7_task (va_wsS RX7 55 yX7_isBoard wsX7_isBoard) := goodIn_app (goodIn_of _ (by decide +kernel)) ggX7_task_X7_isBoard
set_option maxRecDepth 20000 in
theorem ggX7_task_X7_finding : GoodIn wsX7_task wsX7_finding := goodIn_r _ [16, 17, 75, 76, 77, 78, 79, 80, 81, 82, 83, 84, 85, 86, 87, 88] (by decide +kernel) (by decide +kernel)
set_option maxRecDepth 20000 in
theorem gX7_task_X7_finding : GoodIn wsX7_task (wsV RX7 59 RX7 yX7_finding wsX7_finding) := goodIn_app (goodIn_of _ (by decide +kernel)) ggX7_task_X7_finding
set_option maxRecDepth 20000 in
theorem ggX7_task_X2_isMissing : GoodIn wsX7_task wsX2_isMissing := goodIn_r _ [22, 23, 98, 99, 100] (by decide +kernel) (by decide +kernel)
set_option maxRecDepth 20000 in
theorem gX7_task_X2_isMissing : GoodIn wsX7_task (wsV RX7 70 RX2 yX2_isMissing wsX2_isMissing) := goodIn_app (goodIn_of _ (by decide +kernel)) ggX7_task_X2_isMissing
set_option maxRecDepth 20000 in
theorem ggX7_task_X2_has : GoodIn wsX7_task wsX2_has := goodIn_r _ [27, 28, 98, 99, 100] (by decide +kernel) (by decide +kernel)
set_option maxRecDepth 20000 in
theorem gX7_task_X2_has : GoodIn wsX7_task (wsV RX7 74 RX2 yX2_has wsX2_has) := goodIn_app (goodIn_of _ (by decide +kernel)) ggX7_task_X2_has
set_option maxRecDepth 20000 in
theorem ggX7_task_X2_holdsTask : GoodIn wsX7_task wsX2_holdsTask := goodIn_r _ [32, 33, 34, 35, 36, 37, 38, 21, 39, 98, 99, 100] (by decide +kernel) (by decide +kernel)
set_option maxRecDepth 20000 in
theorem gX7_task_X2_holdsTask : GoodIn wsX7_task (wsV RX7 101 RX2 yX2_holdsTask wsX2_holdsTask) := goodIn_app (goodIn_of _ (by decide +kernel)) ggX7_task_X2_holdsTask
set_option maxRecDepth 20000 in
theorem ggX7_task_X5_add : GoodIn wsX7_task wsX5_add := goodIn_r _ [44, 45, 46, 47, 48, 49, 50, 51, 52, 53, 54, 89, 90, 91, 92, 93, 94, 95, 96, 97, 98, 99, 100] (by decide +kernel) (by decide +kernel)
set_option maxRecDepth 20000 in
theorem gX7_task_X5_add : GoodIn wsX7_task (wsV RX7 107 RX5 yX5_add wsX5_add) := goodIn_app (goodIn_of _ (by decide +kernel)) ggX7_task_X5_add
set_option maxRecDepth 20000 in
theorem ggX7_task_X0_add : GoodIn wsX7_task wsX0_add := goodIn_r _ [59, 60, 61, 62, 63, 64, 65, 66, 67, 101, 102, 103, 104] (by decide +kernel) (by decide +kernel)
set_option maxRecDepth 20000 in
theorem gX7_task_X0_add : GoodIn wsX7_task (wsV RX7 111 RX0 yX0_add wsX0_add) := goodIn_app (goodIn_of _ (by decide +kernel)) ggX7_task_X0_add
set_option maxRecDepth 20000 in
theorem ggX7_task_X7_forgetPlans : GoodIn wsX7_task wsX7_forgetPlans := goodIn_r _ [71, 72, 73, 74, 75, 76, 77, 78, 79, 80, 81, 82, 83, 84, 85, 86, 87, 88, 105, 106, 107] (by decide +kernel) (by decide +kernel)
set_option maxRecDepth 20000 in
theorem gX7_task_X7_forgetPlans : GoodIn wsX7_task (wsV RX7 114 RX7 yX7_forgetPlans wsX7_forgetPlans) := goodIn_app (goodIn_of _ (by decide +kernel)) ggX7_task_X7_forgetPlans
theorem dX7_task_0 : decode cX7_task 0 = .ok (.iload_n 1, 1) := by decide +kernel
theorem dX7_task_1 : decode cX7_task 1 = .ok (.invokestatic 95, 3) := by decide +kernel
theorem dX7_task_4 : decode cX7_task 4 = .ok (.ifCond .eq 10, 3) := by decide +kernel
theorem dX7_task_7 : decode cX7_task 7 = .ok (.iload_n 2, 1) := by decide +kernel
theorem dX7_task_8 : decode cX7_task 8 = .ok (.invokestatic 55, 3) := by decide +kernel
theorem dX7_task_11 : decode cX7_task 11 = .ok (.ifCond .ne 9, 3) := by decide +kernel
theorem dX7_task_14 : decode cX7_task 14 = .ok (.aload_n 0, 1) := by decide +kernel
theorem dX7_task_15 : decode cX7_task 15 = .ok (.iconst (-1), 1) := by decide +kernel
theorem dX7_task_16 : decode cX7_task 16 = .ok (.invokevirtual 59, 3) := by decide +kernel
theorem dX7_task_19 : decode cX7_task 19 = .ok (.ireturn, 1) := by decide +kernel
theorem dX7_task_20 : decode cX7_task 20 = .ok (.aload_n 0, 1) := by decide +kernel
theorem dX7_task_21 : decode cX7_task 21 = .ok (.getfield 11, 3) := by decide +kernel
theorem dX7_task_24 : decode cX7_task 24 = .ok (.iload_n 2, 1) := by decide +kernel
theorem dX7_task_25 : decode cX7_task 25 = .ok (.aaload, 1) := by decide +kernel
theorem dX7_task_26 : decode cX7_task 26 = .ok (.astore 4, 2) := by decide +kernel
theorem dX7_task_28 : decode cX7_task 28 = .ok (.aload 4, 2) := by decide +kernel
theorem dX7_task_30 : decode cX7_task 30 = .ok (.invokevirtual 70, 3) := by decide +kernel
theorem dX7_task_33 : decode cX7_task 33 = .ok (.ifCond .eq 10, 3) := by decide +kernel
theorem dX7_task_36 : decode cX7_task 36 = .ok (.aload_n 0, 1) := by decide +kernel
theorem dX7_task_37 : decode cX7_task 37 = .ok (.bipush (-2), 2) := by decide +kernel
theorem dX7_task_39 : decode cX7_task 39 = .ok (.invokevirtual 59, 3) := by decide +kernel
theorem dX7_task_42 : decode cX7_task 42 = .ok (.ireturn, 1) := by decide +kernel
theorem dX7_task_43 : decode cX7_task 43 = .ok (.aload 4, 2) := by decide +kernel
theorem dX7_task_45 : decode cX7_task 45 = .ok (.iload_n 3, 1) := by decide +kernel
theorem dX7_task_46 : decode cX7_task 46 = .ok (.getstatic 98, 3) := by decide +kernel
theorem dX7_task_49 : decode cX7_task 49 = .ok (.iload_n 1, 1) := by decide +kernel
theorem dX7_task_50 : decode cX7_task 50 = .ok (.iaload, 1) := by decide +kernel
theorem dX7_task_51 : decode cX7_task 51 = .ok (.invokevirtual 74, 3) := by decide +kernel
theorem dX7_task_54 : decode cX7_task 54 = .ok (.ifCond .ne 9, 3) := by decide +kernel
theorem dX7_task_57 : decode cX7_task 57 = .ok (.aload_n 0, 1) := by decide +kernel
theorem dX7_task_58 : decode cX7_task 58 = .ok (.iconst (-1), 1) := by decide +kernel
theorem dX7_task_59 : decode cX7_task 59 = .ok (.invokevirtual 59, 3) := by decide +kernel
theorem dX7_task_62 : decode cX7_task 62 = .ok (.ireturn, 1) := by decide +kernel
theorem dX7_task_63 : decode cX7_task 63 = .ok (.aload 4, 2) := by decide +kernel
theorem dX7_task_65 : decode cX7_task 65 = .ok (.iload_n 1, 1) := by decide +kernel
theorem dX7_task_66 : decode cX7_task 66 = .ok (.iload_n 3, 1) := by decide +kernel
theorem dX7_task_67 : decode cX7_task 67 = .ok (.invokevirtual 101, 3) := by decide +kernel
theorem dX7_task_70 : decode cX7_task 70 = .ok (.ifCond .ne 10, 3) := by decide +kernel
theorem dX7_task_73 : decode cX7_task 73 = .ok (.aload_n 0, 1) := by decide +kernel
theorem dX7_task_74 : decode cX7_task 74 = .ok (.bipush (-3), 2) := by decide +kernel
theorem dX7_task_76 : decode cX7_task 76 = .ok (.invokevirtual 59, 3) := by decide +kernel
theorem dX7_task_79 : decode cX7_task 79 = .ok (.ireturn, 1) := by decide +kernel
theorem dX7_task_80 : decode cX7_task 80 = .ok (.aload_n 0, 1) := by decide +kernel
theorem dX7_task_81 : decode cX7_task 81 = .ok (.getfield 19, 3) := by decide +kernel
theorem dX7_task_84 : decode cX7_task 84 = .ok (.getfield 104, 3) := by decide +kernel
theorem dX7_task_87 : decode cX7_task 87 = .ok (.bipush 12, 2) := by decide +kernel
theorem dX7_task_89 : decode cX7_task 89 = .ok (.if_icmp .lt 10, 3) := by decide +kernel
theorem dX7_task_92 : decode cX7_task 92 = .ok (.aload_n 0, 1) := by decide +kernel
theorem dX7_task_93 : decode cX7_task 93 = .ok (.bipush (-5), 2) := by decide +kernel
theorem dX7_task_95 : decode cX7_task 95 = .ok (.invokevirtual 59, 3) := by decide +kernel
theorem dX7_task_98 : decode cX7_task 98 = .ok (.ireturn, 1) := by decide +kernel
theorem dX7_task_99 : decode cX7_task 99 = .ok (.aload_n 0, 1) := by decide +kernel
theorem dX7_task_100 : decode cX7_task 100 = .ok (.getfield 19, 3) := by decide +kernel
theorem dX7_task_103 : decode cX7_task 103 = .ok (.iload_n 1, 1) := by decide +kernel
theorem dX7_task_104 : decode cX7_task 104 = .ok (.aload 4, 2) := by decide +kernel
theorem dX7_task_106 : decode cX7_task 106 = .ok (.iload_n 3, 1) := by decide +kernel
theorem dX7_task_107 : decode cX7_task 107 = .ok (.invokevirtual 107, 3) := by decide +kernel
theorem dX7_task_110 : decode cX7_task 110 = .ok (.istore 5, 2) := by decide +kernel
theorem dX7_task_112 : decode cX7_task 112 = .ok (.aload_n 0, 1) := by decide +kernel
theorem dX7_task_113 : decode cX7_task 113 = .ok (.getfield 29, 3) := by decide +kernel
theorem dX7_task_116 : decode cX7_task 116 = .ok (.iconst 0, 1) := by decide +kernel
theorem dX7_task_117 : decode cX7_task 117 = .ok (.iload 5, 2) := by decide +kernel
theorem dX7_task_119 : decode cX7_task 119 = .ok (.iconst 0, 1) := by decide +kernel
theorem dX7_task_120 : decode cX7_task 120 = .ok (.invokevirtual 111, 3) := by decide +kernel
theorem dX7_task_123 : decode cX7_task 123 = .ok (.aload_n 0, 1) := by decide +kernel
theorem dX7_task_124 : decode cX7_task 124 = .ok (.invokevirtual 114, 3) := by decide +kernel
theorem dX7_task_127 : decode cX7_task 127 = .ok (.iload 5, 2) := by decide +kernel
theorem dX7_task_129 : decode cX7_task 129 = .ok (.ireturn, 1) := by decide +kernel
set_option maxRecDepth 20000 in
theorem ggX7_after_X5_has : GoodIn wsX7_after wsX5_has := goodIn_r _ [8, 9, 73, 74, 75, 76, 77, 78, 79, 80, 81] (by decide +kernel) (by decide +kernel)
set_option maxRecDepth 20000 in
theorem gX7_after_X5_has : GoodIn wsX7_after (wsV RX7 117 RX5 yX5_has wsX5_has) := goodIn_app (goodIn_of _ (by decide +kernel)) ggX7_after_X5_has
set_option maxRecDepth 20000 in
theorem ggX7_after_X7_finding : GoodIn wsX7_after wsX7_finding := goodIn_r _ [14, 15, 59, 60, 61, 62, 63, 64, 65, 66, 67, 68, 69, 70, 71, 72] (by decide +kernel) (by decide +kernel)
set_option maxRecDepth 20000 in
theorem gX7_after_X7_finding : GoodIn wsX7_after (wsV RX7 59 RX7 yX7_finding wsX7_finding) := goodIn_app (goodIn_of _ (by decide +kernel)) ggX7_after_X7_finding
set_option maxRecDepth 20000 in
theorem ggX7_after_X5_ringOf : GoodIn wsX7_after wsX5_ringOf := goodIn_r _ [19, 9, 20, 21, 22, 7, 23, 24, 25, 13, 26, 73, 74, 75, 76, 77, 78, 79, 80, 81] (by decide +kernel) (by decide +kernel)
set_option maxRecDepth 20000 in
theorem gX7_after_X5_ringOf : GoodIn wsX7_after (wsV RX7 119 RX5 yX5_ringOf wsX5_ringOf) := goodIn_app (goodIn_of _ (by decide +kernel)) ggX7_after_X5_ringOf
set_option maxRecDepth 20000 in
theorem ggX7_after_X7_changeBefore : GoodIn wsX7_after wsX7_changeBefore := goodIn_r _ [30, 31, 1, 3, 32, 33, 34, 35, 36, 37, 38, 39, 40, 41, 42, 43, 44, 45, 46, 47, 13, 48, 49, 50, 51, 52, 53, 54, 55, 56, 57, 58, 59, 60, 61, 62, 63, 64, 65, 66, 67, 68, 69, 70, 71, 72, 73, 74, 75, 76, 77, 78, 79, 80, 81, 82, 83, 84, 85, 86, 87, 88] (by decide +kernel) (by decide +kernel)
set_option maxRecDepth 20000 in
theorem gX7_after_X7_changeBefore : GoodIn wsX7_after (wsV RX7 129 RX7 yX7_changeBefore wsX7_changeBefore) := goodIn_app (goodIn_of _ (by decide +kernel)) ggX7_after_X7_changeBefore
theorem dX7_after_0 : decode cX7_after 0 = .ok (.aload_n 0, 1) := by decide +kernel
theorem dX7_after_1 : decode cX7_after 1 = .ok (.getfield 19, 3) := by decide +kernel
theorem dX7_after_4 : decode cX7_after 4 = .ok (.iload_n 1, 1) := by decide +kernel
theorem dX7_after_5 : decode cX7_after 5 = .ok (.invokevirtual 117, 3) := by decide +kernel
theorem dX7_after_8 : decode cX7_after 8 = .ok (.ifCond .eq 14, 3) := by decide +kernel
theorem dX7_after_11 : decode cX7_after 11 = .ok (.aload_n 0, 1) := by decide +kernel
theorem dX7_after_12 : decode cX7_after 12 = .ok (.getfield 19, 3) := by decide +kernel
theorem dX7_after_15 : decode cX7_after 15 = .ok (.iload_n 2, 1) := by decide +kernel
theorem dX7_after_16 : decode cX7_after 16 = .ok (.invokevirtual 117, 3) := by decide +kernel
theorem dX7_after_19 : decode cX7_after 19 = .ok (.ifCond .ne 9, 3) := by decide +kernel
theorem dX7_after_22 : decode cX7_after 22 = .ok (.aload_n 0, 1) := by decide +kernel
theorem dX7_after_23 : decode cX7_after 23 = .ok (.iconst (-1), 1) := by decide +kernel
theorem dX7_after_24 : decode cX7_after 24 = .ok (.invokevirtual 59, 3) := by decide +kernel
theorem dX7_after_27 : decode cX7_after 27 = .ok (.ireturn, 1) := by decide +kernel
theorem dX7_after_28 : decode cX7_after 28 = .ok (.aload_n 0, 1) := by decide +kernel
theorem dX7_after_29 : decode cX7_after 29 = .ok (.getfield 19, 3) := by decide +kernel
theorem dX7_after_32 : decode cX7_after 32 = .ok (.iload_n 1, 1) := by decide +kernel
theorem dX7_after_33 : decode cX7_after 33 = .ok (.iload_n 2, 1) := by decide +kernel
theorem dX7_after_34 : decode cX7_after 34 = .ok (.invokevirtual 119, 3) := by decide +kernel
theorem dX7_after_37 : decode cX7_after 37 = .ok (.istore_n 3, 1) := by decide +kernel
theorem dX7_after_38 : decode cX7_after 38 = .ok (.iload_n 3, 1) := by decide +kernel
theorem dX7_after_39 : decode cX7_after 39 = .ok (.ifCond .eq 15, 3) := by decide +kernel
theorem dX7_after_42 : decode cX7_after 42 = .ok (.aload_n 0, 1) := by decide +kernel
theorem dX7_after_43 : decode cX7_after 43 = .ok (.iload_n 3, 1) := by decide +kernel
theorem dX7_after_44 : decode cX7_after 44 = .ok (.putfield 123, 3) := by decide +kernel
theorem dX7_after_47 : decode cX7_after 47 = .ok (.aload_n 0, 1) := by decide +kernel
theorem dX7_after_48 : decode cX7_after 48 = .ok (.bipush (-6), 2) := by decide +kernel
theorem dX7_after_50 : decode cX7_after 50 = .ok (.invokevirtual 59, 3) := by decide +kernel
theorem dX7_after_53 : decode cX7_after 53 = .ok (.ireturn, 1) := by decide +kernel
theorem dX7_after_54 : decode cX7_after 54 = .ok (.aload_n 0, 1) := by decide +kernel
theorem dX7_after_55 : decode cX7_after 55 = .ok (.iload_n 1, 1) := by decide +kernel
theorem dX7_after_56 : decode cX7_after 56 = .ok (.aload_n 0, 1) := by decide +kernel
theorem dX7_after_57 : decode cX7_after 57 = .ok (.getfield 19, 3) := by decide +kernel
theorem dX7_after_60 : decode cX7_after 60 = .ok (.getfield 126, 3) := by decide +kernel
theorem dX7_after_63 : decode cX7_after 63 = .ok (.iload_n 1, 1) := by decide +kernel
theorem dX7_after_64 : decode cX7_after 64 = .ok (.iaload, 1) := by decide +kernel
theorem dX7_after_65 : decode cX7_after 65 = .ok (.iconst 1, 1) := by decide +kernel
theorem dX7_after_66 : decode cX7_after 66 = .ok (.iload_n 2, 1) := by decide +kernel
theorem dX7_after_67 : decode cX7_after 67 = .ok (.ishl, 1) := by decide +kernel
theorem dX7_after_68 : decode cX7_after 68 = .ok (.ior, 1) := by decide +kernel
theorem dX7_after_69 : decode cX7_after 69 = .ok (.invokevirtual 129, 3) := by decide +kernel
theorem dX7_after_72 : decode cX7_after 72 = .ok (.ireturn, 1) := by decide +kernel
set_option maxRecDepth 20000 in
theorem ggX7_away_X5_has : GoodIn wsX7_away wsX5_has := goodIn_r _ [7, 8, 64, 65, 66, 67, 68, 69, 70, 71, 72] (by decide +kernel) (by decide +kernel)
set_option maxRecDepth 20000 in
theorem gX7_away_X5_has : GoodIn wsX7_away (wsV RX7 117 RX5 yX5_has wsX5_has) := goodIn_app (goodIn_of _ (by decide +kernel)) ggX7_away_X5_has
set_option maxRecDepth 20000 in
theorem ggX7_away_X7_finding : GoodIn wsX7_away wsX7_finding := goodIn_r _ [13, 14, 50, 51, 52, 53, 54, 55, 56, 57, 58, 59, 60, 61, 62, 63] (by decide +kernel) (by decide +kernel)
set_option maxRecDepth 20000 in
theorem gX7_away_X7_finding : GoodIn wsX7_away (wsV RX7 59 RX7 yX7_finding wsX7_finding) := goodIn_app (goodIn_of _ (by decide +kernel)) ggX7_away_X7_finding
set_option maxRecDepth 20000 in
theorem ggX7_away_X7_hasBit : GoodIn wsX7_away wsX7_hasBit := goodIn_r _ [17] (by decide +kernel) (by decide +kernel)
set_option maxRecDepth 20000 in
theorem gX7_away_X7_hasBit : GoodIn wsX7_away (va_wsS RX7 132 yX7_hasBit wsX7_hasBit) := goodIn_app (goodIn_of _ (by decide +kernel)) ggX7_away_X7_hasBit
set_option maxRecDepth 20000 in
theorem ggX7_away_X7_changeBefore : GoodIn wsX7_away wsX7_changeBefore := goodIn_r _ [21, 22, 1, 2, 23, 24, 25, 26, 27, 28, 29, 30, 31, 32, 33, 34, 35, 36, 37, 38, 12, 39, 40, 41, 42, 43, 44, 45, 46, 47, 48, 49, 50, 51, 52, 53, 54, 55, 56, 57, 58, 59, 60, 61, 62, 63, 64, 65, 66, 67, 68, 69, 70, 71, 72, 73, 74, 75, 76, 77, 78, 79] (by decide +kernel) (by decide +kernel)
set_option maxRecDepth 20000 in
theorem gX7_away_X7_changeBefore : GoodIn wsX7_away (wsV RX7 129 RX7 yX7_changeBefore wsX7_changeBefore) := goodIn_app (goodIn_of _ (by decide +kernel)) ggX7_away_X7_changeBefore
theorem dX7_away_0 : decode cX7_away 0 = .ok (.aload_n 0, 1) := by decide +kernel
theorem dX7_away_1 : decode cX7_away 1 = .ok (.getfield 19, 3) := by decide +kernel
theorem dX7_away_4 : decode cX7_away 4 = .ok (.iload_n 1, 1) := by decide +kernel
theorem dX7_away_5 : decode cX7_away 5 = .ok (.invokevirtual 117, 3) := by decide +kernel
theorem dX7_away_8 : decode cX7_away 8 = .ok (.ifCond .eq 14, 3) := by decide +kernel
theorem dX7_away_11 : decode cX7_away 11 = .ok (.aload_n 0, 1) := by decide +kernel
theorem dX7_away_12 : decode cX7_away 12 = .ok (.getfield 19, 3) := by decide +kernel
theorem dX7_away_15 : decode cX7_away 15 = .ok (.iload_n 2, 1) := by decide +kernel
theorem dX7_away_16 : decode cX7_away 16 = .ok (.invokevirtual 117, 3) := by decide +kernel
theorem dX7_away_19 : decode cX7_away 19 = .ok (.ifCond .ne 9, 3) := by decide +kernel
theorem dX7_away_22 : decode cX7_away 22 = .ok (.aload_n 0, 1) := by decide +kernel
theorem dX7_away_23 : decode cX7_away 23 = .ok (.iconst (-1), 1) := by decide +kernel
theorem dX7_away_24 : decode cX7_away 24 = .ok (.invokevirtual 59, 3) := by decide +kernel
theorem dX7_away_27 : decode cX7_away 27 = .ok (.ireturn, 1) := by decide +kernel
theorem dX7_away_28 : decode cX7_away 28 = .ok (.aload_n 0, 1) := by decide +kernel
theorem dX7_away_29 : decode cX7_away 29 = .ok (.getfield 19, 3) := by decide +kernel
theorem dX7_away_32 : decode cX7_away 32 = .ok (.getfield 126, 3) := by decide +kernel
theorem dX7_away_35 : decode cX7_away 35 = .ok (.iload_n 1, 1) := by decide +kernel
theorem dX7_away_36 : decode cX7_away 36 = .ok (.iaload, 1) := by decide +kernel
theorem dX7_away_37 : decode cX7_away 37 = .ok (.iload_n 2, 1) := by decide +kernel
theorem dX7_away_38 : decode cX7_away 38 = .ok (.invokestatic 132, 3) := by decide +kernel
theorem dX7_away_41 : decode cX7_away 41 = .ok (.ifCond .ne 10, 3) := by decide +kernel
theorem dX7_away_44 : decode cX7_away 44 = .ok (.aload_n 0, 1) := by decide +kernel
theorem dX7_away_45 : decode cX7_away 45 = .ok (.bipush (-7), 2) := by decide +kernel
theorem dX7_away_47 : decode cX7_away 47 = .ok (.invokevirtual 59, 3) := by decide +kernel
theorem dX7_away_50 : decode cX7_away 50 = .ok (.ireturn, 1) := by decide +kernel
theorem dX7_away_51 : decode cX7_away 51 = .ok (.aload_n 0, 1) := by decide +kernel
theorem dX7_away_52 : decode cX7_away 52 = .ok (.iload_n 1, 1) := by decide +kernel
theorem dX7_away_53 : decode cX7_away 53 = .ok (.aload_n 0, 1) := by decide +kernel
theorem dX7_away_54 : decode cX7_away 54 = .ok (.getfield 19, 3) := by decide +kernel
theorem dX7_away_57 : decode cX7_away 57 = .ok (.getfield 126, 3) := by decide +kernel
theorem dX7_away_60 : decode cX7_away 60 = .ok (.iload_n 1, 1) := by decide +kernel
theorem dX7_away_61 : decode cX7_away 61 = .ok (.iaload, 1) := by decide +kernel
theorem dX7_away_62 : decode cX7_away 62 = .ok (.iconst 1, 1) := by decide +kernel
theorem dX7_away_63 : decode cX7_away 63 = .ok (.iload_n 2, 1) := by decide +kernel
theorem dX7_away_64 : decode cX7_away 64 = .ok (.ishl, 1) := by decide +kernel
theorem dX7_away_65 : decode cX7_away 65 = .ok (.iconst (-1), 1) := by decide +kernel
theorem dX7_away_66 : decode cX7_away 66 = .ok (.ixor, 1) := by decide +kernel
theorem dX7_away_67 : decode cX7_away 67 = .ok (.iand, 1) := by decide +kernel
theorem dX7_away_68 : decode cX7_away 68 = .ok (.invokevirtual 129, 3) := by decide +kernel
theorem dX7_away_71 : decode cX7_away 71 = .ok (.ireturn, 1) := by decide +kernel
set_option maxRecDepth 20000 in
theorem ggX7_as_X5_has : GoodIn wsX7_as wsX5_has := goodIn_r _ [7, 8, 37, 38, 39, 40, 41, 42, 43, 44, 45] (by decide +kernel) (by decide +kernel)
set_option maxRecDepth 20000 in
theorem gX7_as_X5_has : GoodIn wsX7_as (wsV RX7 117 RX5 yX5_has wsX5_has) := goodIn_app (goodIn_of _ (by decide +kernel)) ggX7_as_X5_has
set_option maxRecDepth 20000 in
theorem ggX7_as_X7_isKind : GoodIn wsX7_as wsX7_isKind := goodIn_r _ [12, 13] (by decide +kernel) (by decide +kernel)
set_option maxRecDepth 20000 in
theorem gX7_as_X7_isKind : GoodIn wsX7_as (va_wsS RX7 95 yX7_isKind wsX7_isKind) := goodIn_app (goodIn_of _ (by decide +kernel)) ggX7_as_X7_isKind
set_option maxRecDepth 20000 in
theorem ggX7_as_X7_finding : GoodIn wsX7_as wsX7_finding := goodIn_r _ [17, 18, 23, 24, 25, 26, 27, 28, 29, 30, 31, 32, 33, 34, 35, 36] (by decide +kernel) (by decide +kernel)
set_option maxRecDepth 20000 in
theorem gX7_as_X7_finding : GoodIn wsX7_as (wsV RX7 59 RX7 yX7_finding wsX7_finding) := goodIn_app (goodIn_of _ (by decide +kernel)) ggX7_as_X7_finding
set_option maxRecDepth 20000 in
theorem ggX7_as_X7_isUnder : GoodIn wsX7_as wsX7_isUnder := goodIn_r _ [21, 22, 9, 10, 11, 12, 13] (by decide +kernel) (by decide +kernel)
set_option maxRecDepth 20000 in
theorem gX7_as_X7_isUnder : GoodIn wsX7_as (va_wsS RX7 138 yX7_isUnder wsX7_isUnder) := goodIn_app (goodIn_of _ (by decide +kernel)) ggX7_as_X7_isUnder
theorem dX7_as_0 : decode cX7_as 0 = .ok (.aload_n 0, 1) := by decide +kernel
theorem dX7_as_1 : decode cX7_as 1 = .ok (.getfield 19, 3) := by decide +kernel
theorem dX7_as_4 : decode cX7_as 4 = .ok (.iload_n 1, 1) := by decide +kernel
theorem dX7_as_5 : decode cX7_as 5 = .ok (.invokevirtual 117, 3) := by decide +kernel
theorem dX7_as_8 : decode cX7_as 8 = .ok (.ifCond .eq 10, 3) := by decide +kernel
theorem dX7_as_11 : decode cX7_as 11 = .ok (.iload_n 2, 1) := by decide +kernel
theorem dX7_as_12 : decode cX7_as 12 = .ok (.invokestatic 95, 3) := by decide +kernel
theorem dX7_as_15 : decode cX7_as 15 = .ok (.ifCond .ne 9, 3) := by decide +kernel
theorem dX7_as_18 : decode cX7_as 18 = .ok (.aload_n 0, 1) := by decide +kernel
theorem dX7_as_19 : decode cX7_as 19 = .ok (.iconst (-1), 1) := by decide +kernel
theorem dX7_as_20 : decode cX7_as 20 = .ok (.invokevirtual 59, 3) := by decide +kernel
theorem dX7_as_23 : decode cX7_as 23 = .ok (.ireturn, 1) := by decide +kernel
theorem dX7_as_24 : decode cX7_as 24 = .ok (.aload_n 0, 1) := by decide +kernel
theorem dX7_as_25 : decode cX7_as 25 = .ok (.getfield 19, 3) := by decide +kernel
theorem dX7_as_28 : decode cX7_as 28 = .ok (.getfield 135, 3) := by decide +kernel
theorem dX7_as_31 : decode cX7_as 31 = .ok (.iload_n 1, 1) := by decide +kernel
theorem dX7_as_32 : decode cX7_as 32 = .ok (.iaload, 1) := by decide +kernel
theorem dX7_as_33 : decode cX7_as 33 = .ok (.iload_n 2, 1) := by decide +kernel
theorem dX7_as_34 : decode cX7_as 34 = .ok (.invokestatic 138, 3) := by decide +kernel
theorem dX7_as_37 : decode cX7_as 37 = .ok (.ifCond .eq 7, 3) := by decide +kernel
theorem dX7_as_40 : decode cX7_as 40 = .ok (.iload_n 1, 1) := by decide +kernel
theorem dX7_as_41 : decode cX7_as 41 = .ok (.goto 9, 3) := by decide +kernel
theorem dX7_as_44 : decode cX7_as 44 = .ok (.aload_n 0, 1) := by decide +kernel
theorem dX7_as_45 : decode cX7_as 45 = .ok (.bipush (-4), 2) := by decide +kernel
theorem dX7_as_47 : decode cX7_as 47 = .ok (.invokevirtual 59, 3) := by decide +kernel
theorem dX7_as_50 : decode cX7_as 50 = .ok (.ireturn, 1) := by decide +kernel
set_option maxRecDepth 20000 in
theorem ggX7_ask_X5_has : GoodIn wsX7_ask wsX5_has := goodIn_r _ [12, 13, 34, 35, 36, 37, 38, 39, 40, 41, 42] (by decide +kernel) (by decide +kernel)
set_option maxRecDepth 20000 in
theorem gX7_ask_X5_has : GoodIn wsX7_ask (wsV RX7 117 RX5 yX5_has wsX5_has) := goodIn_app (goodIn_of _ (by decide +kernel)) ggX7_ask_X5_has
set_option maxRecDepth 20000 in
theorem ggX7_ask_X7_finding : GoodIn wsX7_ask wsX7_finding := goodIn_r _ [18, 19, 20, 21, 22, 23, 24, 25, 26, 27, 28, 29, 30, 31, 32, 33] (by decide +kernel) (by decide +kernel)
set_option maxRecDepth 20000 in
theorem gX7_ask_X7_finding : GoodIn wsX7_ask (wsV RX7 59 RX7 yX7_finding wsX7_finding) := goodIn_app (goodIn_of _ (by decide +kernel)) ggX7_ask_X7_finding
theorem dX7_ask_0 : decode cX7_ask 0 = .ok (.aload_n 0, 1) := by decide +kernel
theorem dX7_ask_1 : decode cX7_ask 1 = .ok (.getfield 19, 3) := by decide +kernel
theorem dX7_ask_4 : decode cX7_ask 4 = .ok (.iload_n 1, 1) := by decide +kernel
theorem dX7_ask_5 : decode cX7_ask 5 = .ok (.invokevirtual 117, 3) := by decide +kernel
theorem dX7_ask_8 : decode cX7_ask 8 = .ok (.ifCond .ne 9, 3) := by decide +kernel
theorem dX7_ask_11 : decode cX7_ask 11 = .ok (.aload_n 0, 1) := by decide +kernel
theorem dX7_ask_12 : decode cX7_ask 12 = .ok (.iconst (-1), 1) := by decide +kernel
theorem dX7_ask_13 : decode cX7_ask 13 = .ok (.invokevirtual 59, 3) := by decide +kernel
theorem dX7_ask_16 : decode cX7_ask 16 = .ok (.ireturn, 1) := by decide +kernel
theorem dX7_ask_17 : decode cX7_ask 17 = .ok (.iload_n 2, 1) := by decide +kernel
theorem dX7_ask_18 : decode cX7_ask 18 = .ok (.tableswitch 98 0 5 #[38, 48, 58, 68, 78, 88], 38) := by decide +kernel
theorem dX7_ask_56 : decode cX7_ask 56 = .ok (.aload_n 0, 1) := by decide +kernel
theorem dX7_ask_57 : decode cX7_ask 57 = .ok (.getfield 19, 3) := by decide +kernel
theorem dX7_ask_60 : decode cX7_ask 60 = .ok (.getfield 135, 3) := by decide +kernel
theorem dX7_ask_63 : decode cX7_ask 63 = .ok (.iload_n 1, 1) := by decide +kernel
theorem dX7_ask_64 : decode cX7_ask 64 = .ok (.iaload, 1) := by decide +kernel
theorem dX7_ask_65 : decode cX7_ask 65 = .ok (.ireturn, 1) := by decide +kernel
theorem dX7_ask_66 : decode cX7_ask 66 = .ok (.aload_n 0, 1) := by decide +kernel
theorem dX7_ask_67 : decode cX7_ask 67 = .ok (.getfield 19, 3) := by decide +kernel
theorem dX7_ask_70 : decode cX7_ask 70 = .ok (.getfield 141, 3) := by decide +kernel
theorem dX7_ask_73 : decode cX7_ask 73 = .ok (.iload_n 1, 1) := by decide +kernel
theorem dX7_ask_74 : decode cX7_ask 74 = .ok (.iaload, 1) := by decide +kernel
theorem dX7_ask_75 : decode cX7_ask 75 = .ok (.ireturn, 1) := by decide +kernel
theorem dX7_ask_76 : decode cX7_ask 76 = .ok (.aload_n 0, 1) := by decide +kernel
theorem dX7_ask_77 : decode cX7_ask 77 = .ok (.getfield 19, 3) := by decide +kernel
theorem dX7_ask_80 : decode cX7_ask 80 = .ok (.getfield 144, 3) := by decide +kernel
theorem dX7_ask_83 : decode cX7_ask 83 = .ok (.iload_n 1, 1) := by decide +kernel
theorem dX7_ask_84 : decode cX7_ask 84 = .ok (.iaload, 1) := by decide +kernel
theorem dX7_ask_85 : decode cX7_ask 85 = .ok (.ireturn, 1) := by decide +kernel
theorem dX7_ask_86 : decode cX7_ask 86 = .ok (.aload_n 0, 1) := by decide +kernel
theorem dX7_ask_87 : decode cX7_ask 87 = .ok (.getfield 19, 3) := by decide +kernel
theorem dX7_ask_90 : decode cX7_ask 90 = .ok (.getfield 147, 3) := by decide +kernel
theorem dX7_ask_93 : decode cX7_ask 93 = .ok (.iload_n 1, 1) := by decide +kernel
theorem dX7_ask_94 : decode cX7_ask 94 = .ok (.iaload, 1) := by decide +kernel
theorem dX7_ask_95 : decode cX7_ask 95 = .ok (.ireturn, 1) := by decide +kernel
theorem dX7_ask_96 : decode cX7_ask 96 = .ok (.aload_n 0, 1) := by decide +kernel
theorem dX7_ask_97 : decode cX7_ask 97 = .ok (.getfield 19, 3) := by decide +kernel
theorem dX7_ask_100 : decode cX7_ask 100 = .ok (.getfield 150, 3) := by decide +kernel
theorem dX7_ask_103 : decode cX7_ask 103 = .ok (.iload_n 1, 1) := by decide +kernel
theorem dX7_ask_104 : decode cX7_ask 104 = .ok (.iaload, 1) := by decide +kernel
theorem dX7_ask_105 : decode cX7_ask 105 = .ok (.ireturn, 1) := by decide +kernel
theorem dX7_ask_106 : decode cX7_ask 106 = .ok (.aload_n 0, 1) := by decide +kernel
theorem dX7_ask_107 : decode cX7_ask 107 = .ok (.getfield 19, 3) := by decide +kernel
theorem dX7_ask_110 : decode cX7_ask 110 = .ok (.getfield 153, 3) := by decide +kernel
theorem dX7_ask_113 : decode cX7_ask 113 = .ok (.iload_n 1, 1) := by decide +kernel
theorem dX7_ask_114 : decode cX7_ask 114 = .ok (.iaload, 1) := by decide +kernel
theorem dX7_ask_115 : decode cX7_ask 115 = .ok (.ireturn, 1) := by decide +kernel
theorem dX7_ask_116 : decode cX7_ask 116 = .ok (.aload_n 0, 1) := by decide +kernel
theorem dX7_ask_117 : decode cX7_ask 117 = .ok (.iconst (-1), 1) := by decide +kernel
theorem dX7_ask_118 : decode cX7_ask 118 = .ok (.invokevirtual 59, 3) := by decide +kernel
theorem dX7_ask_121 : decode cX7_ask 121 = .ok (.ireturn, 1) := by decide +kernel
set_option maxRecDepth 20000 in
theorem ggX7_follows_X5_has : GoodIn wsX7_follows wsX5_has := goodIn_r _ [7, 8, 37, 38, 39, 40, 41, 42, 43, 44, 45] (by decide +kernel) (by decide +kernel)
set_option maxRecDepth 20000 in
theorem gX7_follows_X5_has : GoodIn wsX7_follows (wsV RX7 117 RX5 yX5_has wsX5_has) := goodIn_app (goodIn_of _ (by decide +kernel)) ggX7_follows_X5_has
set_option maxRecDepth 20000 in
theorem ggX7_follows_X7_finding : GoodIn wsX7_follows wsX7_finding := goodIn_r _ [13, 14, 23, 24, 25, 26, 27, 28, 29, 30, 31, 32, 33, 34, 35, 36] (by decide +kernel) (by decide +kernel)
set_option maxRecDepth 20000 in
theorem gX7_follows_X7_finding : GoodIn wsX7_follows (wsV RX7 59 RX7 yX7_finding wsX7_finding) := goodIn_app (goodIn_of _ (by decide +kernel)) ggX7_follows_X7_finding
set_option maxRecDepth 20000 in
theorem ggX7_follows_X7_hasBit : GoodIn wsX7_follows wsX7_hasBit := goodIn_r _ [17] (by decide +kernel) (by decide +kernel)
set_option maxRecDepth 20000 in
theorem gX7_follows_X7_hasBit : GoodIn wsX7_follows (va_wsS RX7 132 yX7_hasBit wsX7_hasBit) := goodIn_app (goodIn_of _ (by decide +kernel)) ggX7_follows_X7_hasBit
set_option maxRecDepth 20000 in
theorem ggX7_follows_X5_allBefore : GoodIn wsX7_follows wsX5_allBefore := goodIn_r _ [21, 22, 8, 16, 12, 17, 37, 38, 39, 40, 41, 42, 43, 44, 45] (by decide +kernel) (by decide +kernel)
set_option maxRecDepth 20000 in
theorem gX7_follows_X5_allBefore : GoodIn wsX7_follows (wsV RX7 156 RX5 yX5_allBefore wsX5_allBefore) := goodIn_app (goodIn_of _ (by decide +kernel)) ggX7_follows_X5_allBefore
theorem dX7_follows_0 : decode cX7_follows 0 = .ok (.aload_n 0, 1) := by decide +kernel
theorem dX7_follows_1 : decode cX7_follows 1 = .ok (.getfield 19, 3) := by decide +kernel
theorem dX7_follows_4 : decode cX7_follows 4 = .ok (.iload_n 1, 1) := by decide +kernel
theorem dX7_follows_5 : decode cX7_follows 5 = .ok (.invokevirtual 117, 3) := by decide +kernel
theorem dX7_follows_8 : decode cX7_follows 8 = .ok (.ifCond .eq 14, 3) := by decide +kernel
theorem dX7_follows_11 : decode cX7_follows 11 = .ok (.aload_n 0, 1) := by decide +kernel
theorem dX7_follows_12 : decode cX7_follows 12 = .ok (.getfield 19, 3) := by decide +kernel
theorem dX7_follows_15 : decode cX7_follows 15 = .ok (.iload_n 2, 1) := by decide +kernel
theorem dX7_follows_16 : decode cX7_follows 16 = .ok (.invokevirtual 117, 3) := by decide +kernel
theorem dX7_follows_19 : decode cX7_follows 19 = .ok (.ifCond .ne 9, 3) := by decide +kernel
theorem dX7_follows_22 : decode cX7_follows 22 = .ok (.aload_n 0, 1) := by decide +kernel
theorem dX7_follows_23 : decode cX7_follows 23 = .ok (.iconst (-1), 1) := by decide +kernel
theorem dX7_follows_24 : decode cX7_follows 24 = .ok (.invokevirtual 59, 3) := by decide +kernel
theorem dX7_follows_27 : decode cX7_follows 27 = .ok (.ireturn, 1) := by decide +kernel
theorem dX7_follows_28 : decode cX7_follows 28 = .ok (.aload_n 0, 1) := by decide +kernel
theorem dX7_follows_29 : decode cX7_follows 29 = .ok (.getfield 19, 3) := by decide +kernel
theorem dX7_follows_32 : decode cX7_follows 32 = .ok (.getfield 126, 3) := by decide +kernel
theorem dX7_follows_35 : decode cX7_follows 35 = .ok (.iload_n 1, 1) := by decide +kernel
theorem dX7_follows_36 : decode cX7_follows 36 = .ok (.iaload, 1) := by decide +kernel
theorem dX7_follows_37 : decode cX7_follows 37 = .ok (.iload_n 2, 1) := by decide +kernel
theorem dX7_follows_38 : decode cX7_follows 38 = .ok (.invokestatic 132, 3) := by decide +kernel
theorem dX7_follows_41 : decode cX7_follows 41 = .ok (.ifCond .eq 5, 3) := by decide +kernel
theorem dX7_follows_44 : decode cX7_follows 44 = .ok (.iconst 1, 1) := by decide +kernel
theorem dX7_follows_45 : decode cX7_follows 45 = .ok (.ireturn, 1) := by decide +kernel
theorem dX7_follows_46 : decode cX7_follows 46 = .ok (.aload_n 0, 1) := by decide +kernel
theorem dX7_follows_47 : decode cX7_follows 47 = .ok (.getfield 19, 3) := by decide +kernel
theorem dX7_follows_50 : decode cX7_follows 50 = .ok (.iload_n 1, 1) := by decide +kernel
theorem dX7_follows_51 : decode cX7_follows 51 = .ok (.invokevirtual 156, 3) := by decide +kernel
theorem dX7_follows_54 : decode cX7_follows 54 = .ok (.iload_n 2, 1) := by decide +kernel
theorem dX7_follows_55 : decode cX7_follows 55 = .ok (.invokestatic 132, 3) := by decide +kernel
theorem dX7_follows_58 : decode cX7_follows 58 = .ok (.ifCond .eq 7, 3) := by decide +kernel
theorem dX7_follows_61 : decode cX7_follows 61 = .ok (.iconst 2, 1) := by decide +kernel
theorem dX7_follows_62 : decode cX7_follows 62 = .ok (.goto 4, 3) := by decide +kernel
theorem dX7_follows_65 : decode cX7_follows 65 = .ok (.iconst 0, 1) := by decide +kernel
theorem dX7_follows_66 : decode cX7_follows 66 = .ok (.ireturn, 1) := by decide +kernel
set_option maxRecDepth 20000 in
theorem ggX7_order_X5_has : GoodIn wsX7_order wsX5_has := goodIn_r _ [8, 9, 40, 41, 42, 43, 44, 45, 46, 47, 48] (by decide +kernel) (by decide +kernel)
set_option maxRecDepth 20000 in
theorem gX7_order_X5_has : GoodIn wsX7_order (wsV RX7 117 RX5 yX5_has wsX5_has) := goodIn_app (goodIn_of _ (by decide +kernel)) ggX7_order_X5_has
set_option maxRecDepth 20000 in
theorem ggX7_order_X7_finding : GoodIn wsX7_order wsX7_finding := goodIn_r _ [14, 15, 23, 24, 25, 26, 27, 28, 29, 30, 31, 32, 33, 34, 35, 36] (by decide +kernel) (by decide +kernel)
set_option maxRecDepth 20000 in
theorem gX7_order_X7_finding : GoodIn wsX7_order (wsV RX7 59 RX7 yX7_finding wsX7_finding) := goodIn_app (goodIn_of _ (by decide +kernel)) ggX7_order_X7_finding
set_option maxRecDepth 20000 in
theorem ggX7_order_X5_arrange : GoodIn wsX7_order wsX5_arrange := goodIn_r _ [19, 9, 20, 21, 13, 22, 40, 41, 42, 43, 44, 45, 46, 47, 48] (by decide +kernel) (by decide +kernel)
set_option maxRecDepth 20000 in
theorem gX7_order_X5_arrange : GoodIn wsX7_order (wsV RX7 162 RX5 yX5_arrange wsX5_arrange) := goodIn_app (goodIn_of _ (by decide +kernel)) ggX7_order_X5_arrange
theorem dX7_order_0 : decode cX7_order 0 = .ok (.aload_n 0, 1) := by decide +kernel
theorem dX7_order_1 : decode cX7_order 1 = .ok (.getfield 19, 3) := by decide +kernel
theorem dX7_order_4 : decode cX7_order 4 = .ok (.iload_n 1, 1) := by decide +kernel
theorem dX7_order_5 : decode cX7_order 5 = .ok (.invokevirtual 117, 3) := by decide +kernel
theorem dX7_order_8 : decode cX7_order 8 = .ok (.ifCond .ne 10, 3) := by decide +kernel
theorem dX7_order_11 : decode cX7_order 11 = .ok (.aload_n 0, 1) := by decide +kernel
theorem dX7_order_12 : decode cX7_order 12 = .ok (.bipush (-7), 2) := by decide +kernel
theorem dX7_order_14 : decode cX7_order 14 = .ok (.invokevirtual 59, 3) := by decide +kernel
theorem dX7_order_17 : decode cX7_order 17 = .ok (.ireturn, 1) := by decide +kernel
theorem dX7_order_18 : decode cX7_order 18 = .ok (.aload_n 0, 1) := by decide +kernel
theorem dX7_order_19 : decode cX7_order 19 = .ok (.getfield 19, 3) := by decide +kernel
theorem dX7_order_22 : decode cX7_order 22 = .ok (.aload_n 0, 1) := by decide +kernel
theorem dX7_order_23 : decode cX7_order 23 = .ok (.getfield 36, 3) := by decide +kernel
theorem dX7_order_26 : decode cX7_order 26 = .ok (.getfield 159, 3) := by decide +kernel
theorem dX7_order_29 : decode cX7_order 29 = .ok (.invokevirtual 162, 3) := by decide +kernel
theorem dX7_order_32 : decode cX7_order 32 = .ok (.aload_n 0, 1) := by decide +kernel
theorem dX7_order_33 : decode cX7_order 33 = .ok (.getfield 36, 3) := by decide +kernel
theorem dX7_order_36 : decode cX7_order 36 = .ok (.getfield 159, 3) := by decide +kernel
theorem dX7_order_39 : decode cX7_order 39 = .ok (.iload_n 1, 1) := by decide +kernel
theorem dX7_order_40 : decode cX7_order 40 = .ok (.iaload, 1) := by decide +kernel
theorem dX7_order_41 : decode cX7_order 41 = .ok (.ireturn, 1) := by decide +kernel
set_option maxRecDepth 20000 in
theorem ggX7_span_X5_has : GoodIn wsX7_span wsX5_has := goodIn_r _ [8, 9, 49, 50, 51, 52, 53, 54, 55, 56, 57] (by decide +kernel) (by decide +kernel)
set_option maxRecDepth 20000 in
theorem gX7_span_X5_has : GoodIn wsX7_span (wsV RX7 117 RX5 yX5_has wsX5_has) := goodIn_app (goodIn_of _ (by decide +kernel)) ggX7_span_X5_has
set_option maxRecDepth 20000 in
theorem ggX7_span_X5_allows : GoodIn wsX7_span wsX5_allows := goodIn_r _ [13, 14, 15, 49, 50, 51, 52, 53, 54, 55, 56, 57] (by decide +kernel) (by decide +kernel)
set_option maxRecDepth 20000 in
theorem gX7_span_X5_allows : GoodIn wsX7_span (wsV RX7 166 RX5 yX5_allows wsX5_allows) := goodIn_app (goodIn_of _ (by decide +kernel)) ggX7_span_X5_allows
set_option maxRecDepth 20000 in
theorem ggX7_span_X7_finding : GoodIn wsX7_span wsX7_finding := goodIn_r _ [20, 21, 35, 36, 37, 38, 39, 40, 41, 42, 43, 44, 45, 46, 47, 48] (by decide +kernel) (by decide +kernel)
set_option maxRecDepth 20000 in
theorem gX7_span_X7_finding : GoodIn wsX7_span (wsV RX7 59 RX7 yX7_finding wsX7_finding) := goodIn_app (goodIn_of _ (by decide +kernel)) ggX7_span_X7_finding
set_option maxRecDepth 20000 in
theorem ggX7_span_X0_add : GoodIn wsX7_span wsX0_add := goodIn_r _ [26, 27, 28, 29, 30, 31, 32, 33, 34, 58, 59, 60, 61] (by decide +kernel) (by decide +kernel)
set_option maxRecDepth 20000 in
theorem gX7_span_X0_add : GoodIn wsX7_span (wsV RX7 111 RX0 yX0_add wsX0_add) := goodIn_app (goodIn_of _ (by decide +kernel)) ggX7_span_X0_add
theorem dX7_span_0 : decode cX7_span 0 = .ok (.aload_n 0, 1) := by decide +kernel
theorem dX7_span_1 : decode cX7_span 1 = .ok (.getfield 19, 3) := by decide +kernel
theorem dX7_span_4 : decode cX7_span 4 = .ok (.iload_n 1, 1) := by decide +kernel
theorem dX7_span_5 : decode cX7_span 5 = .ok (.invokevirtual 117, 3) := by decide +kernel
theorem dX7_span_8 : decode cX7_span 8 = .ok (.ifCond .eq 15, 3) := by decide +kernel
theorem dX7_span_11 : decode cX7_span 11 = .ok (.aload_n 0, 1) := by decide +kernel
theorem dX7_span_12 : decode cX7_span 12 = .ok (.getfield 19, 3) := by decide +kernel
theorem dX7_span_15 : decode cX7_span 15 = .ok (.iload_n 1, 1) := by decide +kernel
theorem dX7_span_16 : decode cX7_span 16 = .ok (.iload_n 2, 1) := by decide +kernel
theorem dX7_span_17 : decode cX7_span 17 = .ok (.invokevirtual 166, 3) := by decide +kernel
theorem dX7_span_20 : decode cX7_span 20 = .ok (.ifCond .ne 9, 3) := by decide +kernel
theorem dX7_span_23 : decode cX7_span 23 = .ok (.aload_n 0, 1) := by decide +kernel
theorem dX7_span_24 : decode cX7_span 24 = .ok (.iconst (-1), 1) := by decide +kernel
theorem dX7_span_25 : decode cX7_span 25 = .ok (.invokevirtual 59, 3) := by decide +kernel
theorem dX7_span_28 : decode cX7_span 28 = .ok (.ireturn, 1) := by decide +kernel
theorem dX7_span_29 : decode cX7_span 29 = .ok (.aload_n 0, 1) := by decide +kernel
theorem dX7_span_30 : decode cX7_span 30 = .ok (.getfield 19, 3) := by decide +kernel
theorem dX7_span_33 : decode cX7_span 33 = .ok (.getfield 169, 3) := by decide +kernel
theorem dX7_span_36 : decode cX7_span 36 = .ok (.iload_n 1, 1) := by decide +kernel
theorem dX7_span_37 : decode cX7_span 37 = .ok (.iaload, 1) := by decide +kernel
theorem dX7_span_38 : decode cX7_span 38 = .ok (.istore_n 3, 1) := by decide +kernel
theorem dX7_span_39 : decode cX7_span 39 = .ok (.aload_n 0, 1) := by decide +kernel
theorem dX7_span_40 : decode cX7_span 40 = .ok (.getfield 19, 3) := by decide +kernel
theorem dX7_span_43 : decode cX7_span 43 = .ok (.getfield 169, 3) := by decide +kernel
theorem dX7_span_46 : decode cX7_span 46 = .ok (.iload_n 1, 1) := by decide +kernel
theorem dX7_span_47 : decode cX7_span 47 = .ok (.iload_n 2, 1) := by decide +kernel
theorem dX7_span_48 : decode cX7_span 48 = .ok (.iastore, 1) := by decide +kernel
theorem dX7_span_49 : decode cX7_span 49 = .ok (.aload_n 0, 1) := by decide +kernel
theorem dX7_span_50 : decode cX7_span 50 = .ok (.getfield 29, 3) := by decide +kernel
theorem dX7_span_53 : decode cX7_span 53 = .ok (.iconst 2, 1) := by decide +kernel
theorem dX7_span_54 : decode cX7_span 54 = .ok (.iload_n 1, 1) := by decide +kernel
theorem dX7_span_55 : decode cX7_span 55 = .ok (.iload_n 3, 1) := by decide +kernel
theorem dX7_span_56 : decode cX7_span 56 = .ok (.invokevirtual 111, 3) := by decide +kernel
theorem dX7_span_59 : decode cX7_span 59 = .ok (.iload_n 3, 1) := by decide +kernel
theorem dX7_span_60 : decode cX7_span 60 = .ok (.ireturn, 1) := by decide +kernel
set_option maxRecDepth 20000 in
theorem ggX7_length_X6_beginEarly : GoodIn wsX7_length wsX6_beginEarly := goodIn_r _ [8, 9, 10, 11, 12, 13, 14, 15, 16, 17, 18, 19, 20, 21, 22, 23, 24, 25, 26, 50, 51, 52, 41, 42, 43, 44, 45, 46, 47, 48, 49] (by decide +kernel) (by decide +kernel)
set_option maxRecDepth 20000 in
theorem gX7_length_X6_beginEarly : GoodIn wsX7_length (wsV RX7 172 RX6 yX6_beginEarly wsX6_beginEarly) := goodIn_app (goodIn_of _ (by decide +kernel)) ggX7_length_X6_beginEarly
theorem dX7_length_0 : decode cX7_length 0 = .ok (.aload_n 0, 1) := by decide +kernel
theorem dX7_length_1 : decode cX7_length 1 = .ok (.getfield 36, 3) := by decide +kernel
theorem dX7_length_4 : decode cX7_length 4 = .ok (.aload_n 0, 1) := by decide +kernel
theorem dX7_length_5 : decode cX7_length 5 = .ok (.getfield 19, 3) := by decide +kernel
theorem dX7_length_8 : decode cX7_length 8 = .ok (.aload_n 0, 1) := by decide +kernel
theorem dX7_length_9 : decode cX7_length 9 = .ok (.getfield 19, 3) := by decide +kernel
theorem dX7_length_12 : decode cX7_length 12 = .ok (.getfield 169, 3) := by decide +kernel
theorem dX7_length_15 : decode cX7_length 15 = .ok (.invokevirtual 172, 3) := by decide +kernel
theorem dX7_length_18 : decode cX7_length 18 = .ok (.ireturn, 1) := by decide +kernel
set_option maxRecDepth 20000 in
theorem ggX7_early_X5_has : GoodIn wsX7_early wsX5_has := goodIn_r _ [10, 11, 60, 61, 62, 63, 64, 65, 66, 67, 68] (by decide +kernel) (by decide +kernel)
set_option maxRecDepth 20000 in
theorem gX7_early_X5_has : GoodIn wsX7_early (wsV RX7 117 RX5 yX5_has wsX5_has) := goodIn_app (goodIn_of _ (by decide +kernel)) ggX7_early_X5_has
set_option maxRecDepth 20000 in
theorem ggX7_early_X7_finding : GoodIn wsX7_early wsX7_finding := goodIn_r _ [16, 17, 46, 47, 48, 49, 50, 51, 52, 53, 54, 55, 56, 57, 58, 59] (by decide +kernel) (by decide +kernel)
set_option maxRecDepth 20000 in
theorem gX7_early_X7_finding : GoodIn wsX7_early (wsV RX7 59 RX7 yX7_finding wsX7_finding) := goodIn_app (goodIn_of _ (by decide +kernel)) ggX7_early_X7_finding
set_option maxRecDepth 20000 in
theorem ggX7_early_X6_beginBoth : GoodIn wsX7_early wsX6_beginBoth := goodIn_r _ [22, 23, 24, 25, 26, 27, 28, 29, 30, 31, 32, 33, 21, 34, 35, 36, 37, 38, 39, 40, 41, 9, 42, 11, 43, 44, 15, 45, 60, 61, 62, 63, 64, 65, 66, 67, 68, 69, 70, 71] (by decide +kernel) (by decide +kernel)
set_option maxRecDepth 20000 in
theorem gX7_early_X6_beginBoth : GoodIn wsX7_early (wsV RX7 176 RX6 yX6_beginBoth wsX6_beginBoth) := goodIn_app (goodIn_of _ (by decide +kernel)) ggX7_early_X6_beginBoth
theorem dX7_early_0 : decode cX7_early 0 = .ok (.aload_n 0, 1) := by decide +kernel
theorem dX7_early_1 : decode cX7_early 1 = .ok (.getfield 19, 3) := by decide +kernel
theorem dX7_early_4 : decode cX7_early 4 = .ok (.iload_n 1, 1) := by decide +kernel
theorem dX7_early_5 : decode cX7_early 5 = .ok (.invokevirtual 117, 3) := by decide +kernel
theorem dX7_early_8 : decode cX7_early 8 = .ok (.ifCond .ne 9, 3) := by decide +kernel
theorem dX7_early_11 : decode cX7_early 11 = .ok (.aload_n 0, 1) := by decide +kernel
theorem dX7_early_12 : decode cX7_early 12 = .ok (.iconst (-1), 1) := by decide +kernel
theorem dX7_early_13 : decode cX7_early 13 = .ok (.invokevirtual 59, 3) := by decide +kernel
theorem dX7_early_16 : decode cX7_early 16 = .ok (.ireturn, 1) := by decide +kernel
theorem dX7_early_17 : decode cX7_early 17 = .ok (.aload_n 0, 1) := by decide +kernel
theorem dX7_early_18 : decode cX7_early 18 = .ok (.getfield 36, 3) := by decide +kernel
theorem dX7_early_21 : decode cX7_early 21 = .ok (.aload_n 0, 1) := by decide +kernel
theorem dX7_early_22 : decode cX7_early 22 = .ok (.getfield 19, 3) := by decide +kernel
theorem dX7_early_25 : decode cX7_early 25 = .ok (.aload_n 0, 1) := by decide +kernel
theorem dX7_early_26 : decode cX7_early 26 = .ok (.getfield 19, 3) := by decide +kernel
theorem dX7_early_29 : decode cX7_early 29 = .ok (.getfield 169, 3) := by decide +kernel
theorem dX7_early_32 : decode cX7_early 32 = .ok (.invokevirtual 176, 3) := by decide +kernel
theorem dX7_early_35 : decode cX7_early 35 = .ok (.iload_n 2, 1) := by decide +kernel
theorem dX7_early_36 : decode cX7_early 36 = .ok (.ifCond .eq 15, 3) := by decide +kernel
theorem dX7_early_39 : decode cX7_early 39 = .ok (.aload_n 0, 1) := by decide +kernel
theorem dX7_early_40 : decode cX7_early 40 = .ok (.getfield 36, 3) := by decide +kernel
theorem dX7_early_43 : decode cX7_early 43 = .ok (.getfield 180, 3) := by decide +kernel
theorem dX7_early_46 : decode cX7_early 46 = .ok (.iload_n 1, 1) := by decide +kernel
theorem dX7_early_47 : decode cX7_early 47 = .ok (.iaload, 1) := by decide +kernel
theorem dX7_early_48 : decode cX7_early 48 = .ok (.goto 12, 3) := by decide +kernel
theorem dX7_early_51 : decode cX7_early 51 = .ok (.aload_n 0, 1) := by decide +kernel
theorem dX7_early_52 : decode cX7_early 52 = .ok (.getfield 36, 3) := by decide +kernel
theorem dX7_early_55 : decode cX7_early 55 = .ok (.getfield 183, 3) := by decide +kernel
theorem dX7_early_58 : decode cX7_early 58 = .ok (.iload_n 1, 1) := by decide +kernel
theorem dX7_early_59 : decode cX7_early 59 = .ok (.iaload, 1) := by decide +kernel
theorem dX7_early_60 : decode cX7_early 60 = .ok (.ireturn, 1) := by decide +kernel
set_option maxRecDepth 20000 in
theorem ggX7_tight_X6_beginBoth : GoodIn wsX7_tight wsX6_beginBoth := goodIn_r _ [11, 12, 13, 14, 15, 16, 17, 18, 19, 20, 21, 22, 10, 23, 24, 25, 26, 27, 28, 29, 30, 31, 32, 33, 34, 35, 36, 37, 52, 53, 54, 55, 56, 57, 58, 59, 60, 61, 62, 63] (by decide +kernel) (by decide +kernel)
set_option maxRecDepth 20000 in
theorem gX7_tight_X6_beginBoth : GoodIn wsX7_tight (wsV RX7 176 RX6 yX6_beginBoth wsX6_beginBoth) := goodIn_app (goodIn_of _ (by decide +kernel)) ggX7_tight_X6_beginBoth
theorem dX7_tight_0 : decode cX7_tight 0 = .ok (.aload_n 0, 1) := by decide +kernel
theorem dX7_tight_1 : decode cX7_tight 1 = .ok (.getfield 36, 3) := by decide +kernel
theorem dX7_tight_4 : decode cX7_tight 4 = .ok (.aload_n 0, 1) := by decide +kernel
theorem dX7_tight_5 : decode cX7_tight 5 = .ok (.getfield 19, 3) := by decide +kernel
theorem dX7_tight_8 : decode cX7_tight 8 = .ok (.aload_n 0, 1) := by decide +kernel
theorem dX7_tight_9 : decode cX7_tight 9 = .ok (.getfield 19, 3) := by decide +kernel
theorem dX7_tight_12 : decode cX7_tight 12 = .ok (.getfield 169, 3) := by decide +kernel
theorem dX7_tight_15 : decode cX7_tight 15 = .ok (.invokevirtual 176, 3) := by decide +kernel
theorem dX7_tight_18 : decode cX7_tight 18 = .ok (.iconst 0, 1) := by decide +kernel
theorem dX7_tight_19 : decode cX7_tight 19 = .ok (.istore_n 1, 1) := by decide +kernel
theorem dX7_tight_20 : decode cX7_tight 20 = .ok (.iconst 0, 1) := by decide +kernel
theorem dX7_tight_21 : decode cX7_tight 21 = .ok (.istore_n 2, 1) := by decide +kernel
theorem dX7_tight_22 : decode cX7_tight 22 = .ok (.iload_n 2, 1) := by decide +kernel
theorem dX7_tight_23 : decode cX7_tight 23 = .ok (.aload_n 0, 1) := by decide +kernel
theorem dX7_tight_24 : decode cX7_tight 24 = .ok (.getfield 19, 3) := by decide +kernel
theorem dX7_tight_27 : decode cX7_tight 27 = .ok (.getfield 104, 3) := by decide +kernel
theorem dX7_tight_30 : decode cX7_tight 30 = .ok (.if_icmp .ge 36, 3) := by decide +kernel
theorem dX7_tight_33 : decode cX7_tight 33 = .ok (.aload_n 0, 1) := by decide +kernel
theorem dX7_tight_34 : decode cX7_tight 34 = .ok (.getfield 36, 3) := by decide +kernel
theorem dX7_tight_37 : decode cX7_tight 37 = .ok (.getfield 183, 3) := by decide +kernel
theorem dX7_tight_40 : decode cX7_tight 40 = .ok (.iload_n 2, 1) := by decide +kernel
theorem dX7_tight_41 : decode cX7_tight 41 = .ok (.iaload, 1) := by decide +kernel
theorem dX7_tight_42 : decode cX7_tight 42 = .ok (.aload_n 0, 1) := by decide +kernel
theorem dX7_tight_43 : decode cX7_tight 43 = .ok (.getfield 36, 3) := by decide +kernel
theorem dX7_tight_46 : decode cX7_tight 46 = .ok (.getfield 180, 3) := by decide +kernel
theorem dX7_tight_49 : decode cX7_tight 49 = .ok (.iload_n 2, 1) := by decide +kernel
theorem dX7_tight_50 : decode cX7_tight 50 = .ok (.iaload, 1) := by decide +kernel
theorem dX7_tight_51 : decode cX7_tight 51 = .ok (.if_icmp .ne 9, 3) := by decide +kernel
theorem dX7_tight_54 : decode cX7_tight 54 = .ok (.iload_n 1, 1) := by decide +kernel
theorem dX7_tight_55 : decode cX7_tight 55 = .ok (.iconst 1, 1) := by decide +kernel
theorem dX7_tight_56 : decode cX7_tight 56 = .ok (.iload_n 2, 1) := by decide +kernel
theorem dX7_tight_57 : decode cX7_tight 57 = .ok (.ishl, 1) := by decide +kernel
theorem dX7_tight_58 : decode cX7_tight 58 = .ok (.ior, 1) := by decide +kernel
theorem dX7_tight_59 : decode cX7_tight 59 = .ok (.istore_n 1, 1) := by decide +kernel
theorem dX7_tight_60 : decode cX7_tight 60 = .ok (.iinc 2 1, 3) := by decide +kernel
theorem dX7_tight_63 : decode cX7_tight 63 = .ok (.goto (-41), 3) := by decide +kernel
theorem dX7_tight_66 : decode cX7_tight 66 = .ok (.iload_n 1, 1) := by decide +kernel
theorem dX7_tight_67 : decode cX7_tight 67 = .ok (.ireturn, 1) := by decide +kernel
set_option maxRecDepth 20000 in
theorem ggX7_toldCost_X5_costOf : GoodIn wsX7_toldCost wsX5_costOf := goodIn_r _ [8, 9, 10, 11, 12, 13, 14, 15, 16, 17, 32, 33, 34, 35, 36, 37, 38, 39, 40] (by decide +kernel) (by decide +kernel)
set_option maxRecDepth 20000 in
theorem gX7_toldCost_X5_costOf : GoodIn wsX7_toldCost (wsV RX7 186 RX5 yX5_costOf wsX5_costOf) := goodIn_app (goodIn_of _ (by decide +kernel)) ggX7_toldCost_X5_costOf
theorem dX7_toldCost_0 : decode cX7_toldCost 0 = .ok (.lconst 0, 1) := by decide +kernel
theorem dX7_toldCost_1 : decode cX7_toldCost 1 = .ok (.lstore_n 1, 1) := by decide +kernel
theorem dX7_toldCost_2 : decode cX7_toldCost 2 = .ok (.iconst 0, 1) := by decide +kernel
theorem dX7_toldCost_3 : decode cX7_toldCost 3 = .ok (.istore_n 3, 1) := by decide +kernel
theorem dX7_toldCost_4 : decode cX7_toldCost 4 = .ok (.iload_n 3, 1) := by decide +kernel
theorem dX7_toldCost_5 : decode cX7_toldCost 5 = .ok (.aload_n 0, 1) := by decide +kernel
theorem dX7_toldCost_6 : decode cX7_toldCost 6 = .ok (.getfield 19, 3) := by decide +kernel
theorem dX7_toldCost_9 : decode cX7_toldCost 9 = .ok (.getfield 104, 3) := by decide +kernel
theorem dX7_toldCost_12 : decode cX7_toldCost 12 = .ok (.if_icmp .ge 29, 3) := by decide +kernel
theorem dX7_toldCost_15 : decode cX7_toldCost 15 = .ok (.lload_n 1, 1) := by decide +kernel
theorem dX7_toldCost_16 : decode cX7_toldCost 16 = .ok (.aload_n 0, 1) := by decide +kernel
theorem dX7_toldCost_17 : decode cX7_toldCost 17 = .ok (.getfield 19, 3) := by decide +kernel
theorem dX7_toldCost_20 : decode cX7_toldCost 20 = .ok (.iload_n 3, 1) := by decide +kernel
theorem dX7_toldCost_21 : decode cX7_toldCost 21 = .ok (.aload_n 0, 1) := by decide +kernel
theorem dX7_toldCost_22 : decode cX7_toldCost 22 = .ok (.getfield 19, 3) := by decide +kernel
theorem dX7_toldCost_25 : decode cX7_toldCost 25 = .ok (.getfield 169, 3) := by decide +kernel
theorem dX7_toldCost_28 : decode cX7_toldCost 28 = .ok (.iload_n 3, 1) := by decide +kernel
theorem dX7_toldCost_29 : decode cX7_toldCost 29 = .ok (.iaload, 1) := by decide +kernel
theorem dX7_toldCost_30 : decode cX7_toldCost 30 = .ok (.invokevirtual 186, 3) := by decide +kernel
theorem dX7_toldCost_33 : decode cX7_toldCost 33 = .ok (.ladd, 1) := by decide +kernel
theorem dX7_toldCost_34 : decode cX7_toldCost 34 = .ok (.lstore_n 1, 1) := by decide +kernel
theorem dX7_toldCost_35 : decode cX7_toldCost 35 = .ok (.iinc 3 1, 3) := by decide +kernel
theorem dX7_toldCost_38 : decode cX7_toldCost 38 = .ok (.goto (-34), 3) := by decide +kernel
theorem dX7_toldCost_41 : decode cX7_toldCost 41 = .ok (.lload_n 1, 1) := by decide +kernel
theorem dX7_toldCost_42 : decode cX7_toldCost 42 = .ok (.lreturn, 1) := by decide +kernel
set_option maxRecDepth 20000 in
theorem ggX7_longest_X6_beginEarly : GoodIn wsX7_longest wsX6_beginEarly := goodIn_r _ [9, 10, 11, 12, 13, 14, 15, 16, 17, 18, 19, 20, 21, 22, 23, 24, 25, 26, 27, 51, 52, 53, 42, 43, 44, 45, 46, 47, 48, 49, 50] (by decide +kernel) (by decide +kernel)
set_option maxRecDepth 20000 in
theorem gX7_longest_X6_beginEarly : GoodIn wsX7_longest (wsV RX7 172 RX6 yX6_beginEarly wsX6_beginEarly) := goodIn_app (goodIn_of _ (by decide +kernel)) ggX7_longest_X6_beginEarly
theorem dX7_longest_0 : decode cX7_longest 0 = .ok (.aload_n 0, 1) := by decide +kernel
theorem dX7_longest_1 : decode cX7_longest 1 = .ok (.getfield 36, 3) := by decide +kernel
theorem dX7_longest_4 : decode cX7_longest 4 = .ok (.aload_n 0, 1) := by decide +kernel
theorem dX7_longest_5 : decode cX7_longest 5 = .ok (.getfield 19, 3) := by decide +kernel
theorem dX7_longest_8 : decode cX7_longest 8 = .ok (.iload_n 1, 1) := by decide +kernel
theorem dX7_longest_9 : decode cX7_longest 9 = .ok (.ifCond .eq 13, 3) := by decide +kernel
theorem dX7_longest_12 : decode cX7_longest 12 = .ok (.aload_n 0, 1) := by decide +kernel
theorem dX7_longest_13 : decode cX7_longest 13 = .ok (.getfield 19, 3) := by decide +kernel
theorem dX7_longest_16 : decode cX7_longest 16 = .ok (.getfield 144, 3) := by decide +kernel
theorem dX7_longest_19 : decode cX7_longest 19 = .ok (.goto 10, 3) := by decide +kernel
theorem dX7_longest_22 : decode cX7_longest 22 = .ok (.aload_n 0, 1) := by decide +kernel
theorem dX7_longest_23 : decode cX7_longest 23 = .ok (.getfield 19, 3) := by decide +kernel
theorem dX7_longest_26 : decode cX7_longest 26 = .ok (.getfield 141, 3) := by decide +kernel
theorem dX7_longest_29 : decode cX7_longest 29 = .ok (.invokevirtual 172, 3) := by decide +kernel
theorem dX7_longest_32 : decode cX7_longest 32 = .ok (.ireturn, 1) := by decide +kernel
set_option maxRecDepth 20000 in
theorem ggX7_cheapest_X7_finding : GoodIn wsX7_cheapest wsX7_finding := goodIn_r _ [9, 10, 229, 230, 231, 232, 233, 234, 235, 236, 237, 238, 239, 240, 241, 242] (by decide +kernel) (by decide +kernel)
set_option maxRecDepth 20000 in
theorem gX7_cheapest_X7_finding : GoodIn wsX7_cheapest (wsV RX7 59 RX7 yX7_finding wsX7_finding) := goodIn_app (goodIn_of _ (by decide +kernel)) ggX7_cheapest_X7_finding
set_option maxRecDepth 20000 in
theorem ggX7_cheapest_X7_readyCurve : GoodIn wsX7_cheapest wsX7_readyCurve := goodIn_r _ [14, 1, 15, 16, 17, 18, 19, 8, 20, 21, 22, 23, 24, 25, 26, 27, 28, 29, 30, 31, 32, 33, 34, 35, 36, 37, 38, 39, 40, 41, 42, 43, 44, 45, 46, 47, 48, 49, 50, 51, 52, 53, 54, 55, 56, 57, 58, 59, 60, 61, 62, 63, 64, 65, 66, 67, 68, 69, 70, 71, 72, 73, 74, 75, 76, 77, 78, 79, 80, 81, 82, 83, 84, 85, 86, 87, 88, 89, 90, 91, 92, 93, 94, 95, 96, 97, 98, 99, 100, 101, 102, 103, 104, 105, 106, 107, 108, 109, 110, 111, 112, 113, 114, 115, 116, 117, 118, 119, 120, 121, 122, 123, 124, 125, 126, 127, 128, 129, 130, 131, 132, 133, 134, 135, 136, 137, 138, 139, 140, 141, 142, 143, 144, 145, 146, 147, 148, 149, 150, 151, 152, 153, 154, 155, 156, 157, 158, 159, 160, 161, 162, 163, 164, 165, 166, 167, 168, 169, 170, 171, 172, 173, 174, 175, 176, 177, 178, 179, 180, 181, 182, 183, 184, 185, 186, 187, 188, 189, 190, 191, 192, 193, 194, 195, 196, 197, 198, 199, 200, 201, 202, 203, 204, 205, 206, 207, 208, 209, 210, 211, 212, 213, 214, 215, 216, 217, 218, 219, 229, 230, 231, 232, 233, 234, 235, 236, 237, 238, 239, 240, 241, 242, 250, 251, 252, 253, 254, 255, 256, 257, 258, 259, 260, 261, 262, 263, 264, 243, 244, 245, 246, 247, 248, 249, 265, 266, 267, 268, 269, 270, 271, 272, 273, 274, 275, 276, 277, 278, 279] (by decide +kernel) (by decide +kernel)
set_option maxRecDepth 20000 in
theorem gX7_cheapest_X7_readyCurve : GoodIn wsX7_cheapest (wsV RX7 190 RX7 yX7_readyCurve wsX7_readyCurve) := goodIn_app (goodIn_of _ (by decide +kernel)) ggX7_cheapest_X7_readyCurve
set_option maxRecDepth 20000 in
theorem ggX7_cheapest_X7_shortest : GoodIn wsX7_cheapest wsX7_shortest := goodIn_r _ [223, 1, 15, 4, 224, 122, 123, 49, 124, 125, 126, 127, 128, 129, 130, 131, 132, 133, 134, 135, 136, 137, 138, 229, 230, 231, 232, 233, 234, 235, 236, 237, 238, 239, 240, 241, 242, 250, 251, 252, 243, 244, 245, 246, 247, 248, 249] (by decide +kernel) (by decide +kernel)
set_option maxRecDepth 20000 in
theorem gX7_cheapest_X7_shortest : GoodIn wsX7_cheapest (wsV RX7 193 RX7 yX7_shortest wsX7_shortest) := goodIn_app (goodIn_of _ (by decide +kernel)) ggX7_cheapest_X7_shortest
set_option maxRecDepth 20000 in
theorem ggX7_cheapest_X3_bendFor : GoodIn wsX7_cheapest wsX3_bendFor := goodIn_r _ [228, 52, 57, 121, 122, 123, 49, 124, 125, 126, 127, 128, 129, 130, 131, 132, 133, 134, 135, 136, 137, 138, 250, 251, 252, 243, 244, 245, 246, 247, 248, 249] (by decide +kernel) (by decide +kernel)
set_option maxRecDepth 20000 in
theorem gX7_cheapest_X3_bendFor : GoodIn wsX7_cheapest (wsV RX7 197 RX3 yX3_bendFor wsX3_bendFor) := goodIn_app (goodIn_of _ (by decide +kernel)) ggX7_cheapest_X3_bendFor
theorem dX7_cheapest_0 : decode cX7_cheapest 0 = .ok (.iload_n 2, 1) := by decide +kernel
theorem dX7_cheapest_1 : decode cX7_cheapest 1 = .ok (.iconst 1, 1) := by decide +kernel
theorem dX7_cheapest_2 : decode cX7_cheapest 2 = .ok (.if_icmp .lt 10, 3) := by decide +kernel
theorem dX7_cheapest_5 : decode cX7_cheapest 5 = .ok (.iload_n 2, 1) := by decide +kernel
theorem dX7_cheapest_6 : decode cX7_cheapest 6 = .ok (.sipush 1000, 3) := by decide +kernel
theorem dX7_cheapest_9 : decode cX7_cheapest 9 = .ok (.if_icmp .le 11, 3) := by decide +kernel
theorem dX7_cheapest_12 : decode cX7_cheapest 12 = .ok (.aload_n 0, 1) := by decide +kernel
theorem dX7_cheapest_13 : decode cX7_cheapest 13 = .ok (.bipush (-3), 2) := by decide +kernel
theorem dX7_cheapest_15 : decode cX7_cheapest 15 = .ok (.invokevirtual 59, 3) := by decide +kernel
theorem dX7_cheapest_18 : decode cX7_cheapest 18 = .ok (.i2l, 1) := by decide +kernel
theorem dX7_cheapest_19 : decode cX7_cheapest 19 = .ok (.lreturn, 1) := by decide +kernel
theorem dX7_cheapest_20 : decode cX7_cheapest 20 = .ok (.aload_n 0, 1) := by decide +kernel
theorem dX7_cheapest_21 : decode cX7_cheapest 21 = .ok (.invokevirtual 190, 3) := by decide +kernel
theorem dX7_cheapest_24 : decode cX7_cheapest 24 = .ok (.iload_n 1, 1) := by decide +kernel
theorem dX7_cheapest_25 : decode cX7_cheapest 25 = .ok (.i2l, 1) := by decide +kernel
theorem dX7_cheapest_26 : decode cX7_cheapest 26 = .ok (.aload_n 0, 1) := by decide +kernel
theorem dX7_cheapest_27 : decode cX7_cheapest 27 = .ok (.invokevirtual 193, 3) := by decide +kernel
theorem dX7_cheapest_30 : decode cX7_cheapest 30 = .ok (.i2l, 1) := by decide +kernel
theorem dX7_cheapest_31 : decode cX7_cheapest 31 = .ok (.iload_n 2, 1) := by decide +kernel
theorem dX7_cheapest_32 : decode cX7_cheapest 32 = .ok (.i2l, 1) := by decide +kernel
theorem dX7_cheapest_33 : decode cX7_cheapest 33 = .ok (.lmul, 1) := by decide +kernel
theorem dX7_cheapest_34 : decode cX7_cheapest 34 = .ok (.lcmp, 1) := by decide +kernel
theorem dX7_cheapest_35 : decode cX7_cheapest 35 = .ok (.ifCond .ge 11, 3) := by decide +kernel
theorem dX7_cheapest_38 : decode cX7_cheapest 38 = .ok (.aload_n 0, 1) := by decide +kernel
theorem dX7_cheapest_39 : decode cX7_cheapest 39 = .ok (.bipush (-8), 2) := by decide +kernel
theorem dX7_cheapest_41 : decode cX7_cheapest 41 = .ok (.invokevirtual 59, 3) := by decide +kernel
theorem dX7_cheapest_44 : decode cX7_cheapest 44 = .ok (.i2l, 1) := by decide +kernel
theorem dX7_cheapest_45 : decode cX7_cheapest 45 = .ok (.lreturn, 1) := by decide +kernel
theorem dX7_cheapest_46 : decode cX7_cheapest 46 = .ok (.aload_n 0, 1) := by decide +kernel
theorem dX7_cheapest_47 : decode cX7_cheapest 47 = .ok (.getfield 43, 3) := by decide +kernel
theorem dX7_cheapest_50 : decode cX7_cheapest 50 = .ok (.iload_n 1, 1) := by decide +kernel
theorem dX7_cheapest_51 : decode cX7_cheapest 51 = .ok (.iload_n 2, 1) := by decide +kernel
theorem dX7_cheapest_52 : decode cX7_cheapest 52 = .ok (.idiv, 1) := by decide +kernel
theorem dX7_cheapest_53 : decode cX7_cheapest 53 = .ok (.invokevirtual 197, 3) := by decide +kernel
theorem dX7_cheapest_56 : decode cX7_cheapest 56 = .ok (.astore_n 3, 1) := by decide +kernel
theorem dX7_cheapest_57 : decode cX7_cheapest 57 = .ok (.aload_n 3, 1) := by decide +kernel
theorem dX7_cheapest_58 : decode cX7_cheapest 58 = .ok (.getfield 201, 3) := by decide +kernel
theorem dX7_cheapest_61 : decode cX7_cheapest 61 = .ok (.iload_n 2, 1) := by decide +kernel
theorem dX7_cheapest_62 : decode cX7_cheapest 62 = .ok (.i2l, 1) := by decide +kernel
theorem dX7_cheapest_63 : decode cX7_cheapest 63 = .ok (.lmul, 1) := by decide +kernel
theorem dX7_cheapest_64 : decode cX7_cheapest 64 = .ok (.aload_n 3, 1) := by decide +kernel
theorem dX7_cheapest_65 : decode cX7_cheapest 65 = .ok (.getfield 207, 3) := by decide +kernel
theorem dX7_cheapest_68 : decode cX7_cheapest 68 = .ok (.iload_n 1, 1) := by decide +kernel
theorem dX7_cheapest_69 : decode cX7_cheapest 69 = .ok (.i2l, 1) := by decide +kernel
theorem dX7_cheapest_70 : decode cX7_cheapest 70 = .ok (.aload_n 3, 1) := by decide +kernel
theorem dX7_cheapest_71 : decode cX7_cheapest 71 = .ok (.getfield 210, 3) := by decide +kernel
theorem dX7_cheapest_74 : decode cX7_cheapest 74 = .ok (.i2l, 1) := by decide +kernel
theorem dX7_cheapest_75 : decode cX7_cheapest 75 = .ok (.iload_n 2, 1) := by decide +kernel
theorem dX7_cheapest_76 : decode cX7_cheapest 76 = .ok (.i2l, 1) := by decide +kernel
theorem dX7_cheapest_77 : decode cX7_cheapest 77 = .ok (.lmul, 1) := by decide +kernel
theorem dX7_cheapest_78 : decode cX7_cheapest 78 = .ok (.lsub, 1) := by decide +kernel
theorem dX7_cheapest_79 : decode cX7_cheapest 79 = .ok (.lmul, 1) := by decide +kernel
theorem dX7_cheapest_80 : decode cX7_cheapest 80 = .ok (.lsub, 1) := by decide +kernel
theorem dX7_cheapest_81 : decode cX7_cheapest 81 = .ok (.lreturn, 1) := by decide +kernel
set_option maxRecDepth 20000 in
theorem ggX7_slope_X7_readyCurve : GoodIn wsX7_slope wsX7_readyCurve := goodIn_r _ [7, 1, 8, 9, 10, 11, 12, 6, 13, 14, 15, 16, 17, 18, 19, 20, 21, 22, 23, 24, 25, 26, 27, 28, 29, 30, 31, 32, 33, 34, 35, 36, 37, 38, 39, 40, 41, 42, 43, 44, 45, 46, 47, 48, 49, 50, 51, 52, 53, 54, 55, 56, 57, 58, 59, 60, 61, 62, 63, 64, 65, 66, 67, 68, 69, 70, 71, 72, 73, 74, 75, 76, 77, 78, 79, 80, 81, 82, 83, 84, 85, 86, 87, 88, 89, 90, 91, 92, 93, 94, 95, 96, 97, 98, 99, 100, 101, 102, 103, 104, 105, 106, 107, 108, 109, 110, 111, 112, 113, 114, 115, 116, 117, 118, 119, 120, 121, 122, 123, 124, 125, 126, 127, 128, 129, 130, 131, 132, 133, 134, 135, 136, 137, 138, 139, 140, 141, 142, 143, 144, 145, 146, 147, 148, 149, 150, 151, 152, 153, 154, 155, 156, 157, 158, 159, 160, 161, 162, 163, 164, 165, 166, 167, 168, 169, 170, 171, 172, 173, 174, 175, 176, 177, 178, 179, 180, 181, 182, 183, 184, 185, 186, 187, 188, 189, 190, 191, 192, 193, 194, 195, 196, 197, 198, 199, 200, 201, 202, 203, 204, 205, 206, 207, 208, 209, 210, 211, 212, 232, 233, 234, 235, 236, 237, 238, 239, 240, 241, 242, 243, 244, 245, 253, 254, 255, 256, 257, 258, 259, 260, 261, 262, 263, 264, 265, 266, 267, 246, 247, 248, 249, 250, 251, 252, 268, 269, 270, 271, 272, 273, 274, 275, 276, 277, 278, 279, 280, 281, 282] (by decide +kernel) (by decide +kernel)
set_option maxRecDepth 20000 in
theorem gX7_slope_X7_readyCurve : GoodIn wsX7_slope (wsV RX7 190 RX7 yX7_readyCurve wsX7_readyCurve) := goodIn_app (goodIn_of _ (by decide +kernel)) ggX7_slope_X7_readyCurve
set_option maxRecDepth 20000 in
theorem ggX7_slope_X7_lengthFinding : GoodIn wsX7_slope wsX7_lengthFinding := goodIn_r _ [216, 217, 218, 219, 6, 220, 1, 8, 221, 222, 115, 116, 42, 117, 118, 119, 120, 121, 122, 123, 124, 125, 126, 127, 128, 129, 130, 131, 232, 233, 234, 235, 236, 237, 238, 239, 240, 241, 242, 243, 244, 245, 253, 254, 255, 246, 247, 248, 249, 250, 251, 252] (by decide +kernel) (by decide +kernel)
set_option maxRecDepth 20000 in
theorem gX7_slope_X7_lengthFinding : GoodIn wsX7_slope (wsV RX7 213 RX7 yX7_lengthFinding wsX7_lengthFinding) := goodIn_app (goodIn_of _ (by decide +kernel)) ggX7_slope_X7_lengthFinding
set_option maxRecDepth 20000 in
theorem ggX7_slope_X7_finding : GoodIn wsX7_slope wsX7_finding := goodIn_r _ [226, 227, 232, 233, 234, 235, 236, 237, 238, 239, 240, 241, 242, 243, 244, 245] (by decide +kernel) (by decide +kernel)
set_option maxRecDepth 20000 in
theorem gX7_slope_X7_finding : GoodIn wsX7_slope (wsV RX7 59 RX7 yX7_finding wsX7_finding) := goodIn_app (goodIn_of _ (by decide +kernel)) ggX7_slope_X7_finding
set_option maxRecDepth 20000 in
theorem ggX7_slope_X3_bendFor : GoodIn wsX7_slope wsX3_bendFor := goodIn_r _ [231, 45, 50, 114, 115, 116, 42, 117, 118, 119, 120, 121, 122, 123, 124, 125, 126, 127, 128, 129, 130, 131, 253, 254, 255, 246, 247, 248, 249, 250, 251, 252] (by decide +kernel) (by decide +kernel)
set_option maxRecDepth 20000 in
theorem gX7_slope_X3_bendFor : GoodIn wsX7_slope (wsV RX7 197 RX3 yX3_bendFor wsX3_bendFor) := goodIn_app (goodIn_of _ (by decide +kernel)) ggX7_slope_X3_bendFor
theorem dX7_slope_0 : decode cX7_slope 0 = .ok (.aload_n 0, 1) := by decide +kernel
theorem dX7_slope_1 : decode cX7_slope 1 = .ok (.invokevirtual 190, 3) := by decide +kernel
theorem dX7_slope_4 : decode cX7_slope 4 = .ok (.aload_n 0, 1) := by decide +kernel
theorem dX7_slope_5 : decode cX7_slope 5 = .ok (.iload_n 1, 1) := by decide +kernel
theorem dX7_slope_6 : decode cX7_slope 6 = .ok (.invokevirtual 213, 3) := by decide +kernel
theorem dX7_slope_9 : decode cX7_slope 9 = .ok (.istore_n 2, 1) := by decide +kernel
theorem dX7_slope_10 : decode cX7_slope 10 = .ok (.iload_n 2, 1) := by decide +kernel
theorem dX7_slope_11 : decode cX7_slope 11 = .ok (.ifCond .eq 12, 3) := by decide +kernel
theorem dX7_slope_14 : decode cX7_slope 14 = .ok (.aload_n 0, 1) := by decide +kernel
theorem dX7_slope_15 : decode cX7_slope 15 = .ok (.iload_n 2, 1) := by decide +kernel
theorem dX7_slope_16 : decode cX7_slope 16 = .ok (.invokevirtual 59, 3) := by decide +kernel
theorem dX7_slope_19 : decode cX7_slope 19 = .ok (.i2l, 1) := by decide +kernel
theorem dX7_slope_20 : decode cX7_slope 20 = .ok (.goto 14, 3) := by decide +kernel
theorem dX7_slope_23 : decode cX7_slope 23 = .ok (.aload_n 0, 1) := by decide +kernel
theorem dX7_slope_24 : decode cX7_slope 24 = .ok (.getfield 43, 3) := by decide +kernel
theorem dX7_slope_27 : decode cX7_slope 27 = .ok (.iload_n 1, 1) := by decide +kernel
theorem dX7_slope_28 : decode cX7_slope 28 = .ok (.invokevirtual 197, 3) := by decide +kernel
theorem dX7_slope_31 : decode cX7_slope 31 = .ok (.getfield 207, 3) := by decide +kernel
theorem dX7_slope_34 : decode cX7_slope 34 = .ok (.lreturn, 1) := by decide +kernel
set_option maxRecDepth 20000 in
theorem ggX7_bends_X7_readyCurve : GoodIn wsX7_bends wsX7_readyCurve := goodIn_r _ [7, 1, 2, 8, 9, 10, 11, 6, 12, 13, 14, 15, 16, 17, 18, 19, 20, 21, 22, 23, 24, 25, 26, 27, 28, 29, 30, 31, 32, 33, 34, 35, 36, 37, 38, 39, 40, 41, 42, 43, 44, 45, 46, 47, 48, 49, 50, 51, 52, 53, 54, 55, 56, 57, 58, 59, 60, 61, 62, 63, 64, 65, 66, 67, 68, 69, 70, 71, 72, 73, 74, 75, 76, 77, 78, 79, 80, 81, 82, 83, 84, 85, 86, 87, 88, 89, 90, 91, 92, 93, 94, 95, 96, 97, 98, 99, 100, 101, 102, 103, 104, 105, 106, 107, 108, 109, 110, 111, 112, 113, 114, 115, 116, 117, 118, 119, 120, 121, 122, 123, 124, 125, 126, 127, 128, 129, 130, 131, 132, 133, 134, 135, 136, 137, 138, 139, 140, 141, 142, 143, 144, 145, 146, 147, 148, 149, 150, 151, 152, 153, 154, 155, 156, 157, 158, 159, 160, 161, 162, 163, 164, 165, 166, 167, 168, 169, 170, 171, 172, 173, 174, 175, 176, 177, 178, 179, 180, 181, 182, 183, 184, 185, 186, 187, 188, 189, 190, 191, 192, 193, 194, 195, 196, 197, 198, 199, 200, 201, 202, 203, 204, 205, 206, 207, 208, 209, 210, 211, 212, 213, 214, 215, 216, 217, 218, 219, 220, 221, 222, 223, 224, 225, 226, 227, 228, 229, 230, 231, 232, 233, 234, 235, 236, 237, 238, 239, 240, 241, 242, 243, 244, 245, 246, 247, 248, 249, 250, 251, 252, 253, 254, 255, 256, 257, 258, 259, 260, 261, 262] (by decide +kernel) (by decide +kernel)
set_option maxRecDepth 20000 in
theorem gX7_bends_X7_readyCurve : GoodIn wsX7_bends (wsV RX7 190 RX7 yX7_readyCurve wsX7_readyCurve) := goodIn_app (goodIn_of _ (by decide +kernel)) ggX7_bends_X7_readyCurve
theorem dX7_bends_0 : decode cX7_bends 0 = .ok (.aload_n 0, 1) := by decide +kernel
theorem dX7_bends_1 : decode cX7_bends 1 = .ok (.invokevirtual 190, 3) := by decide +kernel
theorem dX7_bends_4 : decode cX7_bends 4 = .ok (.aload_n 0, 1) := by decide +kernel
theorem dX7_bends_5 : decode cX7_bends 5 = .ok (.getfield 43, 3) := by decide +kernel
theorem dX7_bends_8 : decode cX7_bends 8 = .ok (.getfield 216, 3) := by decide +kernel
theorem dX7_bends_11 : decode cX7_bends 11 = .ok (.ireturn, 1) := by decide +kernel
set_option maxRecDepth 20000 in
theorem ggX7_bend_X7_readyCurve : GoodIn wsX7_bend wsX7_readyCurve := goodIn_r _ [8, 1, 2, 9, 10, 11, 12, 7, 13, 14, 15, 16, 17, 18, 19, 20, 21, 22, 23, 24, 25, 26, 27, 28, 29, 30, 31, 32, 33, 34, 35, 36, 37, 38, 39, 40, 41, 42, 43, 44, 45, 46, 47, 48, 49, 50, 51, 52, 53, 54, 55, 56, 57, 58, 59, 60, 61, 62, 63, 64, 65, 66, 67, 68, 69, 70, 71, 72, 73, 74, 75, 76, 77, 78, 79, 80, 81, 82, 83, 84, 85, 86, 87, 88, 89, 90, 91, 92, 93, 94, 95, 96, 97, 98, 99, 100, 101, 102, 103, 104, 105, 106, 107, 108, 109, 110, 111, 112, 113, 114, 115, 116, 117, 118, 119, 120, 121, 122, 123, 124, 125, 126, 127, 128, 129, 130, 131, 132, 133, 134, 135, 136, 137, 138, 139, 140, 141, 142, 143, 144, 145, 146, 147, 148, 149, 150, 151, 152, 153, 154, 155, 156, 157, 158, 159, 160, 161, 162, 163, 164, 165, 166, 167, 168, 169, 170, 171, 172, 173, 174, 175, 176, 177, 178, 179, 180, 181, 182, 183, 184, 185, 186, 187, 188, 189, 190, 191, 192, 193, 194, 195, 196, 197, 198, 199, 200, 201, 202, 203, 204, 205, 206, 207, 208, 209, 210, 211, 212, 219, 220, 221, 222, 223, 224, 225, 226, 227, 228, 229, 230, 231, 232, 233, 234, 235, 243, 244, 245, 246, 247, 248, 249, 250, 251, 252, 253, 254, 236, 237, 238, 239, 240, 241, 242, 255, 256, 257, 258, 259, 260, 261, 262, 263, 264, 265, 266, 267, 268, 269] (by decide +kernel) (by decide +kernel)
set_option maxRecDepth 20000 in
theorem gX7_bend_X7_readyCurve : GoodIn wsX7_bend (wsV RX7 190 RX7 yX7_readyCurve wsX7_readyCurve) := goodIn_app (goodIn_of _ (by decide +kernel)) ggX7_bend_X7_readyCurve
set_option maxRecDepth 20000 in
theorem ggX7_bend_X7_finding : GoodIn wsX7_bend wsX7_finding := goodIn_r _ [216, 217, 219, 220, 221, 222, 223, 224, 225, 226, 227, 228, 229, 230, 231, 232] (by decide +kernel) (by decide +kernel)
set_option maxRecDepth 20000 in
theorem gX7_bend_X7_finding : GoodIn wsX7_bend (wsV RX7 59 RX7 yX7_finding wsX7_finding) := goodIn_app (goodIn_of _ (by decide +kernel)) ggX7_bend_X7_finding
set_option maxRecDepth 20000 in
theorem ggX7_bend_X3_bendAt : GoodIn wsX7_bend wsX3_bendAt := goodIn_r _ [117, 118, 119, 120, 121, 122, 123, 124, 125, 126, 127, 128, 129, 130, 131, 233, 234, 235, 236, 237, 238, 239, 240, 241, 242] (by decide +kernel) (by decide +kernel)
set_option maxRecDepth 20000 in
theorem gX7_bend_X3_bendAt : GoodIn wsX7_bend (wsV RX7 217 RX3 yX3_bendAt wsX3_bendAt) := goodIn_app (goodIn_of _ (by decide +kernel)) ggX7_bend_X3_bendAt
theorem dX7_bend_0 : decode cX7_bend 0 = .ok (.aload_n 0, 1) := by decide +kernel
theorem dX7_bend_1 : decode cX7_bend 1 = .ok (.invokevirtual 190, 3) := by decide +kernel
theorem dX7_bend_4 : decode cX7_bend 4 = .ok (.iload_n 1, 1) := by decide +kernel
theorem dX7_bend_5 : decode cX7_bend 5 = .ok (.ifCond .lt 14, 3) := by decide +kernel
theorem dX7_bend_8 : decode cX7_bend 8 = .ok (.iload_n 1, 1) := by decide +kernel
theorem dX7_bend_9 : decode cX7_bend 9 = .ok (.aload_n 0, 1) := by decide +kernel
theorem dX7_bend_10 : decode cX7_bend 10 = .ok (.getfield 43, 3) := by decide +kernel
theorem dX7_bend_13 : decode cX7_bend 13 = .ok (.getfield 216, 3) := by decide +kernel
theorem dX7_bend_16 : decode cX7_bend 16 = .ok (.if_icmp .lt 10, 3) := by decide +kernel
theorem dX7_bend_19 : decode cX7_bend 19 = .ok (.aload_n 0, 1) := by decide +kernel
theorem dX7_bend_20 : decode cX7_bend 20 = .ok (.bipush (-7), 2) := by decide +kernel
theorem dX7_bend_22 : decode cX7_bend 22 = .ok (.invokevirtual 59, 3) := by decide +kernel
theorem dX7_bend_25 : decode cX7_bend 25 = .ok (.ireturn, 1) := by decide +kernel
theorem dX7_bend_26 : decode cX7_bend 26 = .ok (.aload_n 0, 1) := by decide +kernel
theorem dX7_bend_27 : decode cX7_bend 27 = .ok (.getfield 43, 3) := by decide +kernel
theorem dX7_bend_30 : decode cX7_bend 30 = .ok (.aload_n 0, 1) := by decide +kernel
theorem dX7_bend_31 : decode cX7_bend 31 = .ok (.getfield 43, 3) := by decide +kernel
theorem dX7_bend_34 : decode cX7_bend 34 = .ok (.getfield 216, 3) := by decide +kernel
theorem dX7_bend_37 : decode cX7_bend 37 = .ok (.iconst 1, 1) := by decide +kernel
theorem dX7_bend_38 : decode cX7_bend 38 = .ok (.isub, 1) := by decide +kernel
theorem dX7_bend_39 : decode cX7_bend 39 = .ok (.iload_n 1, 1) := by decide +kernel
theorem dX7_bend_40 : decode cX7_bend 40 = .ok (.isub, 1) := by decide +kernel
theorem dX7_bend_41 : decode cX7_bend 41 = .ok (.invokevirtual 217, 3) := by decide +kernel
theorem dX7_bend_44 : decode cX7_bend 44 = .ok (.getfield 210, 3) := by decide +kernel
theorem dX7_bend_47 : decode cX7_bend 47 = .ok (.ireturn, 1) := by decide +kernel
set_option maxRecDepth 20000 in
theorem ggX7_within_X7_readyCurve : GoodIn wsX7_within wsX7_readyCurve := goodIn_r _ [11, 1, 3, 12, 13, 14, 15, 10, 16, 17, 18, 19, 20, 21, 22, 23, 24, 25, 26, 27, 28, 29, 30, 31, 32, 33, 34, 35, 36, 37, 38, 39, 40, 41, 42, 43, 44, 45, 46, 47, 48, 49, 50, 51, 52, 53, 54, 55, 56, 57, 58, 59, 60, 61, 62, 63, 64, 65, 66, 67, 68, 69, 70, 71, 72, 73, 74, 75, 76, 77, 78, 79, 80, 81, 82, 83, 84, 85, 86, 87, 88, 89, 90, 91, 92, 93, 94, 95, 96, 97, 98, 99, 100, 101, 102, 103, 104, 105, 106, 107, 108, 109, 110, 111, 112, 113, 114, 115, 116, 117, 118, 119, 120, 121, 122, 123, 124, 125, 126, 127, 128, 129, 130, 131, 132, 133, 134, 135, 136, 137, 138, 139, 140, 141, 142, 143, 144, 145, 146, 147, 148, 149, 150, 151, 152, 153, 154, 155, 156, 157, 158, 159, 160, 161, 162, 163, 164, 165, 166, 167, 168, 169, 170, 171, 172, 173, 174, 175, 176, 177, 178, 179, 180, 181, 182, 183, 184, 185, 186, 187, 188, 189, 190, 191, 192, 193, 194, 195, 196, 197, 198, 199, 200, 201, 202, 203, 204, 205, 206, 207, 208, 209, 210, 211, 212, 213, 214, 215, 229, 230, 231, 232, 233, 234, 235, 236, 237, 238, 239, 240, 241, 242, 250, 251, 252, 253, 254, 255, 256, 257, 258, 259, 260, 261, 262, 263, 264, 243, 244, 245, 246, 247, 248, 249, 265, 266, 267, 268, 269, 270, 271, 272, 273, 274, 275, 276, 277, 278, 279] (by decide +kernel) (by decide +kernel)
set_option maxRecDepth 20000 in
theorem gX7_within_X7_readyCurve : GoodIn wsX7_within (wsV RX7 190 RX7 yX7_readyCurve wsX7_readyCurve) := goodIn_app (goodIn_of _ (by decide +kernel)) ggX7_within_X7_readyCurve
set_option maxRecDepth 20000 in
theorem ggX7_within_X3_bendAt : GoodIn wsX7_within wsX3_bendAt := goodIn_r _ [120, 121, 122, 123, 124, 125, 126, 127, 128, 129, 130, 131, 132, 133, 134, 250, 251, 252, 243, 244, 245, 246, 247, 248, 249] (by decide +kernel) (by decide +kernel)
set_option maxRecDepth 20000 in
theorem gX7_within_X3_bendAt : GoodIn wsX7_within (wsV RX7 217 RX3 yX3_bendAt wsX3_bendAt) := goodIn_app (goodIn_of _ (by decide +kernel)) ggX7_within_X3_bendAt
set_option maxRecDepth 20000 in
theorem ggX7_within_X7_finding : GoodIn wsX7_within wsX7_finding := goodIn_r _ [220, 221, 229, 230, 231, 232, 233, 234, 235, 236, 237, 238, 239, 240, 241, 242] (by decide +kernel) (by decide +kernel)
set_option maxRecDepth 20000 in
theorem gX7_within_X7_finding : GoodIn wsX7_within (wsV RX7 59 RX7 yX7_finding wsX7_finding) := goodIn_app (goodIn_of _ (by decide +kernel)) ggX7_within_X7_finding
set_option maxRecDepth 20000 in
theorem ggX7_within_X3_lastWithin : GoodIn wsX7_within wsX3_lastWithin := goodIn_r _ [225, 48, 54, 117, 118, 119, 45, 120, 121, 122, 123, 124, 125, 126, 127, 128, 129, 130, 131, 132, 133, 134, 250, 251, 252, 243, 244, 245, 246, 247, 248, 249] (by decide +kernel) (by decide +kernel)
set_option maxRecDepth 20000 in
theorem gX7_within_X3_lastWithin : GoodIn wsX7_within (wsV RX7 220 RX3 yX3_lastWithin wsX3_lastWithin) := goodIn_app (goodIn_of _ (by decide +kernel)) ggX7_within_X3_lastWithin
set_option maxRecDepth 20000 in
theorem ggX7_within_X7_commonDivisor : GoodIn wsX7_within wsX7_commonDivisor := goodIn_r _ [228] (by decide +kernel) (by decide +kernel)
set_option maxRecDepth 20000 in
theorem gX7_within_X7_commonDivisor : GoodIn wsX7_within (va_wsS RX7 224 yX7_commonDivisor wsX7_commonDivisor) := goodIn_app (goodIn_of _ (by decide +kernel)) ggX7_within_X7_commonDivisor
theorem dX7_within_0 : decode cX7_within 0 = .ok (.aload_n 0, 1) := by decide +kernel
theorem dX7_within_1 : decode cX7_within 1 = .ok (.invokevirtual 190, 3) := by decide +kernel
theorem dX7_within_4 : decode cX7_within 4 = .ok (.aload_n 0, 1) := by decide +kernel
theorem dX7_within_5 : decode cX7_within 5 = .ok (.getfield 43, 3) := by decide +kernel
theorem dX7_within_8 : decode cX7_within 8 = .ok (.iconst 0, 1) := by decide +kernel
theorem dX7_within_9 : decode cX7_within 9 = .ok (.invokevirtual 217, 3) := by decide +kernel
theorem dX7_within_12 : decode cX7_within 12 = .ok (.getfield 201, 3) := by decide +kernel
theorem dX7_within_15 : decode cX7_within 15 = .ok (.lload_n 1, 1) := by decide +kernel
theorem dX7_within_16 : decode cX7_within 16 = .ok (.lcmp, 1) := by decide +kernel
theorem dX7_within_17 : decode cX7_within 17 = .ok (.ifCond .le 11, 3) := by decide +kernel
theorem dX7_within_20 : decode cX7_within 20 = .ok (.aload_n 0, 1) := by decide +kernel
theorem dX7_within_21 : decode cX7_within 21 = .ok (.bipush (-7), 2) := by decide +kernel
theorem dX7_within_23 : decode cX7_within 23 = .ok (.invokevirtual 59, 3) := by decide +kernel
theorem dX7_within_26 : decode cX7_within 26 = .ok (.i2l, 1) := by decide +kernel
theorem dX7_within_27 : decode cX7_within 27 = .ok (.lreturn, 1) := by decide +kernel
theorem dX7_within_28 : decode cX7_within 28 = .ok (.aload_n 0, 1) := by decide +kernel
theorem dX7_within_29 : decode cX7_within 29 = .ok (.getfield 43, 3) := by decide +kernel
theorem dX7_within_32 : decode cX7_within 32 = .ok (.lload_n 1, 1) := by decide +kernel
theorem dX7_within_33 : decode cX7_within 33 = .ok (.invokevirtual 220, 3) := by decide +kernel
theorem dX7_within_36 : decode cX7_within 36 = .ok (.istore_n 3, 1) := by decide +kernel
theorem dX7_within_37 : decode cX7_within 37 = .ok (.aload_n 0, 1) := by decide +kernel
theorem dX7_within_38 : decode cX7_within 38 = .ok (.getfield 43, 3) := by decide +kernel
theorem dX7_within_41 : decode cX7_within 41 = .ok (.iload_n 3, 1) := by decide +kernel
theorem dX7_within_42 : decode cX7_within 42 = .ok (.invokevirtual 217, 3) := by decide +kernel
theorem dX7_within_45 : decode cX7_within 45 = .ok (.astore 4, 2) := by decide +kernel
theorem dX7_within_47 : decode cX7_within 47 = .ok (.iload_n 3, 1) := by decide +kernel
theorem dX7_within_48 : decode cX7_within 48 = .ok (.aload_n 0, 1) := by decide +kernel
theorem dX7_within_49 : decode cX7_within 49 = .ok (.getfield 43, 3) := by decide +kernel
theorem dX7_within_52 : decode cX7_within 52 = .ok (.getfield 216, 3) := by decide +kernel
theorem dX7_within_55 : decode cX7_within 55 = .ok (.iconst 1, 1) := by decide +kernel
theorem dX7_within_56 : decode cX7_within 56 = .ok (.isub, 1) := by decide +kernel
theorem dX7_within_57 : decode cX7_within 57 = .ok (.if_icmp .ne 15, 3) := by decide +kernel
theorem dX7_within_60 : decode cX7_within 60 = .ok (.aload_n 0, 1) := by decide +kernel
theorem dX7_within_61 : decode cX7_within 61 = .ok (.iconst 1, 1) := by decide +kernel
theorem dX7_within_62 : decode cX7_within 62 = .ok (.putfield 51, 3) := by decide +kernel
theorem dX7_within_65 : decode cX7_within 65 = .ok (.aload 4, 2) := by decide +kernel
theorem dX7_within_67 : decode cX7_within 67 = .ok (.getfield 210, 3) := by decide +kernel
theorem dX7_within_70 : decode cX7_within 70 = .ok (.i2l, 1) := by decide +kernel
theorem dX7_within_71 : decode cX7_within 71 = .ok (.lreturn, 1) := by decide +kernel
theorem dX7_within_72 : decode cX7_within 72 = .ok (.aload_n 0, 1) := by decide +kernel
theorem dX7_within_73 : decode cX7_within 73 = .ok (.getfield 43, 3) := by decide +kernel
theorem dX7_within_76 : decode cX7_within 76 = .ok (.iload_n 3, 1) := by decide +kernel
theorem dX7_within_77 : decode cX7_within 77 = .ok (.iconst 1, 1) := by decide +kernel
theorem dX7_within_78 : decode cX7_within 78 = .ok (.iadd, 1) := by decide +kernel
theorem dX7_within_79 : decode cX7_within 79 = .ok (.invokevirtual 217, 3) := by decide +kernel
theorem dX7_within_82 : decode cX7_within 82 = .ok (.getfield 207, 3) := by decide +kernel
theorem dX7_within_85 : decode cX7_within 85 = .ok (.lstore 5, 2) := by decide +kernel
theorem dX7_within_87 : decode cX7_within 87 = .ok (.aload 4, 2) := by decide +kernel
theorem dX7_within_89 : decode cX7_within 89 = .ok (.getfield 210, 3) := by decide +kernel
theorem dX7_within_92 : decode cX7_within 92 = .ok (.i2l, 1) := by decide +kernel
theorem dX7_within_93 : decode cX7_within 93 = .ok (.lload 5, 2) := by decide +kernel
theorem dX7_within_95 : decode cX7_within 95 = .ok (.lmul, 1) := by decide +kernel
theorem dX7_within_96 : decode cX7_within 96 = .ok (.lload_n 1, 1) := by decide +kernel
theorem dX7_within_97 : decode cX7_within 97 = .ok (.aload 4, 2) := by decide +kernel
theorem dX7_within_99 : decode cX7_within 99 = .ok (.getfield 201, 3) := by decide +kernel
theorem dX7_within_102 : decode cX7_within 102 = .ok (.lsub, 1) := by decide +kernel
theorem dX7_within_103 : decode cX7_within 103 = .ok (.lsub, 1) := by decide +kernel
theorem dX7_within_104 : decode cX7_within 104 = .ok (.lstore 7, 2) := by decide +kernel
theorem dX7_within_106 : decode cX7_within 106 = .ok (.lload 7, 2) := by decide +kernel
theorem dX7_within_108 : decode cX7_within 108 = .ok (.lload 5, 2) := by decide +kernel
theorem dX7_within_110 : decode cX7_within 110 = .ok (.invokestatic 224, 3) := by decide +kernel
theorem dX7_within_113 : decode cX7_within 113 = .ok (.lstore 9, 2) := by decide +kernel
theorem dX7_within_115 : decode cX7_within 115 = .ok (.aload_n 0, 1) := by decide +kernel
theorem dX7_within_116 : decode cX7_within 116 = .ok (.lload 5, 2) := by decide +kernel
theorem dX7_within_118 : decode cX7_within 118 = .ok (.lload 9, 2) := by decide +kernel
theorem dX7_within_120 : decode cX7_within 120 = .ok (.ldiv, 1) := by decide +kernel
theorem dX7_within_121 : decode cX7_within 121 = .ok (.l2i, 1) := by decide +kernel
theorem dX7_within_122 : decode cX7_within 122 = .ok (.putfield 51, 3) := by decide +kernel
theorem dX7_within_125 : decode cX7_within 125 = .ok (.lload 7, 2) := by decide +kernel
theorem dX7_within_127 : decode cX7_within 127 = .ok (.lload 9, 2) := by decide +kernel
theorem dX7_within_129 : decode cX7_within 129 = .ok (.ldiv, 1) := by decide +kernel
theorem dX7_within_130 : decode cX7_within 130 = .ok (.lreturn, 1) := by decide +kernel
set_option maxRecDepth 20000 in
theorem ggX7_plan_X7_readyCurve : GoodIn wsX7_plan wsX7_readyCurve := goodIn_r _ [14, 3, 15, 4, 16, 17, 18, 13, 19, 20, 21, 22, 23, 24, 25, 26, 27, 28, 29, 30, 31, 32, 7, 8, 9, 33, 34, 35, 36, 37, 38, 39, 40, 41, 42, 43, 44, 45, 46, 47, 48, 49, 50, 51, 52, 53, 54, 55, 56, 57, 58, 59, 60, 61, 62, 63, 64, 65, 66, 67, 68, 69, 70, 71, 72, 73, 74, 75, 76, 77, 78, 79, 80, 81, 82, 83, 84, 85, 86, 87, 88, 89, 90, 91, 92, 93, 94, 95, 96, 97, 98, 99, 100, 101, 102, 103, 104, 105, 106, 107, 108, 109, 110, 111, 112, 113, 114, 115, 116, 117, 118, 119, 120, 121, 122, 123, 124, 125, 126, 127, 128, 129, 130, 131, 132, 133, 134, 135, 136, 137, 138, 139, 140, 141, 142, 143, 144, 145, 146, 147, 148, 149, 150, 151, 152, 153, 154, 155, 156, 157, 158, 159, 160, 161, 162, 163, 164, 165, 166, 167, 168, 169, 170, 171, 172, 173, 174, 175, 176, 177, 178, 179, 180, 181, 182, 183, 184, 185, 186, 187, 188, 189, 190, 191, 192, 193, 194, 195, 196, 197, 198, 199, 200, 201, 202, 203, 204, 205, 206, 207, 208, 209, 210, 211, 212, 213, 214, 215, 240, 241, 242, 243, 244, 245, 246, 247, 248, 249, 250, 251, 252, 253, 263, 264, 265, 254, 255, 256, 257, 258, 259, 260, 261, 262, 266, 267, 268, 269, 270, 271, 272, 273, 274, 275, 276, 277, 278, 279, 280, 281, 282, 283, 284, 285, 286, 287, 288, 289, 290] (by decide +kernel) (by decide +kernel)
set_option maxRecDepth 20000 in
theorem gX7_plan_X7_readyCurve : GoodIn wsX7_plan (wsV RX7 190 RX7 yX7_readyCurve wsX7_readyCurve) := goodIn_app (goodIn_of _ (by decide +kernel)) ggX7_plan_X7_readyCurve
set_option maxRecDepth 20000 in
theorem ggX7_plan_X7_lengthFinding : GoodIn wsX7_plan wsX7_lengthFinding := goodIn_r _ [219, 220, 221, 222, 13, 223, 3, 15, 224, 225, 118, 119, 45, 120, 121, 122, 123, 124, 125, 126, 127, 128, 129, 130, 131, 132, 133, 134, 240, 241, 242, 243, 244, 245, 246, 247, 248, 249, 250, 251, 252, 253, 263, 264, 265, 269, 270, 271, 272, 273, 274, 275] (by decide +kernel) (by decide +kernel)
set_option maxRecDepth 20000 in
theorem gX7_plan_X7_lengthFinding : GoodIn wsX7_plan (wsV RX7 213 RX7 yX7_lengthFinding wsX7_lengthFinding) := goodIn_app (goodIn_of _ (by decide +kernel)) ggX7_plan_X7_lengthFinding
set_option maxRecDepth 20000 in
theorem ggX7_plan_X7_finding : GoodIn wsX7_plan wsX7_finding := goodIn_r _ [229, 230, 240, 241, 242, 243, 244, 245, 246, 247, 248, 249, 250, 251, 252, 253] (by decide +kernel) (by decide +kernel)
set_option maxRecDepth 20000 in
theorem gX7_plan_X7_finding : GoodIn wsX7_plan (wsV RX7 59 RX7 yX7_finding wsX7_finding) := goodIn_app (goodIn_of _ (by decide +kernel)) ggX7_plan_X7_finding
set_option maxRecDepth 20000 in
theorem ggX7_plan_X3_bendFor : GoodIn wsX7_plan wsX3_bendFor := goodIn_r _ [234, 48, 53, 117, 118, 119, 45, 120, 121, 122, 123, 124, 125, 126, 127, 128, 129, 130, 131, 132, 133, 134, 263, 264, 265, 269, 270, 271, 272, 273, 274, 275] (by decide +kernel) (by decide +kernel)
set_option maxRecDepth 20000 in
theorem gX7_plan_X3_bendFor : GoodIn wsX7_plan (wsV RX7 197 RX3 yX3_bendFor wsX3_bendFor) := goodIn_app (goodIn_of _ (by decide +kernel)) ggX7_plan_X3_bendFor
set_option maxRecDepth 20000 in
theorem ggX7_plan_X1_endAt : GoodIn wsX7_plan wsX1_endAt := goodIn_r _ [238, 132, 134, 239, 7, 8, 9, 269, 270, 271, 272, 273, 274, 275] (by decide +kernel) (by decide +kernel)
set_option maxRecDepth 20000 in
theorem gX7_plan_X1_endAt : GoodIn wsX7_plan (wsV RX7 235 RX1 yX1_endAt wsX1_endAt) := goodIn_app (goodIn_of _ (by decide +kernel)) ggX7_plan_X1_endAt
theorem dX7_plan_0 : decode cX7_plan 0 = .ok (.aload_n 0, 1) := by decide +kernel
theorem dX7_plan_1 : decode cX7_plan 1 = .ok (.invokevirtual 190, 3) := by decide +kernel
theorem dX7_plan_4 : decode cX7_plan 4 = .ok (.aload_n 0, 1) := by decide +kernel
theorem dX7_plan_5 : decode cX7_plan 5 = .ok (.iload_n 1, 1) := by decide +kernel
theorem dX7_plan_6 : decode cX7_plan 6 = .ok (.invokevirtual 213, 3) := by decide +kernel
theorem dX7_plan_9 : decode cX7_plan 9 = .ok (.istore_n 2, 1) := by decide +kernel
theorem dX7_plan_10 : decode cX7_plan 10 = .ok (.iload_n 2, 1) := by decide +kernel
theorem dX7_plan_11 : decode cX7_plan 11 = .ok (.ifCond .eq 9, 3) := by decide +kernel
theorem dX7_plan_14 : decode cX7_plan 14 = .ok (.aload_n 0, 1) := by decide +kernel
theorem dX7_plan_15 : decode cX7_plan 15 = .ok (.iload_n 2, 1) := by decide +kernel
theorem dX7_plan_16 : decode cX7_plan 16 = .ok (.invokevirtual 59, 3) := by decide +kernel
theorem dX7_plan_19 : decode cX7_plan 19 = .ok (.ireturn, 1) := by decide +kernel
theorem dX7_plan_20 : decode cX7_plan 20 = .ok (.aload_n 0, 1) := by decide +kernel
theorem dX7_plan_21 : decode cX7_plan 21 = .ok (.iconst 1, 1) := by decide +kernel
theorem dX7_plan_22 : decode cX7_plan 22 = .ok (.putfield 228, 3) := by decide +kernel
theorem dX7_plan_25 : decode cX7_plan 25 = .ok (.aload_n 0, 1) := by decide +kernel
theorem dX7_plan_26 : decode cX7_plan 26 = .ok (.iload_n 1, 1) := by decide +kernel
theorem dX7_plan_27 : decode cX7_plan 27 = .ok (.putfield 232, 3) := by decide +kernel
theorem dX7_plan_30 : decode cX7_plan 30 = .ok (.aload_n 0, 1) := by decide +kernel
theorem dX7_plan_31 : decode cX7_plan 31 = .ok (.getfield 43, 3) := by decide +kernel
theorem dX7_plan_34 : decode cX7_plan 34 = .ok (.iload_n 1, 1) := by decide +kernel
theorem dX7_plan_35 : decode cX7_plan 35 = .ok (.invokevirtual 197, 3) := by decide +kernel
theorem dX7_plan_38 : decode cX7_plan 38 = .ok (.astore_n 3, 1) := by decide +kernel
theorem dX7_plan_39 : decode cX7_plan 39 = .ok (.iconst 0, 1) := by decide +kernel
theorem dX7_plan_40 : decode cX7_plan 40 = .ok (.istore 4, 2) := by decide +kernel
theorem dX7_plan_42 : decode cX7_plan 42 = .ok (.iconst 0, 1) := by decide +kernel
theorem dX7_plan_43 : decode cX7_plan 43 = .ok (.istore 5, 2) := by decide +kernel
theorem dX7_plan_45 : decode cX7_plan 45 = .ok (.iload 5, 2) := by decide +kernel
theorem dX7_plan_47 : decode cX7_plan 47 = .ok (.aload_n 0, 1) := by decide +kernel
theorem dX7_plan_48 : decode cX7_plan 48 = .ok (.getfield 19, 3) := by decide +kernel
theorem dX7_plan_51 : decode cX7_plan 51 = .ok (.getfield 104, 3) := by decide +kernel
theorem dX7_plan_54 : decode cX7_plan 54 = .ok (.if_icmp .ge 23, 3) := by decide +kernel
theorem dX7_plan_57 : decode cX7_plan 57 = .ok (.iload 4, 2) := by decide +kernel
theorem dX7_plan_59 : decode cX7_plan 59 = .ok (.aload_n 3, 1) := by decide +kernel
theorem dX7_plan_60 : decode cX7_plan 60 = .ok (.iload 5, 2) := by decide +kernel
theorem dX7_plan_62 : decode cX7_plan 62 = .ok (.iload_n 1, 1) := by decide +kernel
theorem dX7_plan_63 : decode cX7_plan 63 = .ok (.invokevirtual 235, 3) := by decide +kernel
theorem dX7_plan_66 : decode cX7_plan 66 = .ok (.invokestatic 238, 3) := by decide +kernel
theorem dX7_plan_69 : decode cX7_plan 69 = .ok (.istore 4, 2) := by decide +kernel
theorem dX7_plan_71 : decode cX7_plan 71 = .ok (.iinc 5 1, 3) := by decide +kernel
theorem dX7_plan_74 : decode cX7_plan 74 = .ok (.goto (-29), 3) := by decide +kernel
theorem dX7_plan_77 : decode cX7_plan 77 = .ok (.iload 4, 2) := by decide +kernel
theorem dX7_plan_79 : decode cX7_plan 79 = .ok (.ireturn, 1) := by decide +kernel
set_option maxRecDepth 20000 in
theorem ggX7_planned_X7_finding : GoodIn wsX7_planned wsX7_finding := goodIn_r _ [9, 10, 241, 242, 243, 244, 245, 246, 247, 248, 249, 250, 251, 252, 253, 254] (by decide +kernel) (by decide +kernel)
set_option maxRecDepth 20000 in
theorem gX7_planned_X7_finding : GoodIn wsX7_planned (wsV RX7 59 RX7 yX7_finding wsX7_finding) := goodIn_app (goodIn_of _ (by decide +kernel)) ggX7_planned_X7_finding
set_option maxRecDepth 20000 in
theorem ggX7_planned_X5_has : GoodIn wsX7_planned wsX5_has := goodIn_r _ [15, 16, 255, 256, 257, 258, 259, 260, 261, 262, 263] (by decide +kernel) (by decide +kernel)
set_option maxRecDepth 20000 in
theorem gX7_planned_X5_has : GoodIn wsX7_planned (wsV RX7 117 RX5 yX5_has wsX5_has) := goodIn_app (goodIn_of _ (by decide +kernel)) ggX7_planned_X5_has
set_option maxRecDepth 20000 in
theorem ggX7_planned_X7_readyCurve : GoodIn wsX7_planned wsX7_readyCurve := goodIn_r _ [20, 3, 21, 2, 22, 23, 24, 8, 25, 26, 27, 28, 29, 30, 31, 32, 33, 34, 35, 36, 37, 38, 39, 40, 41, 42, 43, 44, 14, 45, 16, 46, 47, 48, 49, 50, 51, 52, 53, 54, 55, 56, 57, 58, 59, 60, 61, 62, 63, 64, 65, 66, 67, 68, 69, 70, 71, 72, 73, 74, 75, 76, 77, 78, 79, 80, 81, 82, 83, 84, 85, 86, 87, 88, 89, 90, 91, 92, 93, 94, 95, 96, 97, 98, 99, 100, 101, 102, 103, 104, 105, 106, 107, 108, 109, 110, 111, 112, 113, 114, 115, 116, 117, 118, 119, 120, 121, 122, 123, 124, 125, 126, 127, 128, 129, 130, 131, 132, 133, 134, 135, 136, 137, 138, 139, 140, 141, 142, 143, 144, 145, 146, 147, 148, 149, 150, 151, 152, 153, 154, 155, 156, 157, 158, 159, 160, 161, 162, 163, 164, 165, 166, 167, 168, 169, 170, 171, 172, 173, 174, 175, 176, 177, 178, 179, 180, 181, 182, 183, 184, 185, 186, 187, 188, 189, 190, 191, 192, 193, 194, 195, 196, 197, 198, 199, 200, 201, 202, 203, 204, 205, 206, 207, 208, 209, 210, 211, 212, 213, 214, 215, 216, 217, 218, 219, 220, 221, 222, 241, 242, 243, 244, 245, 246, 247, 248, 249, 250, 251, 252, 253, 254, 264, 265, 266, 255, 256, 257, 258, 259, 260, 261, 262, 263, 267, 268, 269, 270, 271, 272, 273, 274, 275, 276, 277, 278, 279, 280, 281, 282, 283, 284, 285, 286, 287, 288, 289, 290, 291] (by decide +kernel) (by decide +kernel)
set_option maxRecDepth 20000 in
theorem gX7_planned_X7_readyCurve : GoodIn wsX7_planned (wsV RX7 190 RX7 yX7_readyCurve wsX7_readyCurve) := goodIn_app (goodIn_of _ (by decide +kernel)) ggX7_planned_X7_readyCurve
set_option maxRecDepth 20000 in
theorem ggX7_planned_X3_bendFor : GoodIn wsX7_planned wsX3_bendFor := goodIn_r _ [226, 55, 60, 124, 125, 126, 52, 127, 128, 129, 130, 131, 132, 133, 134, 135, 136, 137, 138, 139, 140, 141, 264, 265, 266, 270, 271, 272, 273, 274, 275, 276] (by decide +kernel) (by decide +kernel)
set_option maxRecDepth 20000 in
theorem gX7_planned_X3_bendFor : GoodIn wsX7_planned (wsV RX7 197 RX3 yX3_bendFor wsX3_bendFor) := goodIn_app (goodIn_of _ (by decide +kernel)) ggX7_planned_X3_bendFor
set_option maxRecDepth 20000 in
theorem ggX7_planned_X1_spanAt : GoodIn wsX7_planned wsX1_spanAt := goodIn_r _ [230, 231, 232, 233, 131, 234, 139, 141, 235, 39, 40, 41, 236, 237, 238, 239, 138, 140, 270, 271, 272, 273, 274, 275, 276] (by decide +kernel) (by decide +kernel)
set_option maxRecDepth 20000 in
theorem gX7_planned_X1_spanAt : GoodIn wsX7_planned (wsV RX7 243 RX1 yX1_spanAt wsX1_spanAt) := goodIn_app (goodIn_of _ (by decide +kernel)) ggX7_planned_X1_spanAt
set_option maxRecDepth 20000 in
theorem ggX7_planned_X1_beginAt : GoodIn wsX7_planned wsX1_beginAt := goodIn_r _ [239, 138, 140, 235, 39, 40, 41, 270, 271, 272, 273, 274, 275, 276] (by decide +kernel) (by decide +kernel)
set_option maxRecDepth 20000 in
theorem gX7_planned_X1_beginAt : GoodIn wsX7_planned (wsV RX7 246 RX1 yX1_beginAt wsX1_beginAt) := goodIn_app (goodIn_of _ (by decide +kernel)) ggX7_planned_X1_beginAt
theorem dX7_planned_0 : decode cX7_planned 0 = .ok (.aload_n 0, 1) := by decide +kernel
theorem dX7_planned_1 : decode cX7_planned 1 = .ok (.getfield 228, 3) := by decide +kernel
theorem dX7_planned_4 : decode cX7_planned 4 = .ok (.ifCond .ne 10, 3) := by decide +kernel
theorem dX7_planned_7 : decode cX7_planned 7 = .ok (.aload_n 0, 1) := by decide +kernel
theorem dX7_planned_8 : decode cX7_planned 8 = .ok (.bipush (-7), 2) := by decide +kernel
theorem dX7_planned_10 : decode cX7_planned 10 = .ok (.invokevirtual 59, 3) := by decide +kernel
theorem dX7_planned_13 : decode cX7_planned 13 = .ok (.ireturn, 1) := by decide +kernel
theorem dX7_planned_14 : decode cX7_planned 14 = .ok (.aload_n 0, 1) := by decide +kernel
theorem dX7_planned_15 : decode cX7_planned 15 = .ok (.getfield 19, 3) := by decide +kernel
theorem dX7_planned_18 : decode cX7_planned 18 = .ok (.iload_n 1, 1) := by decide +kernel
theorem dX7_planned_19 : decode cX7_planned 19 = .ok (.invokevirtual 117, 3) := by decide +kernel
theorem dX7_planned_22 : decode cX7_planned 22 = .ok (.ifCond .ne 9, 3) := by decide +kernel
theorem dX7_planned_25 : decode cX7_planned 25 = .ok (.aload_n 0, 1) := by decide +kernel
theorem dX7_planned_26 : decode cX7_planned 26 = .ok (.iconst (-1), 1) := by decide +kernel
theorem dX7_planned_27 : decode cX7_planned 27 = .ok (.invokevirtual 59, 3) := by decide +kernel
theorem dX7_planned_30 : decode cX7_planned 30 = .ok (.ireturn, 1) := by decide +kernel
theorem dX7_planned_31 : decode cX7_planned 31 = .ok (.aload_n 0, 1) := by decide +kernel
theorem dX7_planned_32 : decode cX7_planned 32 = .ok (.invokevirtual 190, 3) := by decide +kernel
theorem dX7_planned_35 : decode cX7_planned 35 = .ok (.aload_n 0, 1) := by decide +kernel
theorem dX7_planned_36 : decode cX7_planned 36 = .ok (.getfield 43, 3) := by decide +kernel
theorem dX7_planned_39 : decode cX7_planned 39 = .ok (.aload_n 0, 1) := by decide +kernel
theorem dX7_planned_40 : decode cX7_planned 40 = .ok (.getfield 232, 3) := by decide +kernel
theorem dX7_planned_43 : decode cX7_planned 43 = .ok (.invokevirtual 197, 3) := by decide +kernel
theorem dX7_planned_46 : decode cX7_planned 46 = .ok (.astore_n 3, 1) := by decide +kernel
theorem dX7_planned_47 : decode cX7_planned 47 = .ok (.iload_n 2, 1) := by decide +kernel
theorem dX7_planned_48 : decode cX7_planned 48 = .ok (.ifCond .eq 15, 3) := by decide +kernel
theorem dX7_planned_51 : decode cX7_planned 51 = .ok (.aload_n 3, 1) := by decide +kernel
theorem dX7_planned_52 : decode cX7_planned 52 = .ok (.iload_n 1, 1) := by decide +kernel
theorem dX7_planned_53 : decode cX7_planned 53 = .ok (.aload_n 0, 1) := by decide +kernel
theorem dX7_planned_54 : decode cX7_planned 54 = .ok (.getfield 232, 3) := by decide +kernel
theorem dX7_planned_57 : decode cX7_planned 57 = .ok (.invokevirtual 243, 3) := by decide +kernel
theorem dX7_planned_60 : decode cX7_planned 60 = .ok (.goto 12, 3) := by decide +kernel
theorem dX7_planned_63 : decode cX7_planned 63 = .ok (.aload_n 3, 1) := by decide +kernel
theorem dX7_planned_64 : decode cX7_planned 64 = .ok (.iload_n 1, 1) := by decide +kernel
theorem dX7_planned_65 : decode cX7_planned 65 = .ok (.aload_n 0, 1) := by decide +kernel
theorem dX7_planned_66 : decode cX7_planned 66 = .ok (.getfield 232, 3) := by decide +kernel
theorem dX7_planned_69 : decode cX7_planned 69 = .ok (.invokevirtual 246, 3) := by decide +kernel
theorem dX7_planned_72 : decode cX7_planned 72 = .ok (.ireturn, 1) := by decide +kernel
set_option maxRecDepth 20000 in
theorem ggX7_cost_X7_finding : GoodIn wsX7_cost wsX7_finding := goodIn_r _ [8, 9, 230, 231, 232, 233, 234, 235, 236, 237, 238, 239, 240, 241, 242, 243] (by decide +kernel) (by decide +kernel)
set_option maxRecDepth 20000 in
theorem gX7_cost_X7_finding : GoodIn wsX7_cost (wsV RX7 59 RX7 yX7_finding wsX7_finding) := goodIn_app (goodIn_of _ (by decide +kernel)) ggX7_cost_X7_finding
set_option maxRecDepth 20000 in
theorem ggX7_cost_X7_readyCurve : GoodIn wsX7_cost wsX7_readyCurve := goodIn_r _ [13, 2, 14, 15, 16, 17, 18, 7, 19, 20, 21, 22, 23, 24, 25, 26, 27, 28, 29, 30, 31, 32, 33, 34, 35, 36, 37, 38, 39, 40, 41, 42, 43, 44, 45, 46, 47, 48, 49, 50, 51, 52, 53, 54, 55, 56, 57, 58, 59, 60, 61, 62, 63, 64, 65, 66, 67, 68, 69, 70, 71, 72, 73, 74, 75, 76, 77, 78, 79, 80, 81, 82, 83, 84, 85, 86, 87, 88, 89, 90, 91, 92, 93, 94, 95, 96, 97, 98, 99, 100, 101, 102, 103, 104, 105, 106, 107, 108, 109, 110, 111, 112, 113, 114, 115, 116, 117, 118, 119, 120, 121, 122, 123, 124, 125, 126, 127, 128, 129, 130, 131, 132, 133, 134, 135, 136, 137, 138, 139, 140, 141, 142, 143, 144, 145, 146, 147, 148, 149, 150, 151, 152, 153, 154, 155, 156, 157, 158, 159, 160, 161, 162, 163, 164, 165, 166, 167, 168, 169, 170, 171, 172, 173, 174, 175, 176, 177, 178, 179, 180, 181, 182, 183, 184, 185, 186, 187, 188, 189, 190, 191, 192, 193, 194, 195, 196, 197, 198, 199, 200, 201, 202, 203, 204, 205, 206, 207, 208, 209, 210, 211, 212, 213, 214, 215, 216, 217, 218, 230, 231, 232, 233, 234, 235, 236, 237, 238, 239, 240, 241, 242, 243, 244, 245, 246, 247, 248, 249, 250, 251, 252, 253, 254, 255, 256, 257, 258, 259, 260, 261, 262, 263, 264, 265, 266, 267, 268, 269, 270, 271, 272, 273, 274, 275, 276, 277, 278, 279, 280] (by decide +kernel) (by decide +kernel)
set_option maxRecDepth 20000 in
theorem gX7_cost_X7_readyCurve : GoodIn wsX7_cost (wsV RX7 190 RX7 yX7_readyCurve wsX7_readyCurve) := goodIn_app (goodIn_of _ (by decide +kernel)) ggX7_cost_X7_readyCurve
set_option maxRecDepth 20000 in
theorem ggX7_cost_X3_bendFor : GoodIn wsX7_cost wsX3_bendFor := goodIn_r _ [222, 51, 56, 120, 121, 122, 48, 123, 124, 125, 126, 127, 128, 129, 130, 131, 132, 133, 134, 135, 136, 137, 244, 245, 246, 259, 260, 261, 262, 263, 264, 265] (by decide +kernel) (by decide +kernel)
set_option maxRecDepth 20000 in
theorem gX7_cost_X3_bendFor : GoodIn wsX7_cost (wsV RX7 197 RX3 yX3_bendFor wsX3_bendFor) := goodIn_app (goodIn_of _ (by decide +kernel)) ggX7_cost_X3_bendFor
set_option maxRecDepth 20000 in
theorem ggX7_cost_X1_costAt : GoodIn wsX7_cost wsX1_costAt := goodIn_r _ [226, 227, 228, 229, 259, 260, 261, 262, 263, 264, 265] (by decide +kernel) (by decide +kernel)
set_option maxRecDepth 20000 in
theorem gX7_cost_X1_costAt : GoodIn wsX7_cost (wsV RX7 249 RX1 yX1_costAt wsX1_costAt) := goodIn_app (goodIn_of _ (by decide +kernel)) ggX7_cost_X1_costAt
theorem dX7_cost_0 : decode cX7_cost 0 = .ok (.aload_n 0, 1) := by decide +kernel
theorem dX7_cost_1 : decode cX7_cost 1 = .ok (.getfield 228, 3) := by decide +kernel
theorem dX7_cost_4 : decode cX7_cost 4 = .ok (.ifCond .ne 11, 3) := by decide +kernel
theorem dX7_cost_7 : decode cX7_cost 7 = .ok (.aload_n 0, 1) := by decide +kernel
theorem dX7_cost_8 : decode cX7_cost 8 = .ok (.bipush (-7), 2) := by decide +kernel
theorem dX7_cost_10 : decode cX7_cost 10 = .ok (.invokevirtual 59, 3) := by decide +kernel
theorem dX7_cost_13 : decode cX7_cost 13 = .ok (.i2l, 1) := by decide +kernel
theorem dX7_cost_14 : decode cX7_cost 14 = .ok (.lreturn, 1) := by decide +kernel
theorem dX7_cost_15 : decode cX7_cost 15 = .ok (.aload_n 0, 1) := by decide +kernel
theorem dX7_cost_16 : decode cX7_cost 16 = .ok (.invokevirtual 190, 3) := by decide +kernel
theorem dX7_cost_19 : decode cX7_cost 19 = .ok (.aload_n 0, 1) := by decide +kernel
theorem dX7_cost_20 : decode cX7_cost 20 = .ok (.getfield 43, 3) := by decide +kernel
theorem dX7_cost_23 : decode cX7_cost 23 = .ok (.aload_n 0, 1) := by decide +kernel
theorem dX7_cost_24 : decode cX7_cost 24 = .ok (.getfield 232, 3) := by decide +kernel
theorem dX7_cost_27 : decode cX7_cost 27 = .ok (.invokevirtual 197, 3) := by decide +kernel
theorem dX7_cost_30 : decode cX7_cost 30 = .ok (.aload_n 0, 1) := by decide +kernel
theorem dX7_cost_31 : decode cX7_cost 31 = .ok (.getfield 232, 3) := by decide +kernel
theorem dX7_cost_34 : decode cX7_cost 34 = .ok (.invokevirtual 249, 3) := by decide +kernel
theorem dX7_cost_37 : decode cX7_cost 37 = .ok (.lreturn, 1) := by decide +kernel
set_option maxRecDepth 20000 in
theorem ggX7_hurried_X7_readyCurve : GoodIn wsX7_hurried wsX7_readyCurve := goodIn_r _ [8, 1, 9, 2, 10, 11, 12, 7, 13, 14, 15, 16, 17, 18, 19, 20, 21, 22, 23, 24, 25, 26, 27, 28, 29, 30, 31, 32, 33, 34, 35, 36, 37, 38, 39, 40, 41, 42, 43, 44, 45, 46, 47, 48, 49, 50, 51, 52, 53, 54, 55, 56, 57, 58, 59, 60, 61, 62, 63, 64, 65, 66, 67, 68, 69, 70, 71, 72, 73, 74, 75, 76, 77, 78, 79, 80, 81, 82, 83, 84, 85, 86, 87, 88, 89, 90, 91, 92, 93, 94, 95, 96, 97, 98, 99, 100, 101, 102, 103, 104, 105, 106, 107, 108, 109, 110, 111, 112, 113, 114, 115, 116, 117, 118, 119, 120, 121, 122, 123, 124, 125, 126, 127, 128, 129, 130, 131, 132, 133, 134, 135, 136, 137, 138, 139, 140, 141, 142, 143, 144, 145, 146, 147, 148, 149, 150, 151, 152, 153, 154, 155, 156, 157, 158, 159, 160, 161, 162, 163, 164, 165, 166, 167, 168, 169, 170, 171, 172, 173, 174, 175, 176, 177, 178, 179, 180, 181, 182, 183, 184, 185, 186, 187, 188, 189, 190, 191, 192, 193, 194, 195, 196, 197, 198, 199, 200, 201, 202, 203, 204, 205, 206, 207, 208, 209, 210, 211, 212, 245, 246, 247, 248, 249, 250, 251, 252, 253, 254, 255, 256, 257, 258, 268, 269, 270, 259, 260, 261, 262, 263, 264, 265, 266, 267, 271, 272, 273, 274, 275, 276, 277, 278, 279, 280, 281, 282, 283, 284, 285, 286, 287, 288, 289, 290, 291, 292, 293, 294, 295] (by decide +kernel) (by decide +kernel)
set_option maxRecDepth 20000 in
theorem gX7_hurried_X7_readyCurve : GoodIn wsX7_hurried (wsV RX7 190 RX7 yX7_readyCurve wsX7_readyCurve) := goodIn_app (goodIn_of _ (by decide +kernel)) ggX7_hurried_X7_readyCurve
set_option maxRecDepth 20000 in
theorem ggX7_hurried_X7_lengthFinding : GoodIn wsX7_hurried wsX7_lengthFinding := goodIn_r _ [216, 217, 218, 219, 7, 220, 1, 9, 221, 222, 115, 116, 42, 117, 118, 119, 120, 121, 122, 123, 124, 125, 126, 127, 128, 129, 130, 131, 245, 246, 247, 248, 249, 250, 251, 252, 253, 254, 255, 256, 257, 258, 268, 269, 270, 274, 275, 276, 277, 278, 279, 280] (by decide +kernel) (by decide +kernel)
set_option maxRecDepth 20000 in
theorem gX7_hurried_X7_lengthFinding : GoodIn wsX7_hurried (wsV RX7 213 RX7 yX7_lengthFinding wsX7_lengthFinding) := goodIn_app (goodIn_of _ (by decide +kernel)) ggX7_hurried_X7_lengthFinding
set_option maxRecDepth 20000 in
theorem ggX7_hurried_X7_finding : GoodIn wsX7_hurried wsX7_finding := goodIn_r _ [226, 227, 245, 246, 247, 248, 249, 250, 251, 252, 253, 254, 255, 256, 257, 258] (by decide +kernel) (by decide +kernel)
set_option maxRecDepth 20000 in
theorem gX7_hurried_X7_finding : GoodIn wsX7_hurried (wsV RX7 59 RX7 yX7_finding wsX7_finding) := goodIn_app (goodIn_of _ (by decide +kernel)) ggX7_hurried_X7_finding
set_option maxRecDepth 20000 in
theorem ggX7_hurried_X3_bendFor : GoodIn wsX7_hurried wsX3_bendFor := goodIn_r _ [231, 45, 50, 114, 115, 116, 42, 117, 118, 119, 120, 121, 122, 123, 124, 125, 126, 127, 128, 129, 130, 131, 268, 269, 270, 274, 275, 276, 277, 278, 279, 280] (by decide +kernel) (by decide +kernel)
set_option maxRecDepth 20000 in
theorem gX7_hurried_X3_bendFor : GoodIn wsX7_hurried (wsV RX7 197 RX3 yX3_bendFor wsX3_bendFor) := goodIn_app (goodIn_of _ (by decide +kernel)) ggX7_hurried_X3_bendFor
set_option maxRecDepth 20000 in
theorem ggX7_hurried_X1_spanAt : GoodIn wsX7_hurried wsX1_spanAt := goodIn_r _ [235, 236, 237, 238, 121, 239, 129, 131, 240, 27, 28, 29, 241, 242, 243, 244, 128, 130, 274, 275, 276, 277, 278, 279, 280] (by decide +kernel) (by decide +kernel)
set_option maxRecDepth 20000 in
theorem gX7_hurried_X1_spanAt : GoodIn wsX7_hurried (wsV RX7 243 RX1 yX1_spanAt wsX1_spanAt) := goodIn_app (goodIn_of _ (by decide +kernel)) ggX7_hurried_X1_spanAt
theorem dX7_hurried_0 : decode cX7_hurried 0 = .ok (.aload_n 0, 1) := by decide +kernel
theorem dX7_hurried_1 : decode cX7_hurried 1 = .ok (.invokevirtual 190, 3) := by decide +kernel
theorem dX7_hurried_4 : decode cX7_hurried 4 = .ok (.aload_n 0, 1) := by decide +kernel
theorem dX7_hurried_5 : decode cX7_hurried 5 = .ok (.iload_n 1, 1) := by decide +kernel
theorem dX7_hurried_6 : decode cX7_hurried 6 = .ok (.invokevirtual 213, 3) := by decide +kernel
theorem dX7_hurried_9 : decode cX7_hurried 9 = .ok (.istore_n 3, 1) := by decide +kernel
theorem dX7_hurried_10 : decode cX7_hurried 10 = .ok (.iload_n 3, 1) := by decide +kernel
theorem dX7_hurried_11 : decode cX7_hurried 11 = .ok (.ifCond .eq 9, 3) := by decide +kernel
theorem dX7_hurried_14 : decode cX7_hurried 14 = .ok (.aload_n 0, 1) := by decide +kernel
theorem dX7_hurried_15 : decode cX7_hurried 15 = .ok (.iload_n 3, 1) := by decide +kernel
theorem dX7_hurried_16 : decode cX7_hurried 16 = .ok (.invokevirtual 59, 3) := by decide +kernel
theorem dX7_hurried_19 : decode cX7_hurried 19 = .ok (.ireturn, 1) := by decide +kernel
theorem dX7_hurried_20 : decode cX7_hurried 20 = .ok (.aload_n 0, 1) := by decide +kernel
theorem dX7_hurried_21 : decode cX7_hurried 21 = .ok (.getfield 43, 3) := by decide +kernel
theorem dX7_hurried_24 : decode cX7_hurried 24 = .ok (.iload_n 1, 1) := by decide +kernel
theorem dX7_hurried_25 : decode cX7_hurried 25 = .ok (.invokevirtual 197, 3) := by decide +kernel
theorem dX7_hurried_28 : decode cX7_hurried 28 = .ok (.astore 4, 2) := by decide +kernel
theorem dX7_hurried_30 : decode cX7_hurried 30 = .ok (.aload_n 0, 1) := by decide +kernel
theorem dX7_hurried_31 : decode cX7_hurried 31 = .ok (.getfield 43, 3) := by decide +kernel
theorem dX7_hurried_34 : decode cX7_hurried 34 = .ok (.iload_n 1, 1) := by decide +kernel
theorem dX7_hurried_35 : decode cX7_hurried 35 = .ok (.iconst 1, 1) := by decide +kernel
theorem dX7_hurried_36 : decode cX7_hurried 36 = .ok (.iadd, 1) := by decide +kernel
theorem dX7_hurried_37 : decode cX7_hurried 37 = .ok (.invokevirtual 197, 3) := by decide +kernel
theorem dX7_hurried_40 : decode cX7_hurried 40 = .ok (.astore 5, 2) := by decide +kernel
theorem dX7_hurried_42 : decode cX7_hurried 42 = .ok (.iconst 0, 1) := by decide +kernel
theorem dX7_hurried_43 : decode cX7_hurried 43 = .ok (.istore 6, 2) := by decide +kernel
theorem dX7_hurried_45 : decode cX7_hurried 45 = .ok (.iconst 0, 1) := by decide +kernel
theorem dX7_hurried_46 : decode cX7_hurried 46 = .ok (.istore 7, 2) := by decide +kernel
theorem dX7_hurried_48 : decode cX7_hurried 48 = .ok (.iload 7, 2) := by decide +kernel
theorem dX7_hurried_50 : decode cX7_hurried 50 = .ok (.aload_n 0, 1) := by decide +kernel
theorem dX7_hurried_51 : decode cX7_hurried 51 = .ok (.getfield 19, 3) := by decide +kernel
theorem dX7_hurried_54 : decode cX7_hurried 54 = .ok (.getfield 104, 3) := by decide +kernel
theorem dX7_hurried_57 : decode cX7_hurried 57 = .ok (.if_icmp .ge 56, 3) := by decide +kernel
theorem dX7_hurried_60 : decode cX7_hurried 60 = .ok (.aload 5, 2) := by decide +kernel
theorem dX7_hurried_62 : decode cX7_hurried 62 = .ok (.iload 7, 2) := by decide +kernel
theorem dX7_hurried_64 : decode cX7_hurried 64 = .ok (.iload_n 1, 1) := by decide +kernel
theorem dX7_hurried_65 : decode cX7_hurried 65 = .ok (.iconst 1, 1) := by decide +kernel
theorem dX7_hurried_66 : decode cX7_hurried 66 = .ok (.iadd, 1) := by decide +kernel
theorem dX7_hurried_67 : decode cX7_hurried 67 = .ok (.invokevirtual 243, 3) := by decide +kernel
theorem dX7_hurried_70 : decode cX7_hurried 70 = .ok (.aload 4, 2) := by decide +kernel
theorem dX7_hurried_72 : decode cX7_hurried 72 = .ok (.iload 7, 2) := by decide +kernel
theorem dX7_hurried_74 : decode cX7_hurried 74 = .ok (.iload_n 1, 1) := by decide +kernel
theorem dX7_hurried_75 : decode cX7_hurried 75 = .ok (.invokevirtual 243, 3) := by decide +kernel
theorem dX7_hurried_78 : decode cX7_hurried 78 = .ok (.isub, 1) := by decide +kernel
theorem dX7_hurried_79 : decode cX7_hurried 79 = .ok (.istore 8, 2) := by decide +kernel
theorem dX7_hurried_81 : decode cX7_hurried 81 = .ok (.iload_n 2, 1) := by decide +kernel
theorem dX7_hurried_82 : decode cX7_hurried 82 = .ok (.ifCond .eq 11, 3) := by decide +kernel
theorem dX7_hurried_85 : decode cX7_hurried 85 = .ok (.iload 8, 2) := by decide +kernel
theorem dX7_hurried_87 : decode cX7_hurried 87 = .ok (.ifCond .ge 20, 3) := by decide +kernel
theorem dX7_hurried_90 : decode cX7_hurried 90 = .ok (.goto 8, 3) := by decide +kernel
theorem dX7_hurried_93 : decode cX7_hurried 93 = .ok (.iload 8, 2) := by decide +kernel
theorem dX7_hurried_95 : decode cX7_hurried 95 = .ok (.ifCond .le 12, 3) := by decide +kernel
theorem dX7_hurried_98 : decode cX7_hurried 98 = .ok (.iload 6, 2) := by decide +kernel
theorem dX7_hurried_100 : decode cX7_hurried 100 = .ok (.iconst 1, 1) := by decide +kernel
theorem dX7_hurried_101 : decode cX7_hurried 101 = .ok (.iload 7, 2) := by decide +kernel
theorem dX7_hurried_103 : decode cX7_hurried 103 = .ok (.ishl, 1) := by decide +kernel
theorem dX7_hurried_104 : decode cX7_hurried 104 = .ok (.ior, 1) := by decide +kernel
theorem dX7_hurried_105 : decode cX7_hurried 105 = .ok (.istore 6, 2) := by decide +kernel
theorem dX7_hurried_107 : decode cX7_hurried 107 = .ok (.iinc 7 1, 3) := by decide +kernel
theorem dX7_hurried_110 : decode cX7_hurried 110 = .ok (.goto (-62), 3) := by decide +kernel
theorem dX7_hurried_113 : decode cX7_hurried 113 = .ok (.iload 6, 2) := by decide +kernel
theorem dX7_hurried_115 : decode cX7_hurried 115 = .ok (.ireturn, 1) := by decide +kernel
set_option maxRecDepth 20000 in
theorem ggX7_tell_X7_finding : GoodIn wsX7_tell wsX7_finding := goodIn_r _ [7, 8, 9, 10, 11, 12, 13, 14, 15, 16, 17, 18, 19, 20, 21, 22] (by decide +kernel) (by decide +kernel)
set_option maxRecDepth 20000 in
theorem gX7_tell_X7_finding : GoodIn wsX7_tell (wsV RX7 59 RX7 yX7_finding wsX7_finding) := goodIn_app (goodIn_of _ (by decide +kernel)) ggX7_tell_X7_finding
theorem dX7_tell_0 : decode cX7_tell 0 = .ok (.aload_n 0, 1) := by decide +kernel
theorem dX7_tell_1 : decode cX7_tell 1 = .ok (.getfield 253, 3) := by decide +kernel
theorem dX7_tell_4 : decode cX7_tell 4 = .ok (.bipush 60, 2) := by decide +kernel
theorem dX7_tell_6 : decode cX7_tell 6 = .ok (.if_icmp .lt 10, 3) := by decide +kernel
theorem dX7_tell_9 : decode cX7_tell 9 = .ok (.aload_n 0, 1) := by decide +kernel
theorem dX7_tell_10 : decode cX7_tell 10 = .ok (.bipush (-5), 2) := by decide +kernel
theorem dX7_tell_12 : decode cX7_tell 12 = .ok (.invokevirtual 59, 3) := by decide +kernel
theorem dX7_tell_15 : decode cX7_tell 15 = .ok (.ireturn, 1) := by decide +kernel
theorem dX7_tell_16 : decode cX7_tell 16 = .ok (.aload_n 0, 1) := by decide +kernel
theorem dX7_tell_17 : decode cX7_tell 17 = .ok (.getfield 47, 3) := by decide +kernel
theorem dX7_tell_20 : decode cX7_tell 20 = .ok (.aload_n 0, 1) := by decide +kernel
theorem dX7_tell_21 : decode cX7_tell 21 = .ok (.getfield 253, 3) := by decide +kernel
theorem dX7_tell_24 : decode cX7_tell 24 = .ok (.iload_n 1, 1) := by decide +kernel
theorem dX7_tell_25 : decode cX7_tell 25 = .ok (.iastore, 1) := by decide +kernel
theorem dX7_tell_26 : decode cX7_tell 26 = .ok (.aload_n 0, 1) := by decide +kernel
theorem dX7_tell_27 : decode cX7_tell 27 = .ok (.dup, 1) := by decide +kernel
theorem dX7_tell_28 : decode cX7_tell 28 = .ok (.getfield 253, 3) := by decide +kernel
theorem dX7_tell_31 : decode cX7_tell 31 = .ok (.iconst 1, 1) := by decide +kernel
theorem dX7_tell_32 : decode cX7_tell 32 = .ok (.iadd, 1) := by decide +kernel
theorem dX7_tell_33 : decode cX7_tell 33 = .ok (.putfield 253, 3) := by decide +kernel
theorem dX7_tell_36 : decode cX7_tell 36 = .ok (.aload_n 0, 1) := by decide +kernel
theorem dX7_tell_37 : decode cX7_tell 37 = .ok (.getfield 253, 3) := by decide +kernel
theorem dX7_tell_40 : decode cX7_tell 40 = .ok (.ireturn, 1) := by decide +kernel
set_option maxRecDepth 20000 in
theorem ggX7_check_X7_readyCurve : GoodIn wsX7_check wsX7_readyCurve := goodIn_r _ [10, 5, 11, 2, 12, 13, 14, 9, 15, 16, 17, 18, 19, 20, 21, 22, 23, 24, 25, 26, 27, 28, 29, 30, 31, 32, 33, 34, 35, 36, 37, 38, 39, 40, 41, 42, 43, 44, 45, 46, 47, 48, 49, 50, 51, 52, 53, 54, 55, 56, 57, 58, 59, 60, 61, 62, 63, 64, 65, 66, 67, 68, 69, 70, 71, 72, 73, 74, 75, 76, 77, 78, 79, 80, 81, 82, 83, 84, 85, 86, 87, 88, 89, 90, 91, 92, 93, 94, 95, 96, 97, 98, 99, 100, 101, 102, 103, 104, 105, 106, 107, 108, 109, 110, 111, 112, 113, 114, 115, 116, 117, 118, 119, 120, 121, 122, 123, 124, 125, 126, 127, 128, 129, 130, 131, 132, 133, 134, 135, 136, 137, 138, 139, 140, 141, 142, 143, 144, 145, 146, 147, 148, 149, 150, 151, 152, 153, 154, 155, 156, 157, 158, 159, 160, 161, 162, 163, 164, 165, 166, 167, 168, 169, 170, 171, 172, 173, 174, 175, 176, 177, 178, 179, 180, 181, 182, 183, 184, 185, 186, 187, 188, 189, 190, 191, 192, 193, 194, 195, 196, 197, 198, 199, 200, 201, 202, 203, 204, 205, 206, 207, 208, 209, 210, 211, 212, 213, 214, 248, 249, 250, 251, 252, 253, 254, 255, 256, 257, 258, 259, 260, 261, 271, 272, 273, 262, 263, 264, 265, 266, 267, 268, 269, 270, 274, 275, 276, 277, 278, 279, 280, 281, 282, 283, 284, 285, 286, 287, 288, 289, 290, 291, 292, 293, 294, 295, 296, 297, 298] (by decide +kernel) (by decide +kernel)
set_option maxRecDepth 20000 in
theorem gX7_check_X7_readyCurve : GoodIn wsX7_check (wsV RX7 190 RX7 yX7_readyCurve wsX7_readyCurve) := goodIn_app (goodIn_of _ (by decide +kernel)) ggX7_check_X7_readyCurve
set_option maxRecDepth 20000 in
theorem ggX7_check_X7_shortest : GoodIn wsX7_check wsX7_shortest := goodIn_r _ [218, 5, 11, 219, 220, 117, 118, 44, 119, 120, 121, 122, 123, 124, 125, 126, 127, 128, 129, 130, 131, 132, 133, 248, 249, 250, 251, 252, 253, 254, 255, 256, 257, 258, 259, 260, 261, 271, 272, 273, 277, 278, 279, 280, 281, 282, 283] (by decide +kernel) (by decide +kernel)
set_option maxRecDepth 20000 in
theorem gX7_check_X7_shortest : GoodIn wsX7_check (wsV RX7 193 RX7 yX7_shortest wsX7_shortest) := goodIn_app (goodIn_of _ (by decide +kernel)) ggX7_check_X7_shortest
set_option maxRecDepth 20000 in
theorem ggX7_check_X7_finding : GoodIn wsX7_check wsX7_finding := goodIn_r _ [224, 225, 248, 249, 250, 251, 252, 253, 254, 255, 256, 257, 258, 259, 260, 261] (by decide +kernel) (by decide +kernel)
set_option maxRecDepth 20000 in
theorem gX7_check_X7_finding : GoodIn wsX7_check (wsV RX7 59 RX7 yX7_finding wsX7_finding) := goodIn_app (goodIn_of _ (by decide +kernel)) ggX7_check_X7_finding
set_option maxRecDepth 20000 in
theorem ggX7_check_X7_isToldWrong : GoodIn wsX7_check wsX7_isToldWrong := goodIn_r _ [229, 4, 2, 3, 230, 231, 232, 233, 35, 234, 103, 102, 235, 39, 9, 40, 248, 249, 250, 251, 252, 253, 254, 255, 256, 257, 258, 259, 260, 261, 262, 263, 264, 265, 266, 267, 268, 269, 270] (by decide +kernel) (by decide +kernel)
set_option maxRecDepth 20000 in
theorem gX7_check_X7_isToldWrong : GoodIn wsX7_check (wsV RX7 256 RX7 yX7_isToldWrong wsX7_isToldWrong) := goodIn_app (goodIn_of _ (by decide +kernel)) ggX7_check_X7_isToldWrong
set_option maxRecDepth 20000 in
theorem ggX7_check_X5_costOf : GoodIn wsX7_check wsX5_costOf := goodIn_r _ [110, 111, 102, 112, 113, 114, 115, 29, 30, 31, 262, 263, 264, 265, 266, 267, 268, 269, 270] (by decide +kernel) (by decide +kernel)
set_option maxRecDepth 20000 in
theorem gX7_check_X5_costOf : GoodIn wsX7_check (wsV RX7 186 RX5 yX5_costOf wsX5_costOf) := goodIn_app (goodIn_of _ (by decide +kernel)) ggX7_check_X5_costOf
set_option maxRecDepth 20000 in
theorem ggX7_check_X3_bendFor : GoodIn wsX7_check wsX3_bendFor := goodIn_r _ [240, 47, 52, 116, 117, 118, 44, 119, 120, 121, 122, 123, 124, 125, 126, 127, 128, 129, 130, 131, 132, 133, 271, 272, 273, 277, 278, 279, 280, 281, 282, 283] (by decide +kernel) (by decide +kernel)
set_option maxRecDepth 20000 in
theorem gX7_check_X3_bendFor : GoodIn wsX7_check (wsV RX7 197 RX3 yX3_bendFor wsX3_bendFor) := goodIn_app (goodIn_of _ (by decide +kernel)) ggX7_check_X3_bendFor
set_option maxRecDepth 20000 in
theorem ggX7_check_X1_costAt : GoodIn wsX7_check wsX1_costAt := goodIn_r _ [244, 245, 246, 247, 277, 278, 279, 280, 281, 282, 283] (by decide +kernel) (by decide +kernel)
set_option maxRecDepth 20000 in
theorem gX7_check_X1_costAt : GoodIn wsX7_check (wsV RX7 249 RX1 yX1_costAt wsX1_costAt) := goodIn_app (goodIn_of _ (by decide +kernel)) ggX7_check_X1_costAt
theorem dX7_check_0 : decode cX7_check 0 = .ok (.aload_n 0, 1) := by decide +kernel
theorem dX7_check_1 : decode cX7_check 1 = .ok (.getfield 253, 3) := by decide +kernel
theorem dX7_check_4 : decode cX7_check 4 = .ok (.istore_n 2, 1) := by decide +kernel
theorem dX7_check_5 : decode cX7_check 5 = .ok (.aload_n 0, 1) := by decide +kernel
theorem dX7_check_6 : decode cX7_check 6 = .ok (.iconst 0, 1) := by decide +kernel
theorem dX7_check_7 : decode cX7_check 7 = .ok (.putfield 253, 3) := by decide +kernel
theorem dX7_check_10 : decode cX7_check 10 = .ok (.aload_n 0, 1) := by decide +kernel
theorem dX7_check_11 : decode cX7_check 11 = .ok (.invokevirtual 190, 3) := by decide +kernel
theorem dX7_check_14 : decode cX7_check 14 = .ok (.iload_n 1, 1) := by decide +kernel
theorem dX7_check_15 : decode cX7_check 15 = .ok (.aload_n 0, 1) := by decide +kernel
theorem dX7_check_16 : decode cX7_check 16 = .ok (.invokevirtual 193, 3) := by decide +kernel
theorem dX7_check_19 : decode cX7_check 19 = .ok (.if_icmp .ge 10, 3) := by decide +kernel
theorem dX7_check_22 : decode cX7_check 22 = .ok (.aload_n 0, 1) := by decide +kernel
theorem dX7_check_23 : decode cX7_check 23 = .ok (.bipush (-8), 2) := by decide +kernel
theorem dX7_check_25 : decode cX7_check 25 = .ok (.invokevirtual 59, 3) := by decide +kernel
theorem dX7_check_28 : decode cX7_check 28 = .ok (.ireturn, 1) := by decide +kernel
theorem dX7_check_29 : decode cX7_check 29 = .ok (.lconst 0, 1) := by decide +kernel
theorem dX7_check_30 : decode cX7_check 30 = .ok (.lstore_n 3, 1) := by decide +kernel
theorem dX7_check_31 : decode cX7_check 31 = .ok (.iconst 0, 1) := by decide +kernel
theorem dX7_check_32 : decode cX7_check 32 = .ok (.istore 5, 2) := by decide +kernel
theorem dX7_check_34 : decode cX7_check 34 = .ok (.iload 5, 2) := by decide +kernel
theorem dX7_check_36 : decode cX7_check 36 = .ok (.aload_n 0, 1) := by decide +kernel
theorem dX7_check_37 : decode cX7_check 37 = .ok (.getfield 19, 3) := by decide +kernel
theorem dX7_check_40 : decode cX7_check 40 = .ok (.getfield 104, 3) := by decide +kernel
theorem dX7_check_43 : decode cX7_check 43 = .ok (.if_icmp .ge 49, 3) := by decide +kernel
theorem dX7_check_46 : decode cX7_check 46 = .ok (.aload_n 0, 1) := by decide +kernel
theorem dX7_check_47 : decode cX7_check 47 = .ok (.iload 5, 2) := by decide +kernel
theorem dX7_check_49 : decode cX7_check 49 = .ok (.iload_n 1, 1) := by decide +kernel
theorem dX7_check_50 : decode cX7_check 50 = .ok (.iload_n 2, 1) := by decide +kernel
theorem dX7_check_51 : decode cX7_check 51 = .ok (.invokevirtual 256, 3) := by decide +kernel
theorem dX7_check_54 : decode cX7_check 54 = .ok (.ifCond .eq 9, 3) := by decide +kernel
theorem dX7_check_57 : decode cX7_check 57 = .ok (.bipush 100, 2) := by decide +kernel
theorem dX7_check_59 : decode cX7_check 59 = .ok (.iload 5, 2) := by decide +kernel
theorem dX7_check_61 : decode cX7_check 61 = .ok (.iadd, 1) := by decide +kernel
theorem dX7_check_62 : decode cX7_check 62 = .ok (.ireturn, 1) := by decide +kernel
theorem dX7_check_63 : decode cX7_check 63 = .ok (.lload_n 3, 1) := by decide +kernel
theorem dX7_check_64 : decode cX7_check 64 = .ok (.aload_n 0, 1) := by decide +kernel
theorem dX7_check_65 : decode cX7_check 65 = .ok (.getfield 19, 3) := by decide +kernel
theorem dX7_check_68 : decode cX7_check 68 = .ok (.iload 5, 2) := by decide +kernel
theorem dX7_check_70 : decode cX7_check 70 = .ok (.aload_n 0, 1) := by decide +kernel
theorem dX7_check_71 : decode cX7_check 71 = .ok (.getfield 47, 3) := by decide +kernel
theorem dX7_check_74 : decode cX7_check 74 = .ok (.iconst 2, 1) := by decide +kernel
theorem dX7_check_75 : decode cX7_check 75 = .ok (.iload 5, 2) := by decide +kernel
theorem dX7_check_77 : decode cX7_check 77 = .ok (.imul, 1) := by decide +kernel
theorem dX7_check_78 : decode cX7_check 78 = .ok (.iconst 1, 1) := by decide +kernel
theorem dX7_check_79 : decode cX7_check 79 = .ok (.iadd, 1) := by decide +kernel
theorem dX7_check_80 : decode cX7_check 80 = .ok (.iaload, 1) := by decide +kernel
theorem dX7_check_81 : decode cX7_check 81 = .ok (.invokevirtual 186, 3) := by decide +kernel
theorem dX7_check_84 : decode cX7_check 84 = .ok (.ladd, 1) := by decide +kernel
theorem dX7_check_85 : decode cX7_check 85 = .ok (.lstore_n 3, 1) := by decide +kernel
theorem dX7_check_86 : decode cX7_check 86 = .ok (.iinc 5 1, 3) := by decide +kernel
theorem dX7_check_89 : decode cX7_check 89 = .ok (.goto (-55), 3) := by decide +kernel
theorem dX7_check_92 : decode cX7_check 92 = .ok (.iload_n 2, 1) := by decide +kernel
theorem dX7_check_93 : decode cX7_check 93 = .ok (.iconst 2, 1) := by decide +kernel
theorem dX7_check_94 : decode cX7_check 94 = .ok (.aload_n 0, 1) := by decide +kernel
theorem dX7_check_95 : decode cX7_check 95 = .ok (.getfield 19, 3) := by decide +kernel
theorem dX7_check_98 : decode cX7_check 98 = .ok (.getfield 104, 3) := by decide +kernel
theorem dX7_check_101 : decode cX7_check 101 = .ok (.imul, 1) := by decide +kernel
theorem dX7_check_102 : decode cX7_check 102 = .ok (.if_icmp .le 6, 3) := by decide +kernel
theorem dX7_check_105 : decode cX7_check 105 = .ok (.bipush 90, 2) := by decide +kernel
theorem dX7_check_107 : decode cX7_check 107 = .ok (.ireturn, 1) := by decide +kernel
theorem dX7_check_108 : decode cX7_check 108 = .ok (.lload_n 3, 1) := by decide +kernel
theorem dX7_check_109 : decode cX7_check 109 = .ok (.aload_n 0, 1) := by decide +kernel
theorem dX7_check_110 : decode cX7_check 110 = .ok (.getfield 43, 3) := by decide +kernel
theorem dX7_check_113 : decode cX7_check 113 = .ok (.iload_n 1, 1) := by decide +kernel
theorem dX7_check_114 : decode cX7_check 114 = .ok (.invokevirtual 197, 3) := by decide +kernel
theorem dX7_check_117 : decode cX7_check 117 = .ok (.iload_n 1, 1) := by decide +kernel
theorem dX7_check_118 : decode cX7_check 118 = .ok (.invokevirtual 249, 3) := by decide +kernel
theorem dX7_check_121 : decode cX7_check 121 = .ok (.lcmp, 1) := by decide +kernel
theorem dX7_check_122 : decode cX7_check 122 = .ok (.ifCond .le 7, 3) := by decide +kernel
theorem dX7_check_125 : decode cX7_check 125 = .ok (.iconst 1, 1) := by decide +kernel
theorem dX7_check_126 : decode cX7_check 126 = .ok (.goto 4, 3) := by decide +kernel
theorem dX7_check_129 : decode cX7_check 129 = .ok (.iconst 0, 1) := by decide +kernel
theorem dX7_check_130 : decode cX7_check 130 = .ok (.ireturn, 1) := by decide +kernel
set_option maxRecDepth 20000 in
theorem ggX7_undo_X7_finding : GoodIn wsX7_undo wsX7_finding := goodIn_r _ [14, 15, 23, 24, 25, 26, 27, 28, 29, 30, 31, 32, 33, 34, 35, 36] (by decide +kernel) (by decide +kernel)
set_option maxRecDepth 20000 in
theorem gX7_undo_X7_finding : GoodIn wsX7_undo (wsV RX7 59 RX7 yX7_finding wsX7_finding) := goodIn_app (goodIn_of _ (by decide +kernel)) ggX7_undo_X7_finding
set_option maxRecDepth 20000 in
theorem ggX7_undo_X7_forgetPlans : GoodIn wsX7_undo wsX7_forgetPlans := goodIn_r _ [19, 20, 21, 22, 23, 24, 25, 26, 27, 28, 29, 30, 31, 32, 33, 34, 35, 36, 50, 51, 52] (by decide +kernel) (by decide +kernel)
set_option maxRecDepth 20000 in
theorem gX7_undo_X7_forgetPlans : GoodIn wsX7_undo (wsV RX7 114 RX7 yX7_forgetPlans wsX7_forgetPlans) := goodIn_app (goodIn_of _ (by decide +kernel)) ggX7_undo_X7_forgetPlans
theorem dX7_undo_0 : decode cX7_undo 0 = .ok (.aload_n 0, 1) := by decide +kernel
theorem dX7_undo_1 : decode cX7_undo 1 = .ok (.getfield 29, 3) := by decide +kernel
theorem dX7_undo_4 : decode cX7_undo 4 = .ok (.getfield 260, 3) := by decide +kernel
theorem dX7_undo_7 : decode cX7_undo 7 = .ok (.ifCond .ne 10, 3) := by decide +kernel
theorem dX7_undo_10 : decode cX7_undo 10 = .ok (.aload_n 0, 1) := by decide +kernel
theorem dX7_undo_11 : decode cX7_undo 11 = .ok (.bipush (-7), 2) := by decide +kernel
theorem dX7_undo_13 : decode cX7_undo 13 = .ok (.invokevirtual 59, 3) := by decide +kernel
theorem dX7_undo_16 : decode cX7_undo 16 = .ok (.ireturn, 1) := by decide +kernel
theorem dX7_undo_17 : decode cX7_undo 17 = .ok (.aload_n 0, 1) := by decide +kernel
theorem dX7_undo_18 : decode cX7_undo 18 = .ok (.getfield 29, 3) := by decide +kernel
theorem dX7_undo_21 : decode cX7_undo 21 = .ok (.dup, 1) := by decide +kernel
theorem dX7_undo_22 : decode cX7_undo 22 = .ok (.getfield 260, 3) := by decide +kernel
theorem dX7_undo_25 : decode cX7_undo 25 = .ok (.iconst 1, 1) := by decide +kernel
theorem dX7_undo_26 : decode cX7_undo 26 = .ok (.isub, 1) := by decide +kernel
theorem dX7_undo_27 : decode cX7_undo 27 = .ok (.putfield 260, 3) := by decide +kernel
theorem dX7_undo_30 : decode cX7_undo 30 = .ok (.aload_n 0, 1) := by decide +kernel
theorem dX7_undo_31 : decode cX7_undo 31 = .ok (.getfield 29, 3) := by decide +kernel
theorem dX7_undo_34 : decode cX7_undo 34 = .ok (.getfield 261, 3) := by decide +kernel
theorem dX7_undo_37 : decode cX7_undo 37 = .ok (.aload_n 0, 1) := by decide +kernel
theorem dX7_undo_38 : decode cX7_undo 38 = .ok (.getfield 29, 3) := by decide +kernel
theorem dX7_undo_41 : decode cX7_undo 41 = .ok (.getfield 260, 3) := by decide +kernel
theorem dX7_undo_44 : decode cX7_undo 44 = .ok (.iaload, 1) := by decide +kernel
theorem dX7_undo_45 : decode cX7_undo 45 = .ok (.istore_n 1, 1) := by decide +kernel
theorem dX7_undo_46 : decode cX7_undo 46 = .ok (.aload_n 0, 1) := by decide +kernel
theorem dX7_undo_47 : decode cX7_undo 47 = .ok (.getfield 29, 3) := by decide +kernel
theorem dX7_undo_50 : decode cX7_undo 50 = .ok (.getfield 264, 3) := by decide +kernel
theorem dX7_undo_53 : decode cX7_undo 53 = .ok (.aload_n 0, 1) := by decide +kernel
theorem dX7_undo_54 : decode cX7_undo 54 = .ok (.getfield 29, 3) := by decide +kernel
theorem dX7_undo_57 : decode cX7_undo 57 = .ok (.getfield 260, 3) := by decide +kernel
theorem dX7_undo_60 : decode cX7_undo 60 = .ok (.iaload, 1) := by decide +kernel
theorem dX7_undo_61 : decode cX7_undo 61 = .ok (.istore_n 2, 1) := by decide +kernel
theorem dX7_undo_62 : decode cX7_undo 62 = .ok (.aload_n 0, 1) := by decide +kernel
theorem dX7_undo_63 : decode cX7_undo 63 = .ok (.getfield 29, 3) := by decide +kernel
theorem dX7_undo_66 : decode cX7_undo 66 = .ok (.getfield 267, 3) := by decide +kernel
theorem dX7_undo_69 : decode cX7_undo 69 = .ok (.aload_n 0, 1) := by decide +kernel
theorem dX7_undo_70 : decode cX7_undo 70 = .ok (.getfield 29, 3) := by decide +kernel
theorem dX7_undo_73 : decode cX7_undo 73 = .ok (.getfield 260, 3) := by decide +kernel
theorem dX7_undo_76 : decode cX7_undo 76 = .ok (.iaload, 1) := by decide +kernel
theorem dX7_undo_77 : decode cX7_undo 77 = .ok (.lookupswitch 59 #[(0, 27), (1, 42)], 27) := by decide +kernel
theorem dX7_undo_104 : decode cX7_undo 104 = .ok (.aload_n 0, 1) := by decide +kernel
theorem dX7_undo_105 : decode cX7_undo 105 = .ok (.getfield 19, 3) := by decide +kernel
theorem dX7_undo_108 : decode cX7_undo 108 = .ok (.iload_n 1, 1) := by decide +kernel
theorem dX7_undo_109 : decode cX7_undo 109 = .ok (.putfield 104, 3) := by decide +kernel
theorem dX7_undo_112 : decode cX7_undo 112 = .ok (.aload_n 0, 1) := by decide +kernel
theorem dX7_undo_113 : decode cX7_undo 113 = .ok (.invokevirtual 114, 3) := by decide +kernel
theorem dX7_undo_116 : decode cX7_undo 116 = .ok (.goto 30, 3) := by decide +kernel
theorem dX7_undo_119 : decode cX7_undo 119 = .ok (.aload_n 0, 1) := by decide +kernel
theorem dX7_undo_120 : decode cX7_undo 120 = .ok (.getfield 19, 3) := by decide +kernel
theorem dX7_undo_123 : decode cX7_undo 123 = .ok (.getfield 126, 3) := by decide +kernel
theorem dX7_undo_126 : decode cX7_undo 126 = .ok (.iload_n 1, 1) := by decide +kernel
theorem dX7_undo_127 : decode cX7_undo 127 = .ok (.iload_n 2, 1) := by decide +kernel
theorem dX7_undo_128 : decode cX7_undo 128 = .ok (.iastore, 1) := by decide +kernel
theorem dX7_undo_129 : decode cX7_undo 129 = .ok (.aload_n 0, 1) := by decide +kernel
theorem dX7_undo_130 : decode cX7_undo 130 = .ok (.invokevirtual 114, 3) := by decide +kernel
theorem dX7_undo_133 : decode cX7_undo 133 = .ok (.goto 13, 3) := by decide +kernel
theorem dX7_undo_136 : decode cX7_undo 136 = .ok (.aload_n 0, 1) := by decide +kernel
theorem dX7_undo_137 : decode cX7_undo 137 = .ok (.getfield 19, 3) := by decide +kernel
theorem dX7_undo_140 : decode cX7_undo 140 = .ok (.getfield 169, 3) := by decide +kernel
theorem dX7_undo_143 : decode cX7_undo 143 = .ok (.iload_n 1, 1) := by decide +kernel
theorem dX7_undo_144 : decode cX7_undo 144 = .ok (.iload_n 2, 1) := by decide +kernel
theorem dX7_undo_145 : decode cX7_undo 145 = .ok (.iastore, 1) := by decide +kernel
theorem dX7_undo_146 : decode cX7_undo 146 = .ok (.aload_n 0, 1) := by decide +kernel
theorem dX7_undo_147 : decode cX7_undo 147 = .ok (.getfield 29, 3) := by decide +kernel
theorem dX7_undo_150 : decode cX7_undo 150 = .ok (.getfield 260, 3) := by decide +kernel
theorem dX7_undo_153 : decode cX7_undo 153 = .ok (.ireturn, 1) := by decide +kernel
set_option maxRecDepth 20000 in
theorem ggX7_keep_X5_become : GoodIn wsX7_keep wsX5_become := goodIn_r _ [9, 10, 11, 12, 13, 14, 15, 16, 17, 18, 19, 20, 21, 22, 37, 38, 39, 40, 41, 42, 43, 44, 45] (by decide +kernel) (by decide +kernel)
set_option maxRecDepth 20000 in
theorem gX7_keep_X5_become : GoodIn wsX7_keep (wsV RX7 270 RX5 yX5_become wsX5_become) := goodIn_app (goodIn_of _ (by decide +kernel)) ggX7_keep_X5_become
theorem dX7_keep_0 : decode cX7_keep 0 = .ok (.aload_n 0, 1) := by decide +kernel
theorem dX7_keep_1 : decode cX7_keep 1 = .ok (.getfield 23, 3) := by decide +kernel
theorem dX7_keep_4 : decode cX7_keep 4 = .ok (.aload_n 0, 1) := by decide +kernel
theorem dX7_keep_5 : decode cX7_keep 5 = .ok (.getfield 19, 3) := by decide +kernel
theorem dX7_keep_8 : decode cX7_keep 8 = .ok (.invokevirtual 270, 3) := by decide +kernel
theorem dX7_keep_11 : decode cX7_keep 11 = .ok (.aload_n 0, 1) := by decide +kernel
theorem dX7_keep_12 : decode cX7_keep 12 = .ok (.iconst 1, 1) := by decide +kernel
theorem dX7_keep_13 : decode cX7_keep 13 = .ok (.putfield 274, 3) := by decide +kernel
theorem dX7_keep_16 : decode cX7_keep 16 = .ok (.aload_n 0, 1) := by decide +kernel
theorem dX7_keep_17 : decode cX7_keep 17 = .ok (.getfield 23, 3) := by decide +kernel
theorem dX7_keep_20 : decode cX7_keep 20 = .ok (.getfield 104, 3) := by decide +kernel
theorem dX7_keep_23 : decode cX7_keep 23 = .ok (.ireturn, 1) := by decide +kernel
set_option maxRecDepth 20000 in
theorem ggX7_back_X7_finding : GoodIn wsX7_back wsX7_finding := goodIn_r _ [11, 12, 38, 39, 40, 41, 42, 43, 44, 45, 46, 47, 48, 49, 50, 51] (by decide +kernel) (by decide +kernel)
set_option maxRecDepth 20000 in
theorem gX7_back_X7_finding : GoodIn wsX7_back (wsV RX7 59 RX7 yX7_finding wsX7_finding) := goodIn_app (goodIn_of _ (by decide +kernel)) ggX7_back_X7_finding
set_option maxRecDepth 20000 in
theorem ggX7_back_X5_become : GoodIn wsX7_back wsX5_become := goodIn_r _ [17, 18, 19, 20, 21, 22, 23, 24, 25, 26, 27, 28, 29, 30, 56, 57, 58, 59, 60, 61, 62, 63, 64] (by decide +kernel) (by decide +kernel)
set_option maxRecDepth 20000 in
theorem gX7_back_X5_become : GoodIn wsX7_back (wsV RX7 270 RX5 yX5_become wsX5_become) := goodIn_app (goodIn_of _ (by decide +kernel)) ggX7_back_X5_become
set_option maxRecDepth 20000 in
theorem ggX7_back_X7_forgetPlans : GoodIn wsX7_back wsX7_forgetPlans := goodIn_r _ [34, 35, 36, 37, 38, 39, 40, 41, 42, 43, 44, 45, 46, 47, 48, 49, 50, 51, 65, 66, 67] (by decide +kernel) (by decide +kernel)
set_option maxRecDepth 20000 in
theorem gX7_back_X7_forgetPlans : GoodIn wsX7_back (wsV RX7 114 RX7 yX7_forgetPlans wsX7_forgetPlans) := goodIn_app (goodIn_of _ (by decide +kernel)) ggX7_back_X7_forgetPlans
theorem dX7_back_0 : decode cX7_back 0 = .ok (.aload_n 0, 1) := by decide +kernel
theorem dX7_back_1 : decode cX7_back 1 = .ok (.getfield 274, 3) := by decide +kernel
theorem dX7_back_4 : decode cX7_back 4 = .ok (.ifCond .ne 10, 3) := by decide +kernel
theorem dX7_back_7 : decode cX7_back 7 = .ok (.aload_n 0, 1) := by decide +kernel
theorem dX7_back_8 : decode cX7_back 8 = .ok (.bipush (-7), 2) := by decide +kernel
theorem dX7_back_10 : decode cX7_back 10 = .ok (.invokevirtual 59, 3) := by decide +kernel
theorem dX7_back_13 : decode cX7_back 13 = .ok (.ireturn, 1) := by decide +kernel
theorem dX7_back_14 : decode cX7_back 14 = .ok (.aload_n 0, 1) := by decide +kernel
theorem dX7_back_15 : decode cX7_back 15 = .ok (.getfield 19, 3) := by decide +kernel
theorem dX7_back_18 : decode cX7_back 18 = .ok (.aload_n 0, 1) := by decide +kernel
theorem dX7_back_19 : decode cX7_back 19 = .ok (.getfield 23, 3) := by decide +kernel
theorem dX7_back_22 : decode cX7_back 22 = .ok (.invokevirtual 270, 3) := by decide +kernel
theorem dX7_back_25 : decode cX7_back 25 = .ok (.aload_n 0, 1) := by decide +kernel
theorem dX7_back_26 : decode cX7_back 26 = .ok (.getfield 29, 3) := by decide +kernel
theorem dX7_back_29 : decode cX7_back 29 = .ok (.iconst 0, 1) := by decide +kernel
theorem dX7_back_30 : decode cX7_back 30 = .ok (.putfield 260, 3) := by decide +kernel
theorem dX7_back_33 : decode cX7_back 33 = .ok (.aload_n 0, 1) := by decide +kernel
theorem dX7_back_34 : decode cX7_back 34 = .ok (.invokevirtual 114, 3) := by decide +kernel
theorem dX7_back_37 : decode cX7_back 37 = .ok (.aload_n 0, 1) := by decide +kernel
theorem dX7_back_38 : decode cX7_back 38 = .ok (.getfield 19, 3) := by decide +kernel
theorem dX7_back_41 : decode cX7_back 41 = .ok (.getfield 104, 3) := by decide +kernel
theorem dX7_back_44 : decode cX7_back 44 = .ok (.ireturn, 1) := by decide +kernel
set_option maxRecDepth 20000 in
theorem ggX7_told_X5_pairs : GoodIn wsX7_told wsX5_pairs := goodIn_r _ [12, 13, 14, 15, 16, 17, 18, 19, 20, 21, 41, 42, 43, 44, 45, 46, 47, 48, 49] (by decide +kernel) (by decide +kernel)
set_option maxRecDepth 20000 in
theorem gX7_told_X5_pairs : GoodIn wsX7_told (wsV RX7 277 RX5 yX5_pairs wsX5_pairs) := goodIn_app (goodIn_of _ (by decide +kernel)) ggX7_told_X5_pairs
set_option maxRecDepth 20000 in
theorem ggX7_told_X7_finding : GoodIn wsX7_told wsX7_finding := goodIn_r _ [26, 7, 27, 28, 29, 30, 31, 32, 33, 34, 35, 36, 37, 38, 39, 40] (by decide +kernel) (by decide +kernel)
set_option maxRecDepth 20000 in
theorem gX7_told_X7_finding : GoodIn wsX7_told (wsV RX7 59 RX7 yX7_finding wsX7_finding) := goodIn_app (goodIn_of _ (by decide +kernel)) ggX7_told_X7_finding
theorem dX7_told_0 : decode cX7_told 0 = .ok (.iload_n 1, 1) := by decide +kernel
theorem dX7_told_1 : decode cX7_told 1 = .ok (.tableswitch 92 0 6 #[43, 48, 53, 61, 69, 74, 87], 43) := by decide +kernel
theorem dX7_told_44 : decode cX7_told 44 = .ok (.aload_n 0, 1) := by decide +kernel
theorem dX7_told_45 : decode cX7_told 45 = .ok (.getfield 123, 3) := by decide +kernel
theorem dX7_told_48 : decode cX7_told 48 = .ok (.ireturn, 1) := by decide +kernel
theorem dX7_told_49 : decode cX7_told 49 = .ok (.aload_n 0, 1) := by decide +kernel
theorem dX7_told_50 : decode cX7_told 50 = .ok (.getfield 51, 3) := by decide +kernel
theorem dX7_told_53 : decode cX7_told 53 = .ok (.ireturn, 1) := by decide +kernel
theorem dX7_told_54 : decode cX7_told 54 = .ok (.aload_n 0, 1) := by decide +kernel
theorem dX7_told_55 : decode cX7_told 55 = .ok (.getfield 19, 3) := by decide +kernel
theorem dX7_told_58 : decode cX7_told 58 = .ok (.getfield 104, 3) := by decide +kernel
theorem dX7_told_61 : decode cX7_told 61 = .ok (.ireturn, 1) := by decide +kernel
theorem dX7_told_62 : decode cX7_told 62 = .ok (.aload_n 0, 1) := by decide +kernel
theorem dX7_told_63 : decode cX7_told 63 = .ok (.getfield 19, 3) := by decide +kernel
theorem dX7_told_66 : decode cX7_told 66 = .ok (.invokevirtual 277, 3) := by decide +kernel
theorem dX7_told_69 : decode cX7_told 69 = .ok (.ireturn, 1) := by decide +kernel
theorem dX7_told_70 : decode cX7_told 70 = .ok (.aload_n 0, 1) := by decide +kernel
theorem dX7_told_71 : decode cX7_told 71 = .ok (.getfield 253, 3) := by decide +kernel
theorem dX7_told_74 : decode cX7_told 74 = .ok (.ireturn, 1) := by decide +kernel
theorem dX7_told_75 : decode cX7_told 75 = .ok (.aload_n 0, 1) := by decide +kernel
theorem dX7_told_76 : decode cX7_told 76 = .ok (.getfield 228, 3) := by decide +kernel
theorem dX7_told_79 : decode cX7_told 79 = .ok (.ifCond .eq 7, 3) := by decide +kernel
theorem dX7_told_82 : decode cX7_told 82 = .ok (.iconst 1, 1) := by decide +kernel
theorem dX7_told_83 : decode cX7_told 83 = .ok (.goto 4, 3) := by decide +kernel
theorem dX7_told_86 : decode cX7_told 86 = .ok (.iconst 0, 1) := by decide +kernel
theorem dX7_told_87 : decode cX7_told 87 = .ok (.ireturn, 1) := by decide +kernel
theorem dX7_told_88 : decode cX7_told 88 = .ok (.aload_n 0, 1) := by decide +kernel
theorem dX7_told_89 : decode cX7_told 89 = .ok (.getfield 280, 3) := by decide +kernel
theorem dX7_told_92 : decode cX7_told 92 = .ok (.ireturn, 1) := by decide +kernel
theorem dX7_told_93 : decode cX7_told 93 = .ok (.aload_n 0, 1) := by decide +kernel
theorem dX7_told_94 : decode cX7_told 94 = .ok (.iconst (-1), 1) := by decide +kernel
theorem dX7_told_95 : decode cX7_told 95 = .ok (.invokevirtual 59, 3) := by decide +kernel
theorem dX7_told_98 : decode cX7_told 98 = .ok (.ireturn, 1) := by decide +kernel
theorem dX7_finding_0 : decode cX7_finding 0 = .ok (.aload_n 0, 1) := by decide +kernel
theorem dX7_finding_1 : decode cX7_finding 1 = .ok (.dup, 1) := by decide +kernel
theorem dX7_finding_2 : decode cX7_finding 2 = .ok (.getfield 280, 3) := by decide +kernel
theorem dX7_finding_5 : decode cX7_finding 5 = .ok (.iconst 1, 1) := by decide +kernel
theorem dX7_finding_6 : decode cX7_finding 6 = .ok (.iadd, 1) := by decide +kernel
theorem dX7_finding_7 : decode cX7_finding 7 = .ok (.putfield 280, 3) := by decide +kernel
theorem dX7_finding_10 : decode cX7_finding 10 = .ok (.iload_n 1, 1) := by decide +kernel
theorem dX7_finding_11 : decode cX7_finding 11 = .ok (.ireturn, 1) := by decide +kernel
theorem dX7_isBoard_0 : decode cX7_isBoard 0 = .ok (.iload_n 0, 1) := by decide +kernel
theorem dX7_isBoard_1 : decode cX7_isBoard 1 = .ok (.ifCond .lt 12, 3) := by decide +kernel
theorem dX7_isBoard_4 : decode cX7_isBoard 4 = .ok (.iload_n 0, 1) := by decide +kernel
theorem dX7_isBoard_5 : decode cX7_isBoard 5 = .ok (.iconst 4, 1) := by decide +kernel
theorem dX7_isBoard_6 : decode cX7_isBoard 6 = .ok (.if_icmp .ge 7, 3) := by decide +kernel
theorem dX7_isBoard_9 : decode cX7_isBoard 9 = .ok (.iconst 1, 1) := by decide +kernel
theorem dX7_isBoard_10 : decode cX7_isBoard 10 = .ok (.goto 4, 3) := by decide +kernel
theorem dX7_isBoard_13 : decode cX7_isBoard 13 = .ok (.iconst 0, 1) := by decide +kernel
theorem dX7_isBoard_14 : decode cX7_isBoard 14 = .ok (.ireturn, 1) := by decide +kernel
theorem dX7_isKind_0 : decode cX7_isKind 0 = .ok (.iload_n 0, 1) := by decide +kernel
theorem dX7_isKind_1 : decode cX7_isKind 1 = .ok (.ifCond .lt 15, 3) := by decide +kernel
theorem dX7_isKind_4 : decode cX7_isKind 4 = .ok (.iload_n 0, 1) := by decide +kernel
theorem dX7_isKind_5 : decode cX7_isKind 5 = .ok (.getstatic 98, 3) := by decide +kernel
theorem dX7_isKind_8 : decode cX7_isKind 8 = .ok (.arraylength, 1) := by decide +kernel
theorem dX7_isKind_9 : decode cX7_isKind 9 = .ok (.if_icmp .ge 7, 3) := by decide +kernel
theorem dX7_isKind_12 : decode cX7_isKind 12 = .ok (.iconst 1, 1) := by decide +kernel
theorem dX7_isKind_13 : decode cX7_isKind 13 = .ok (.goto 4, 3) := by decide +kernel
theorem dX7_isKind_16 : decode cX7_isKind 16 = .ok (.iconst 0, 1) := by decide +kernel
theorem dX7_isKind_17 : decode cX7_isKind 17 = .ok (.ireturn, 1) := by decide +kernel
set_option maxRecDepth 20000 in
theorem ggX7_isUnder_X7_isKind : GoodIn wsX7_isUnder wsX7_isKind := goodIn_r _ [5, 6] (by decide +kernel) (by decide +kernel)
set_option maxRecDepth 20000 in
theorem gX7_isUnder_X7_isKind : GoodIn wsX7_isUnder (va_wsS RX7 95 yX7_isKind wsX7_isKind) := goodIn_app (goodIn_of _ (by decide +kernel)) ggX7_isUnder_X7_isKind
theorem dX7_isUnder_0 : decode cX7_isUnder 0 = .ok (.iload_n 0, 1) := by decide +kernel
theorem dX7_isUnder_1 : decode cX7_isUnder 1 = .ok (.istore_n 2, 1) := by decide +kernel
theorem dX7_isUnder_2 : decode cX7_isUnder 2 = .ok (.iconst 0, 1) := by decide +kernel
theorem dX7_isUnder_3 : decode cX7_isUnder 3 = .ok (.istore_n 3, 1) := by decide +kernel
theorem dX7_isUnder_4 : decode cX7_isUnder 4 = .ok (.iload_n 3, 1) := by decide +kernel
theorem dX7_isUnder_5 : decode cX7_isUnder 5 = .ok (.getstatic 283, 3) := by decide +kernel
theorem dX7_isUnder_8 : decode cX7_isUnder 8 = .ok (.arraylength, 1) := by decide +kernel
theorem dX7_isUnder_9 : decode cX7_isUnder 9 = .ok (.if_icmp .ge 29, 3) := by decide +kernel
theorem dX7_isUnder_12 : decode cX7_isUnder 12 = .ok (.iload_n 2, 1) := by decide +kernel
theorem dX7_isUnder_13 : decode cX7_isUnder 13 = .ok (.invokestatic 95, 3) := by decide +kernel
theorem dX7_isUnder_16 : decode cX7_isUnder 16 = .ok (.ifCond .eq 22, 3) := by decide +kernel
theorem dX7_isUnder_19 : decode cX7_isUnder 19 = .ok (.iload_n 2, 1) := by decide +kernel
theorem dX7_isUnder_20 : decode cX7_isUnder 20 = .ok (.iload_n 1, 1) := by decide +kernel
theorem dX7_isUnder_21 : decode cX7_isUnder 21 = .ok (.if_icmp .ne 5, 3) := by decide +kernel
theorem dX7_isUnder_24 : decode cX7_isUnder 24 = .ok (.iconst 1, 1) := by decide +kernel
theorem dX7_isUnder_25 : decode cX7_isUnder 25 = .ok (.ireturn, 1) := by decide +kernel
theorem dX7_isUnder_26 : decode cX7_isUnder 26 = .ok (.getstatic 283, 3) := by decide +kernel
theorem dX7_isUnder_29 : decode cX7_isUnder 29 = .ok (.iload_n 2, 1) := by decide +kernel
theorem dX7_isUnder_30 : decode cX7_isUnder 30 = .ok (.iaload, 1) := by decide +kernel
theorem dX7_isUnder_31 : decode cX7_isUnder 31 = .ok (.istore_n 2, 1) := by decide +kernel
theorem dX7_isUnder_32 : decode cX7_isUnder 32 = .ok (.iinc 3 1, 3) := by decide +kernel
theorem dX7_isUnder_35 : decode cX7_isUnder 35 = .ok (.goto (-31), 3) := by decide +kernel
theorem dX7_isUnder_38 : decode cX7_isUnder 38 = .ok (.iconst 0, 1) := by decide +kernel
theorem dX7_isUnder_39 : decode cX7_isUnder 39 = .ok (.ireturn, 1) := by decide +kernel
theorem dX7_hasBit_0 : decode cX7_hasBit 0 = .ok (.iload_n 0, 1) := by decide +kernel
theorem dX7_hasBit_1 : decode cX7_hasBit 1 = .ok (.iload_n 1, 1) := by decide +kernel
theorem dX7_hasBit_2 : decode cX7_hasBit 2 = .ok (.ishr, 1) := by decide +kernel
theorem dX7_hasBit_3 : decode cX7_hasBit 3 = .ok (.iconst 1, 1) := by decide +kernel
theorem dX7_hasBit_4 : decode cX7_hasBit 4 = .ok (.iand, 1) := by decide +kernel
theorem dX7_hasBit_5 : decode cX7_hasBit 5 = .ok (.ifCond .eq 7, 3) := by decide +kernel
theorem dX7_hasBit_8 : decode cX7_hasBit 8 = .ok (.iconst 1, 1) := by decide +kernel
theorem dX7_hasBit_9 : decode cX7_hasBit 9 = .ok (.goto 4, 3) := by decide +kernel
theorem dX7_hasBit_12 : decode cX7_hasBit 12 = .ok (.iconst 0, 1) := by decide +kernel
theorem dX7_hasBit_13 : decode cX7_hasBit 13 = .ok (.ireturn, 1) := by decide +kernel
theorem dX7_commonDivisor_0 : decode cX7_commonDivisor 0 = .ok (.lload_n 0, 1) := by decide +kernel
theorem dX7_commonDivisor_1 : decode cX7_commonDivisor 1 = .ok (.lstore 4, 2) := by decide +kernel
theorem dX7_commonDivisor_3 : decode cX7_commonDivisor 3 = .ok (.lload_n 2, 1) := by decide +kernel
theorem dX7_commonDivisor_4 : decode cX7_commonDivisor 4 = .ok (.lstore 6, 2) := by decide +kernel
theorem dX7_commonDivisor_6 : decode cX7_commonDivisor 6 = .ok (.iconst 0, 1) := by decide +kernel
theorem dX7_commonDivisor_7 : decode cX7_commonDivisor 7 = .ok (.istore 8, 2) := by decide +kernel
theorem dX7_commonDivisor_9 : decode cX7_commonDivisor 9 = .ok (.iload 8, 2) := by decide +kernel
theorem dX7_commonDivisor_11 : decode cX7_commonDivisor 11 = .ok (.bipush 100, 2) := by decide +kernel
theorem dX7_commonDivisor_13 : decode cX7_commonDivisor 13 = .ok (.if_icmp .ge 31, 3) := by decide +kernel
theorem dX7_commonDivisor_16 : decode cX7_commonDivisor 16 = .ok (.lload 6, 2) := by decide +kernel
theorem dX7_commonDivisor_18 : decode cX7_commonDivisor 18 = .ok (.lconst 0, 1) := by decide +kernel
theorem dX7_commonDivisor_19 : decode cX7_commonDivisor 19 = .ok (.lcmp, 1) := by decide +kernel
theorem dX7_commonDivisor_20 : decode cX7_commonDivisor 20 = .ok (.ifCond .eq 24, 3) := by decide +kernel
theorem dX7_commonDivisor_23 : decode cX7_commonDivisor 23 = .ok (.lload 4, 2) := by decide +kernel
theorem dX7_commonDivisor_25 : decode cX7_commonDivisor 25 = .ok (.lload 6, 2) := by decide +kernel
theorem dX7_commonDivisor_27 : decode cX7_commonDivisor 27 = .ok (.lrem, 1) := by decide +kernel
theorem dX7_commonDivisor_28 : decode cX7_commonDivisor 28 = .ok (.lstore 9, 2) := by decide +kernel
theorem dX7_commonDivisor_30 : decode cX7_commonDivisor 30 = .ok (.lload 6, 2) := by decide +kernel
theorem dX7_commonDivisor_32 : decode cX7_commonDivisor 32 = .ok (.lstore 4, 2) := by decide +kernel
theorem dX7_commonDivisor_34 : decode cX7_commonDivisor 34 = .ok (.lload 9, 2) := by decide +kernel
theorem dX7_commonDivisor_36 : decode cX7_commonDivisor 36 = .ok (.lstore 6, 2) := by decide +kernel
theorem dX7_commonDivisor_38 : decode cX7_commonDivisor 38 = .ok (.iinc 8 1, 3) := by decide +kernel
theorem dX7_commonDivisor_41 : decode cX7_commonDivisor 41 = .ok (.goto (-32), 3) := by decide +kernel
theorem dX7_commonDivisor_44 : decode cX7_commonDivisor 44 = .ok (.lload 4, 2) := by decide +kernel
theorem dX7_commonDivisor_46 : decode cX7_commonDivisor 46 = .ok (.lconst 0, 1) := by decide +kernel
theorem dX7_commonDivisor_47 : decode cX7_commonDivisor 47 = .ok (.lcmp, 1) := by decide +kernel
theorem dX7_commonDivisor_48 : decode cX7_commonDivisor 48 = .ok (.ifCond .ne 7, 3) := by decide +kernel
theorem dX7_commonDivisor_51 : decode cX7_commonDivisor 51 = .ok (.lconst 1, 1) := by decide +kernel
theorem dX7_commonDivisor_52 : decode cX7_commonDivisor 52 = .ok (.goto 5, 3) := by decide +kernel
theorem dX7_commonDivisor_55 : decode cX7_commonDivisor 55 = .ok (.lload 4, 2) := by decide +kernel
theorem dX7_commonDivisor_57 : decode cX7_commonDivisor 57 = .ok (.lreturn, 1) := by decide +kernel
theorem dX7_forgetPlans_0 : decode cX7_forgetPlans 0 = .ok (.aload_n 0, 1) := by decide +kernel
theorem dX7_forgetPlans_1 : decode cX7_forgetPlans 1 = .ok (.iconst 0, 1) := by decide +kernel
theorem dX7_forgetPlans_2 : decode cX7_forgetPlans 2 = .ok (.putfield 228, 3) := by decide +kernel
theorem dX7_forgetPlans_5 : decode cX7_forgetPlans 5 = .ok (.aload_n 0, 1) := by decide +kernel
theorem dX7_forgetPlans_6 : decode cX7_forgetPlans 6 = .ok (.getfield 43, 3) := by decide +kernel
theorem dX7_forgetPlans_9 : decode cX7_forgetPlans 9 = .ok (.iconst 0, 1) := by decide +kernel
theorem dX7_forgetPlans_10 : decode cX7_forgetPlans 10 = .ok (.putfield 216, 3) := by decide +kernel
theorem dX7_forgetPlans_13 : decode cX7_forgetPlans 13 = .ok (.return_, 1) := by decide +kernel
set_option maxRecDepth 20000 in
theorem ggX7_readyCurve_X7_longest : GoodIn wsX7_readyCurve wsX7_longest := goodIn_r _ [8, 9, 3, 10, 11, 12, 13, 14, 15, 16, 17, 18, 19, 20, 21, 22, 23, 24, 25, 26, 27, 28, 29, 30, 31, 32, 7, 33, 208, 209, 210, 211, 212, 213, 214, 215, 216, 217, 218, 219, 220, 221, 225, 226, 227, 228, 229, 230, 231, 232, 233, 234, 235, 236] (by decide +kernel) (by decide +kernel)
set_option maxRecDepth 20000 in
theorem gX7_readyCurve_X7_longest : GoodIn wsX7_readyCurve (wsV RX7 286 RX7 yX7_longest wsX7_longest) := goodIn_app (goodIn_of _ (by decide +kernel)) ggX7_readyCurve_X7_longest
set_option maxRecDepth 20000 in
theorem ggX7_readyCurve_X3_draw : GoodIn wsX7_readyCurve wsX3_draw := goodIn_r _ [38, 39, 40, 41, 42, 43, 44, 45, 46, 47, 48, 49, 50, 51, 52, 53, 54, 55, 56, 57, 58, 59, 60, 26, 27, 28, 29, 30, 31, 32, 7, 33, 61, 62, 63, 64, 65, 66, 67, 68, 69, 70, 71, 72, 73, 74, 75, 76, 77, 78, 79, 80, 81, 82, 83, 84, 85, 86, 87, 22, 23, 24, 88, 89, 90, 91, 92, 93, 94, 95, 96, 97, 98, 99, 100, 101, 102, 103, 104, 105, 106, 107, 108, 109, 110, 111, 37, 112, 113, 114, 115, 116, 117, 118, 119, 120, 121, 122, 123, 124, 125, 126, 127, 128, 129, 130, 131, 132, 133, 134, 135, 136, 137, 138, 139, 140, 141, 142, 143, 144, 145, 146, 147, 148, 149, 150, 151, 152, 153, 154, 155, 156, 157, 158, 159, 160, 161, 162, 163, 164, 165, 166, 167, 168, 169, 170, 171, 172, 173, 174, 175, 176, 177, 178, 179, 180, 181, 182, 183, 184, 185, 186, 187, 188, 189, 190, 191, 192, 193, 194, 195, 196, 197, 198, 199, 200, 201, 202, 203, 204, 205, 206, 207, 222, 223, 224, 237, 238, 239, 240, 241, 242, 243, 225, 226, 227, 228, 229, 230, 231, 232, 233, 244, 245, 246, 247, 248, 249, 250, 251, 252, 253, 254, 255, 256, 257, 258] (by decide +kernel) (by decide +kernel)
set_option maxRecDepth 20000 in
theorem gX7_readyCurve_X3_draw : GoodIn wsX7_readyCurve (wsV RX7 290 RX3 yX3_draw wsX3_draw) := goodIn_app (goodIn_of _ (by decide +kernel)) ggX7_readyCurve_X3_draw
theorem dX7_readyCurve_0 : decode cX7_readyCurve 0 = .ok (.aload_n 0, 1) := by decide +kernel
theorem dX7_readyCurve_1 : decode cX7_readyCurve 1 = .ok (.getfield 43, 3) := by decide +kernel
theorem dX7_readyCurve_4 : decode cX7_readyCurve 4 = .ok (.getfield 216, 3) := by decide +kernel
theorem dX7_readyCurve_7 : decode cX7_readyCurve 7 = .ok (.ifCond .ne 19, 3) := by decide +kernel
theorem dX7_readyCurve_10 : decode cX7_readyCurve 10 = .ok (.aload_n 0, 1) := by decide +kernel
theorem dX7_readyCurve_11 : decode cX7_readyCurve 11 = .ok (.getfield 43, 3) := by decide +kernel
theorem dX7_readyCurve_14 : decode cX7_readyCurve 14 = .ok (.aload_n 0, 1) := by decide +kernel
theorem dX7_readyCurve_15 : decode cX7_readyCurve 15 = .ok (.getfield 19, 3) := by decide +kernel
theorem dX7_readyCurve_18 : decode cX7_readyCurve 18 = .ok (.aload_n 0, 1) := by decide +kernel
theorem dX7_readyCurve_19 : decode cX7_readyCurve 19 = .ok (.iconst 1, 1) := by decide +kernel
theorem dX7_readyCurve_20 : decode cX7_readyCurve 20 = .ok (.invokevirtual 286, 3) := by decide +kernel
theorem dX7_readyCurve_23 : decode cX7_readyCurve 23 = .ok (.invokevirtual 290, 3) := by decide +kernel
theorem dX7_readyCurve_26 : decode cX7_readyCurve 26 = .ok (.return_, 1) := by decide +kernel
set_option maxRecDepth 20000 in
theorem ggX7_shortest_X3_bendAt : GoodIn wsX7_shortest wsX3_bendAt := goodIn_r _ [8, 9, 10, 11, 12, 13, 14, 15, 16, 17, 18, 19, 20, 21, 22, 37, 38, 39, 40, 41, 42, 43, 44, 45, 46] (by decide +kernel) (by decide +kernel)
set_option maxRecDepth 20000 in
theorem gX7_shortest_X3_bendAt : GoodIn wsX7_shortest (wsV RX7 217 RX3 yX3_bendAt wsX3_bendAt) := goodIn_app (goodIn_of _ (by decide +kernel)) ggX7_shortest_X3_bendAt
theorem dX7_shortest_0 : decode cX7_shortest 0 = .ok (.aload_n 0, 1) := by decide +kernel
theorem dX7_shortest_1 : decode cX7_shortest 1 = .ok (.getfield 43, 3) := by decide +kernel
theorem dX7_shortest_4 : decode cX7_shortest 4 = .ok (.aload_n 0, 1) := by decide +kernel
theorem dX7_shortest_5 : decode cX7_shortest 5 = .ok (.getfield 43, 3) := by decide +kernel
theorem dX7_shortest_8 : decode cX7_shortest 8 = .ok (.getfield 216, 3) := by decide +kernel
theorem dX7_shortest_11 : decode cX7_shortest 11 = .ok (.iconst 1, 1) := by decide +kernel
theorem dX7_shortest_12 : decode cX7_shortest 12 = .ok (.isub, 1) := by decide +kernel
theorem dX7_shortest_13 : decode cX7_shortest 13 = .ok (.invokevirtual 217, 3) := by decide +kernel
theorem dX7_shortest_16 : decode cX7_shortest 16 = .ok (.getfield 210, 3) := by decide +kernel
theorem dX7_shortest_19 : decode cX7_shortest 19 = .ok (.ireturn, 1) := by decide +kernel
set_option maxRecDepth 20000 in
theorem ggX7_lengthFinding_X7_shortest : GoodIn wsX7_lengthFinding wsX7_shortest := goodIn_r _ [5, 6, 7, 8, 9, 10, 11, 12, 13, 14, 15, 16, 17, 18, 19, 20, 21, 22, 23, 24, 25, 26, 27, 28, 29, 30, 31, 32, 33, 34, 35, 36, 37, 38, 39, 40, 41, 42, 43, 44, 45, 46, 47, 48, 49, 50, 51] (by decide +kernel) (by decide +kernel)
set_option maxRecDepth 20000 in
theorem gX7_lengthFinding_X7_shortest : GoodIn wsX7_lengthFinding (wsV RX7 193 RX7 yX7_shortest wsX7_shortest) := goodIn_app (goodIn_of _ (by decide +kernel)) ggX7_lengthFinding_X7_shortest
theorem dX7_lengthFinding_0 : decode cX7_lengthFinding 0 = .ok (.iload_n 1, 1) := by decide +kernel
theorem dX7_lengthFinding_1 : decode cX7_lengthFinding 1 = .ok (.aload_n 0, 1) := by decide +kernel
theorem dX7_lengthFinding_2 : decode cX7_lengthFinding 2 = .ok (.invokevirtual 193, 3) := by decide +kernel
theorem dX7_lengthFinding_5 : decode cX7_lengthFinding 5 = .ok (.if_icmp .ge 6, 3) := by decide +kernel
theorem dX7_lengthFinding_8 : decode cX7_lengthFinding 8 = .ok (.bipush (-8), 2) := by decide +kernel
theorem dX7_lengthFinding_10 : decode cX7_lengthFinding 10 = .ok (.ireturn, 1) := by decide +kernel
theorem dX7_lengthFinding_11 : decode cX7_lengthFinding 11 = .ok (.iload_n 1, 1) := by decide +kernel
theorem dX7_lengthFinding_12 : decode cX7_lengthFinding 12 = .ok (.sipush 1000, 3) := by decide +kernel
theorem dX7_lengthFinding_15 : decode cX7_lengthFinding 15 = .ok (.if_icmp .le 7, 3) := by decide +kernel
theorem dX7_lengthFinding_18 : decode cX7_lengthFinding 18 = .ok (.iconst (-1), 1) := by decide +kernel
theorem dX7_lengthFinding_19 : decode cX7_lengthFinding 19 = .ok (.goto 4, 3) := by decide +kernel
theorem dX7_lengthFinding_22 : decode cX7_lengthFinding 22 = .ok (.iconst 0, 1) := by decide +kernel
theorem dX7_lengthFinding_23 : decode cX7_lengthFinding 23 = .ok (.ireturn, 1) := by decide +kernel
set_option maxRecDepth 20000 in
theorem ggX7_changeBefore_X0_add : GoodIn wsX7_changeBefore wsX0_add := goodIn_r _ [8, 9, 10, 11, 12, 13, 14, 15, 16, 55, 56, 57, 58] (by decide +kernel) (by decide +kernel)
set_option maxRecDepth 20000 in
theorem gX7_changeBefore_X0_add : GoodIn wsX7_changeBefore (wsV RX7 111 RX0 yX0_add wsX0_add) := goodIn_app (goodIn_of _ (by decide +kernel)) ggX7_changeBefore_X0_add
set_option maxRecDepth 20000 in
theorem ggX7_changeBefore_X7_forgetPlans : GoodIn wsX7_changeBefore wsX7_forgetPlans := goodIn_r _ [21, 22, 23, 24, 32, 33, 34, 35, 36, 37, 38, 39, 40, 41, 42, 43, 44, 45, 59, 60, 61] (by decide +kernel) (by decide +kernel)
set_option maxRecDepth 20000 in
theorem gX7_changeBefore_X7_forgetPlans : GoodIn wsX7_changeBefore (wsV RX7 114 RX7 yX7_forgetPlans wsX7_forgetPlans) := goodIn_app (goodIn_of _ (by decide +kernel)) ggX7_changeBefore_X7_forgetPlans
set_option maxRecDepth 20000 in
theorem ggX7_changeBefore_J6_bitCount_0f7a4 : GoodIn wsX7_changeBefore wsJ6_bitCount_0f7a4 := goodIn_r _ [28, 29, 30, 31] (by decide +kernel) (by decide +kernel)
set_option maxRecDepth 20000 in
theorem gX7_changeBefore_J6_bitCount_0f7a4 : GoodIn wsX7_changeBefore (va_wsS RX7 294 yJ6_bitCount_0f7a4 wsJ6_bitCount_0f7a4) := goodIn_app (goodIn_of _ (by decide +kernel)) ggX7_changeBefore_J6_bitCount_0f7a4
theorem dX7_changeBefore_0 : decode cX7_changeBefore 0 = .ok (.aload_n 0, 1) := by decide +kernel
theorem dX7_changeBefore_1 : decode cX7_changeBefore 1 = .ok (.getfield 29, 3) := by decide +kernel
theorem dX7_changeBefore_4 : decode cX7_changeBefore 4 = .ok (.iconst 1, 1) := by decide +kernel
theorem dX7_changeBefore_5 : decode cX7_changeBefore 5 = .ok (.iload_n 1, 1) := by decide +kernel
theorem dX7_changeBefore_6 : decode cX7_changeBefore 6 = .ok (.aload_n 0, 1) := by decide +kernel
theorem dX7_changeBefore_7 : decode cX7_changeBefore 7 = .ok (.getfield 19, 3) := by decide +kernel
theorem dX7_changeBefore_10 : decode cX7_changeBefore 10 = .ok (.getfield 126, 3) := by decide +kernel
theorem dX7_changeBefore_13 : decode cX7_changeBefore 13 = .ok (.iload_n 1, 1) := by decide +kernel
theorem dX7_changeBefore_14 : decode cX7_changeBefore 14 = .ok (.iaload, 1) := by decide +kernel
theorem dX7_changeBefore_15 : decode cX7_changeBefore 15 = .ok (.invokevirtual 111, 3) := by decide +kernel
theorem dX7_changeBefore_18 : decode cX7_changeBefore 18 = .ok (.aload_n 0, 1) := by decide +kernel
theorem dX7_changeBefore_19 : decode cX7_changeBefore 19 = .ok (.getfield 19, 3) := by decide +kernel
theorem dX7_changeBefore_22 : decode cX7_changeBefore 22 = .ok (.getfield 126, 3) := by decide +kernel
theorem dX7_changeBefore_25 : decode cX7_changeBefore 25 = .ok (.iload_n 1, 1) := by decide +kernel
theorem dX7_changeBefore_26 : decode cX7_changeBefore 26 = .ok (.iload_n 2, 1) := by decide +kernel
theorem dX7_changeBefore_27 : decode cX7_changeBefore 27 = .ok (.iastore, 1) := by decide +kernel
theorem dX7_changeBefore_28 : decode cX7_changeBefore 28 = .ok (.aload_n 0, 1) := by decide +kernel
theorem dX7_changeBefore_29 : decode cX7_changeBefore 29 = .ok (.invokevirtual 114, 3) := by decide +kernel
theorem dX7_changeBefore_32 : decode cX7_changeBefore 32 = .ok (.iload_n 2, 1) := by decide +kernel
theorem dX7_changeBefore_33 : decode cX7_changeBefore 33 = .ok (.invokestatic 294, 3) := by decide +kernel
theorem dX7_changeBefore_36 : decode cX7_changeBefore 36 = .ok (.ireturn, 1) := by decide +kernel
set_option maxRecDepth 20000 in
theorem ggX7_isToldWrong_X5_allows : GoodIn wsX7_isToldWrong wsX5_allows := goodIn_r _ [9, 10, 11, 30, 31, 32, 33, 34, 35, 36, 37, 38] (by decide +kernel) (by decide +kernel)
set_option maxRecDepth 20000 in
theorem gX7_isToldWrong_X5_allows : GoodIn wsX7_isToldWrong (wsV RX7 166 RX5 yX5_allows wsX5_allows) := goodIn_app (goodIn_of _ (by decide +kernel)) ggX7_isToldWrong_X5_allows
set_option maxRecDepth 20000 in
theorem ggX7_isToldWrong_X7_hasBit : GoodIn wsX7_isToldWrong wsX7_hasBit := goodIn_r _ [15] (by decide +kernel) (by decide +kernel)
set_option maxRecDepth 20000 in
theorem gX7_isToldWrong_X7_hasBit : GoodIn wsX7_isToldWrong (va_wsS RX7 132 yX7_hasBit wsX7_hasBit) := goodIn_app (goodIn_of _ (by decide +kernel)) ggX7_isToldWrong_X7_hasBit
theorem dX7_isToldWrong_0 : decode cX7_isToldWrong 0 = .ok (.iconst 2, 1) := by decide +kernel
theorem dX7_isToldWrong_1 : decode cX7_isToldWrong 1 = .ok (.iload_n 1, 1) := by decide +kernel
theorem dX7_isToldWrong_2 : decode cX7_isToldWrong 2 = .ok (.imul, 1) := by decide +kernel
theorem dX7_isToldWrong_3 : decode cX7_isToldWrong 3 = .ok (.iconst 1, 1) := by decide +kernel
theorem dX7_isToldWrong_4 : decode cX7_isToldWrong 4 = .ok (.iadd, 1) := by decide +kernel
theorem dX7_isToldWrong_5 : decode cX7_isToldWrong 5 = .ok (.iload_n 3, 1) := by decide +kernel
theorem dX7_isToldWrong_6 : decode cX7_isToldWrong 6 = .ok (.if_icmp .lt 5, 3) := by decide +kernel
theorem dX7_isToldWrong_9 : decode cX7_isToldWrong 9 = .ok (.iconst 1, 1) := by decide +kernel
theorem dX7_isToldWrong_10 : decode cX7_isToldWrong 10 = .ok (.ireturn, 1) := by decide +kernel
theorem dX7_isToldWrong_11 : decode cX7_isToldWrong 11 = .ok (.aload_n 0, 1) := by decide +kernel
theorem dX7_isToldWrong_12 : decode cX7_isToldWrong 12 = .ok (.getfield 47, 3) := by decide +kernel
theorem dX7_isToldWrong_15 : decode cX7_isToldWrong 15 = .ok (.iconst 2, 1) := by decide +kernel
theorem dX7_isToldWrong_16 : decode cX7_isToldWrong 16 = .ok (.iload_n 1, 1) := by decide +kernel
theorem dX7_isToldWrong_17 : decode cX7_isToldWrong 17 = .ok (.imul, 1) := by decide +kernel
theorem dX7_isToldWrong_18 : decode cX7_isToldWrong 18 = .ok (.iaload, 1) := by decide +kernel
theorem dX7_isToldWrong_19 : decode cX7_isToldWrong 19 = .ok (.istore 4, 2) := by decide +kernel
theorem dX7_isToldWrong_21 : decode cX7_isToldWrong 21 = .ok (.aload_n 0, 1) := by decide +kernel
theorem dX7_isToldWrong_22 : decode cX7_isToldWrong 22 = .ok (.getfield 47, 3) := by decide +kernel
theorem dX7_isToldWrong_25 : decode cX7_isToldWrong 25 = .ok (.iconst 2, 1) := by decide +kernel
theorem dX7_isToldWrong_26 : decode cX7_isToldWrong 26 = .ok (.iload_n 1, 1) := by decide +kernel
theorem dX7_isToldWrong_27 : decode cX7_isToldWrong 27 = .ok (.imul, 1) := by decide +kernel
theorem dX7_isToldWrong_28 : decode cX7_isToldWrong 28 = .ok (.iconst 1, 1) := by decide +kernel
theorem dX7_isToldWrong_29 : decode cX7_isToldWrong 29 = .ok (.iadd, 1) := by decide +kernel
theorem dX7_isToldWrong_30 : decode cX7_isToldWrong 30 = .ok (.iaload, 1) := by decide +kernel
theorem dX7_isToldWrong_31 : decode cX7_isToldWrong 31 = .ok (.istore 5, 2) := by decide +kernel
theorem dX7_isToldWrong_33 : decode cX7_isToldWrong 33 = .ok (.aload_n 0, 1) := by decide +kernel
theorem dX7_isToldWrong_34 : decode cX7_isToldWrong 34 = .ok (.getfield 19, 3) := by decide +kernel
theorem dX7_isToldWrong_37 : decode cX7_isToldWrong 37 = .ok (.iload_n 1, 1) := by decide +kernel
theorem dX7_isToldWrong_38 : decode cX7_isToldWrong 38 = .ok (.iload 5, 2) := by decide +kernel
theorem dX7_isToldWrong_40 : decode cX7_isToldWrong 40 = .ok (.invokevirtual 166, 3) := by decide +kernel
theorem dX7_isToldWrong_43 : decode cX7_isToldWrong 43 = .ok (.ifCond .eq 21, 3) := by decide +kernel
theorem dX7_isToldWrong_46 : decode cX7_isToldWrong 46 = .ok (.iload 4, 2) := by decide +kernel
theorem dX7_isToldWrong_48 : decode cX7_isToldWrong 48 = .ok (.ifCond .lt 16, 3) := by decide +kernel
theorem dX7_isToldWrong_51 : decode cX7_isToldWrong 51 = .ok (.iload 4, 2) := by decide +kernel
theorem dX7_isToldWrong_53 : decode cX7_isToldWrong 53 = .ok (.i2l, 1) := by decide +kernel
theorem dX7_isToldWrong_54 : decode cX7_isToldWrong 54 = .ok (.iload 5, 2) := by decide +kernel
theorem dX7_isToldWrong_56 : decode cX7_isToldWrong 56 = .ok (.i2l, 1) := by decide +kernel
theorem dX7_isToldWrong_57 : decode cX7_isToldWrong 57 = .ok (.ladd, 1) := by decide +kernel
theorem dX7_isToldWrong_58 : decode cX7_isToldWrong 58 = .ok (.iload_n 2, 1) := by decide +kernel
theorem dX7_isToldWrong_59 : decode cX7_isToldWrong 59 = .ok (.i2l, 1) := by decide +kernel
theorem dX7_isToldWrong_60 : decode cX7_isToldWrong 60 = .ok (.lcmp, 1) := by decide +kernel
theorem dX7_isToldWrong_61 : decode cX7_isToldWrong 61 = .ok (.ifCond .le 5, 3) := by decide +kernel
theorem dX7_isToldWrong_64 : decode cX7_isToldWrong 64 = .ok (.iconst 1, 1) := by decide +kernel
theorem dX7_isToldWrong_65 : decode cX7_isToldWrong 65 = .ok (.ireturn, 1) := by decide +kernel
theorem dX7_isToldWrong_66 : decode cX7_isToldWrong 66 = .ok (.iconst 0, 1) := by decide +kernel
theorem dX7_isToldWrong_67 : decode cX7_isToldWrong 67 = .ok (.istore 6, 2) := by decide +kernel
theorem dX7_isToldWrong_69 : decode cX7_isToldWrong 69 = .ok (.iload 6, 2) := by decide +kernel
theorem dX7_isToldWrong_71 : decode cX7_isToldWrong 71 = .ok (.aload_n 0, 1) := by decide +kernel
theorem dX7_isToldWrong_72 : decode cX7_isToldWrong 72 = .ok (.getfield 19, 3) := by decide +kernel
theorem dX7_isToldWrong_75 : decode cX7_isToldWrong 75 = .ok (.getfield 104, 3) := by decide +kernel
theorem dX7_isToldWrong_78 : decode cX7_isToldWrong 78 = .ok (.if_icmp .ge 80, 3) := by decide +kernel
theorem dX7_isToldWrong_81 : decode cX7_isToldWrong 81 = .ok (.iconst 2, 1) := by decide +kernel
theorem dX7_isToldWrong_82 : decode cX7_isToldWrong 82 = .ok (.iload 6, 2) := by decide +kernel
theorem dX7_isToldWrong_84 : decode cX7_isToldWrong 84 = .ok (.imul, 1) := by decide +kernel
theorem dX7_isToldWrong_85 : decode cX7_isToldWrong 85 = .ok (.iconst 1, 1) := by decide +kernel
theorem dX7_isToldWrong_86 : decode cX7_isToldWrong 86 = .ok (.iadd, 1) := by decide +kernel
theorem dX7_isToldWrong_87 : decode cX7_isToldWrong 87 = .ok (.iload_n 3, 1) := by decide +kernel
theorem dX7_isToldWrong_88 : decode cX7_isToldWrong 88 = .ok (.if_icmp .ge 7, 3) := by decide +kernel
theorem dX7_isToldWrong_91 : decode cX7_isToldWrong 91 = .ok (.iconst 1, 1) := by decide +kernel
theorem dX7_isToldWrong_92 : decode cX7_isToldWrong 92 = .ok (.goto 4, 3) := by decide +kernel
theorem dX7_isToldWrong_95 : decode cX7_isToldWrong 95 = .ok (.iconst 0, 1) := by decide +kernel
theorem dX7_isToldWrong_96 : decode cX7_isToldWrong 96 = .ok (.istore 7, 2) := by decide +kernel
theorem dX7_isToldWrong_98 : decode cX7_isToldWrong 98 = .ok (.iload 7, 2) := by decide +kernel
theorem dX7_isToldWrong_100 : decode cX7_isToldWrong 100 = .ok (.ifCond .eq 52, 3) := by decide +kernel
theorem dX7_isToldWrong_103 : decode cX7_isToldWrong 103 = .ok (.aload_n 0, 1) := by decide +kernel
theorem dX7_isToldWrong_104 : decode cX7_isToldWrong 104 = .ok (.getfield 19, 3) := by decide +kernel
theorem dX7_isToldWrong_107 : decode cX7_isToldWrong 107 = .ok (.getfield 126, 3) := by decide +kernel
theorem dX7_isToldWrong_110 : decode cX7_isToldWrong 110 = .ok (.iload_n 1, 1) := by decide +kernel
theorem dX7_isToldWrong_111 : decode cX7_isToldWrong 111 = .ok (.iaload, 1) := by decide +kernel
theorem dX7_isToldWrong_112 : decode cX7_isToldWrong 112 = .ok (.iload 6, 2) := by decide +kernel
theorem dX7_isToldWrong_114 : decode cX7_isToldWrong 114 = .ok (.invokestatic 132, 3) := by decide +kernel
theorem dX7_isToldWrong_117 : decode cX7_isToldWrong 117 = .ok (.ifCond .eq 35, 3) := by decide +kernel
theorem dX7_isToldWrong_120 : decode cX7_isToldWrong 120 = .ok (.iload 4, 2) := by decide +kernel
theorem dX7_isToldWrong_122 : decode cX7_isToldWrong 122 = .ok (.i2l, 1) := by decide +kernel
theorem dX7_isToldWrong_123 : decode cX7_isToldWrong 123 = .ok (.aload_n 0, 1) := by decide +kernel
theorem dX7_isToldWrong_124 : decode cX7_isToldWrong 124 = .ok (.getfield 47, 3) := by decide +kernel
theorem dX7_isToldWrong_127 : decode cX7_isToldWrong 127 = .ok (.iconst 2, 1) := by decide +kernel
theorem dX7_isToldWrong_128 : decode cX7_isToldWrong 128 = .ok (.iload 6, 2) := by decide +kernel
theorem dX7_isToldWrong_130 : decode cX7_isToldWrong 130 = .ok (.imul, 1) := by decide +kernel
theorem dX7_isToldWrong_131 : decode cX7_isToldWrong 131 = .ok (.iaload, 1) := by decide +kernel
theorem dX7_isToldWrong_132 : decode cX7_isToldWrong 132 = .ok (.i2l, 1) := by decide +kernel
theorem dX7_isToldWrong_133 : decode cX7_isToldWrong 133 = .ok (.aload_n 0, 1) := by decide +kernel
theorem dX7_isToldWrong_134 : decode cX7_isToldWrong 134 = .ok (.getfield 47, 3) := by decide +kernel
theorem dX7_isToldWrong_137 : decode cX7_isToldWrong 137 = .ok (.iconst 2, 1) := by decide +kernel
theorem dX7_isToldWrong_138 : decode cX7_isToldWrong 138 = .ok (.iload 6, 2) := by decide +kernel
theorem dX7_isToldWrong_140 : decode cX7_isToldWrong 140 = .ok (.imul, 1) := by decide +kernel
theorem dX7_isToldWrong_141 : decode cX7_isToldWrong 141 = .ok (.iconst 1, 1) := by decide +kernel
theorem dX7_isToldWrong_142 : decode cX7_isToldWrong 142 = .ok (.iadd, 1) := by decide +kernel
theorem dX7_isToldWrong_143 : decode cX7_isToldWrong 143 = .ok (.iaload, 1) := by decide +kernel
theorem dX7_isToldWrong_144 : decode cX7_isToldWrong 144 = .ok (.i2l, 1) := by decide +kernel
theorem dX7_isToldWrong_145 : decode cX7_isToldWrong 145 = .ok (.ladd, 1) := by decide +kernel
theorem dX7_isToldWrong_146 : decode cX7_isToldWrong 146 = .ok (.lcmp, 1) := by decide +kernel
theorem dX7_isToldWrong_147 : decode cX7_isToldWrong 147 = .ok (.ifCond .ge 5, 3) := by decide +kernel
theorem dX7_isToldWrong_150 : decode cX7_isToldWrong 150 = .ok (.iconst 1, 1) := by decide +kernel
theorem dX7_isToldWrong_151 : decode cX7_isToldWrong 151 = .ok (.ireturn, 1) := by decide +kernel
theorem dX7_isToldWrong_152 : decode cX7_isToldWrong 152 = .ok (.iinc 6 1, 3) := by decide +kernel
theorem dX7_isToldWrong_155 : decode cX7_isToldWrong 155 = .ok (.goto (-86), 3) := by decide +kernel
theorem dX7_isToldWrong_158 : decode cX7_isToldWrong 158 = .ok (.iconst 0, 1) := by decide +kernel
theorem dX7_isToldWrong_159 : decode cX7_isToldWrong 159 = .ok (.ireturn, 1) := by decide +kernel
theorem dX8_init_0 : decode cX8_init 0 = .ok (.aload_n 0, 1) := by decide +kernel
theorem dX8_init_1 : decode cX8_init 1 = .ok (.invokespecial 3, 3) := by decide +kernel
theorem dX8_init_4 : decode cX8_init 4 = .ok (.aload_n 0, 1) := by decide +kernel
theorem dX8_init_5 : decode cX8_init 5 = .ok (.bipush 12, 2) := by decide +kernel
theorem dX8_init_7 : decode cX8_init 7 = .ok (.newarray .int, 2) := by decide +kernel
theorem dX8_init_9 : decode cX8_init 9 = .ok (.putfield 9, 3) := by decide +kernel
theorem dX8_init_12 : decode cX8_init 12 = .ok (.aload_n 0, 1) := by decide +kernel
theorem dX8_init_13 : decode cX8_init 13 = .ok (.bipush 60, 2) := by decide +kernel
theorem dX8_init_15 : decode cX8_init 15 = .ok (.newarray .int, 2) := by decide +kernel
theorem dX8_init_17 : decode cX8_init 17 = .ok (.putfield 15, 3) := by decide +kernel
theorem dX8_init_20 : decode cX8_init 20 = .ok (.aload_n 0, 1) := by decide +kernel
theorem dX8_init_21 : decode cX8_init 21 = .ok (.sipush 144, 3) := by decide +kernel
theorem dX8_init_24 : decode cX8_init 24 = .ok (.newarray .boolean, 2) := by decide +kernel
theorem dX8_init_26 : decode cX8_init 26 = .ok (.putfield 18, 3) := by decide +kernel
theorem dX8_init_29 : decode cX8_init 29 = .ok (.aload_n 0, 1) := by decide +kernel
theorem dX8_init_30 : decode cX8_init 30 = .ok (.bipush 12, 2) := by decide +kernel
theorem dX8_init_32 : decode cX8_init 32 = .ok (.newarray .int, 2) := by decide +kernel
theorem dX8_init_34 : decode cX8_init 34 = .ok (.putfield 22, 3) := by decide +kernel
theorem dX8_init_37 : decode cX8_init 37 = .ok (.return_, 1) := by decide +kernel
theorem dX8_be_0 : decode cX8_be 0 = .ok (.aload_n 0, 1) := by decide +kernel
theorem dX8_be_1 : decode cX8_be 1 = .ok (.aload_n 1, 1) := by decide +kernel
theorem dX8_be_2 : decode cX8_be 2 = .ok (.getfield 25, 3) := by decide +kernel
theorem dX8_be_5 : decode cX8_be 5 = .ok (.putfield 25, 3) := by decide +kernel
theorem dX8_be_8 : decode cX8_be 8 = .ok (.iconst 0, 1) := by decide +kernel
theorem dX8_be_9 : decode cX8_be 9 = .ok (.istore_n 2, 1) := by decide +kernel
theorem dX8_be_10 : decode cX8_be 10 = .ok (.iload_n 2, 1) := by decide +kernel
theorem dX8_be_11 : decode cX8_be 11 = .ok (.bipush 12, 2) := by decide +kernel
theorem dX8_be_13 : decode cX8_be 13 = .ok (.if_icmp .ge 33, 3) := by decide +kernel
theorem dX8_be_16 : decode cX8_be 16 = .ok (.aload_n 0, 1) := by decide +kernel
theorem dX8_be_17 : decode cX8_be 17 = .ok (.getfield 9, 3) := by decide +kernel
theorem dX8_be_20 : decode cX8_be 20 = .ok (.iload_n 2, 1) := by decide +kernel
theorem dX8_be_21 : decode cX8_be 21 = .ok (.aload_n 1, 1) := by decide +kernel
theorem dX8_be_22 : decode cX8_be 22 = .ok (.getfield 9, 3) := by decide +kernel
theorem dX8_be_25 : decode cX8_be 25 = .ok (.iload_n 2, 1) := by decide +kernel
theorem dX8_be_26 : decode cX8_be 26 = .ok (.iaload, 1) := by decide +kernel
theorem dX8_be_27 : decode cX8_be 27 = .ok (.iastore, 1) := by decide +kernel
theorem dX8_be_28 : decode cX8_be 28 = .ok (.aload_n 0, 1) := by decide +kernel
theorem dX8_be_29 : decode cX8_be 29 = .ok (.getfield 22, 3) := by decide +kernel
theorem dX8_be_32 : decode cX8_be 32 = .ok (.iload_n 2, 1) := by decide +kernel
theorem dX8_be_33 : decode cX8_be 33 = .ok (.aload_n 1, 1) := by decide +kernel
theorem dX8_be_34 : decode cX8_be 34 = .ok (.getfield 22, 3) := by decide +kernel
theorem dX8_be_37 : decode cX8_be 37 = .ok (.iload_n 2, 1) := by decide +kernel
theorem dX8_be_38 : decode cX8_be 38 = .ok (.iaload, 1) := by decide +kernel
theorem dX8_be_39 : decode cX8_be 39 = .ok (.iastore, 1) := by decide +kernel
theorem dX8_be_40 : decode cX8_be 40 = .ok (.iinc 2 1, 3) := by decide +kernel
theorem dX8_be_43 : decode cX8_be 43 = .ok (.goto (-33), 3) := by decide +kernel
theorem dX8_be_46 : decode cX8_be 46 = .ok (.iconst 0, 1) := by decide +kernel
theorem dX8_be_47 : decode cX8_be 47 = .ok (.istore_n 2, 1) := by decide +kernel
theorem dX8_be_48 : decode cX8_be 48 = .ok (.iload_n 2, 1) := by decide +kernel
theorem dX8_be_49 : decode cX8_be 49 = .ok (.bipush 60, 2) := by decide +kernel
theorem dX8_be_51 : decode cX8_be 51 = .ok (.if_icmp .ge 21, 3) := by decide +kernel
theorem dX8_be_54 : decode cX8_be 54 = .ok (.aload_n 0, 1) := by decide +kernel
theorem dX8_be_55 : decode cX8_be 55 = .ok (.getfield 15, 3) := by decide +kernel
theorem dX8_be_58 : decode cX8_be 58 = .ok (.iload_n 2, 1) := by decide +kernel
theorem dX8_be_59 : decode cX8_be 59 = .ok (.aload_n 1, 1) := by decide +kernel
theorem dX8_be_60 : decode cX8_be 60 = .ok (.getfield 15, 3) := by decide +kernel
theorem dX8_be_63 : decode cX8_be 63 = .ok (.iload_n 2, 1) := by decide +kernel
theorem dX8_be_64 : decode cX8_be 64 = .ok (.iaload, 1) := by decide +kernel
theorem dX8_be_65 : decode cX8_be 65 = .ok (.iastore, 1) := by decide +kernel
theorem dX8_be_66 : decode cX8_be 66 = .ok (.iinc 2 1, 3) := by decide +kernel
theorem dX8_be_69 : decode cX8_be 69 = .ok (.goto (-21), 3) := by decide +kernel
theorem dX8_be_72 : decode cX8_be 72 = .ok (.iconst 0, 1) := by decide +kernel
theorem dX8_be_73 : decode cX8_be 73 = .ok (.istore_n 2, 1) := by decide +kernel
theorem dX8_be_74 : decode cX8_be 74 = .ok (.iload_n 2, 1) := by decide +kernel
theorem dX8_be_75 : decode cX8_be 75 = .ok (.sipush 144, 3) := by decide +kernel
theorem dX8_be_78 : decode cX8_be 78 = .ok (.if_icmp .ge 21, 3) := by decide +kernel
theorem dX8_be_81 : decode cX8_be 81 = .ok (.aload_n 0, 1) := by decide +kernel
theorem dX8_be_82 : decode cX8_be 82 = .ok (.getfield 18, 3) := by decide +kernel
theorem dX8_be_85 : decode cX8_be 85 = .ok (.iload_n 2, 1) := by decide +kernel
theorem dX8_be_86 : decode cX8_be 86 = .ok (.aload_n 1, 1) := by decide +kernel
theorem dX8_be_87 : decode cX8_be 87 = .ok (.getfield 18, 3) := by decide +kernel
theorem dX8_be_90 : decode cX8_be 90 = .ok (.iload_n 2, 1) := by decide +kernel
theorem dX8_be_91 : decode cX8_be 91 = .ok (.baload, 1) := by decide +kernel
theorem dX8_be_92 : decode cX8_be 92 = .ok (.bastore, 1) := by decide +kernel
theorem dX8_be_93 : decode cX8_be 93 = .ok (.iinc 2 1, 3) := by decide +kernel
theorem dX8_be_96 : decode cX8_be 96 = .ok (.goto (-22), 3) := by decide +kernel
theorem dX8_be_99 : decode cX8_be 99 = .ok (.return_, 1) := by decide +kernel
set_option maxRecDepth 20000 in
theorem ggX9_init_X8_init : GoodIn wsX9_init wsX8_init := goodIn_r _ [35, 36, 2, 3, 13, 37, 38, 10, 39, 40, 41, 42, 43, 44, 45] (by decide +kernel) (by decide +kernel)
set_option maxRecDepth 20000 in
theorem gX9_init_X8_init_n9 : GoodIn wsX9_init (wsX8_init) := ggX9_init_X8_init
