theorem dX9_costOf_0 : decode cX9_costOf 0 = .ok (.aload_n 0, 1) := by decide +kernel
theorem dX9_costOf_1 : decode cX9_costOf 1 = .ok (.iload_n 1, 1) := by decide +kernel
theorem dX9_costOf_2 : decode cX9_costOf 2 = .ok (.iconst 0, 1) := by decide +kernel
theorem dX9_costOf_3 : decode cX9_costOf 3 = .ok (.invokevirtual 169, 3) := by decide +kernel
theorem dX9_costOf_6 : decode cX9_costOf 6 = .ok (.istore_n 3, 1) := by decide +kernel
theorem dX9_costOf_7 : decode cX9_costOf 7 = .ok (.iload_n 2, 1) := by decide +kernel
theorem dX9_costOf_8 : decode cX9_costOf 8 = .ok (.i2l, 1) := by decide +kernel
theorem dX9_costOf_9 : decode cX9_costOf 9 = .ok (.aload_n 0, 1) := by decide +kernel
theorem dX9_costOf_10 : decode cX9_costOf 10 = .ok (.iload_n 1, 1) := by decide +kernel
theorem dX9_costOf_11 : decode cX9_costOf 11 = .ok (.iconst 1, 1) := by decide +kernel
theorem dX9_costOf_12 : decode cX9_costOf 12 = .ok (.invokevirtual 169, 3) := by decide +kernel
theorem dX9_costOf_15 : decode cX9_costOf 15 = .ok (.i2l, 1) := by decide +kernel
theorem dX9_costOf_16 : decode cX9_costOf 16 = .ok (.iload_n 3, 1) := by decide +kernel
theorem dX9_costOf_17 : decode cX9_costOf 17 = .ok (.i2l, 1) := by decide +kernel
theorem dX9_costOf_18 : decode cX9_costOf 18 = .ok (.invokestatic 97, 3) := by decide +kernel
theorem dX9_costOf_21 : decode cX9_costOf 21 = .ok (.ifCond .ne 7, 3) := by decide +kernel
theorem dX9_costOf_24 : decode cX9_costOf 24 = .ok (.ldc2_w 197, 3) := by decide +kernel
theorem dX9_costOf_27 : decode cX9_costOf 27 = .ok (.lreturn, 1) := by decide +kernel
theorem dX9_costOf_28 : decode cX9_costOf 28 = .ok (.aload_n 0, 1) := by decide +kernel
theorem dX9_costOf_29 : decode cX9_costOf 29 = .ok (.iload_n 1, 1) := by decide +kernel
theorem dX9_costOf_30 : decode cX9_costOf 30 = .ok (.iconst 2, 1) := by decide +kernel
theorem dX9_costOf_31 : decode cX9_costOf 31 = .ok (.invokevirtual 169, 3) := by decide +kernel
theorem dX9_costOf_34 : decode cX9_costOf 34 = .ok (.i2l, 1) := by decide +kernel
theorem dX9_costOf_35 : decode cX9_costOf 35 = .ok (.iload_n 3, 1) := by decide +kernel
theorem dX9_costOf_36 : decode cX9_costOf 36 = .ok (.iload_n 2, 1) := by decide +kernel
theorem dX9_costOf_37 : decode cX9_costOf 37 = .ok (.isub, 1) := by decide +kernel
theorem dX9_costOf_38 : decode cX9_costOf 38 = .ok (.i2l, 1) := by decide +kernel
theorem dX9_costOf_39 : decode cX9_costOf 39 = .ok (.lmul, 1) := by decide +kernel
theorem dX9_costOf_40 : decode cX9_costOf 40 = .ok (.lstore 4, 2) := by decide +kernel
theorem dX9_costOf_42 : decode cX9_costOf 42 = .ok (.aload_n 0, 1) := by decide +kernel
theorem dX9_costOf_43 : decode cX9_costOf 43 = .ok (.getfield 10, 3) := by decide +kernel
theorem dX9_costOf_46 : decode cX9_costOf 46 = .ok (.getfield 141, 3) := by decide +kernel
theorem dX9_costOf_49 : decode cX9_costOf 49 = .ok (.iload_n 1, 1) := by decide +kernel
theorem dX9_costOf_50 : decode cX9_costOf 50 = .ok (.iaload, 1) := by decide +kernel
theorem dX9_costOf_51 : decode cX9_costOf 51 = .ok (.iconst 2, 1) := by decide +kernel
theorem dX9_costOf_52 : decode cX9_costOf 52 = .ok (.if_icmp .ne 31, 3) := by decide +kernel
theorem dX9_costOf_55 : decode cX9_costOf 55 = .ok (.lload 4, 2) := by decide +kernel
theorem dX9_costOf_57 : decode cX9_costOf 57 = .ok (.aload_n 0, 1) := by decide +kernel
theorem dX9_costOf_58 : decode cX9_costOf 58 = .ok (.iload_n 1, 1) := by decide +kernel
theorem dX9_costOf_59 : decode cX9_costOf 59 = .ok (.iconst 4, 1) := by decide +kernel
theorem dX9_costOf_60 : decode cX9_costOf 60 = .ok (.invokevirtual 169, 3) := by decide +kernel
theorem dX9_costOf_63 : decode cX9_costOf 63 = .ok (.i2l, 1) := by decide +kernel
theorem dX9_costOf_64 : decode cX9_costOf 64 = .ok (.iconst 0, 1) := by decide +kernel
theorem dX9_costOf_65 : decode cX9_costOf 65 = .ok (.iload_n 3, 1) := by decide +kernel
theorem dX9_costOf_66 : decode cX9_costOf 66 = .ok (.aload_n 0, 1) := by decide +kernel
theorem dX9_costOf_67 : decode cX9_costOf 67 = .ok (.iload_n 1, 1) := by decide +kernel
theorem dX9_costOf_68 : decode cX9_costOf 68 = .ok (.iconst 3, 1) := by decide +kernel
theorem dX9_costOf_69 : decode cX9_costOf 69 = .ok (.invokevirtual 169, 3) := by decide +kernel
theorem dX9_costOf_72 : decode cX9_costOf 72 = .ok (.isub, 1) := by decide +kernel
theorem dX9_costOf_73 : decode cX9_costOf 73 = .ok (.iload_n 2, 1) := by decide +kernel
theorem dX9_costOf_74 : decode cX9_costOf 74 = .ok (.isub, 1) := by decide +kernel
theorem dX9_costOf_75 : decode cX9_costOf 75 = .ok (.invokestatic 179, 3) := by decide +kernel
theorem dX9_costOf_78 : decode cX9_costOf 78 = .ok (.i2l, 1) := by decide +kernel
theorem dX9_costOf_79 : decode cX9_costOf 79 = .ok (.lmul, 1) := by decide +kernel
theorem dX9_costOf_80 : decode cX9_costOf 80 = .ok (.ladd, 1) := by decide +kernel
theorem dX9_costOf_81 : decode cX9_costOf 81 = .ok (.lstore 4, 2) := by decide +kernel
theorem dX9_costOf_83 : decode cX9_costOf 83 = .ok (.aload_n 0, 1) := by decide +kernel
theorem dX9_costOf_84 : decode cX9_costOf 84 = .ok (.getfield 10, 3) := by decide +kernel
theorem dX9_costOf_87 : decode cX9_costOf 87 = .ok (.getfield 141, 3) := by decide +kernel
theorem dX9_costOf_90 : decode cX9_costOf 90 = .ok (.iload_n 1, 1) := by decide +kernel
theorem dX9_costOf_91 : decode cX9_costOf 91 = .ok (.iaload, 1) := by decide +kernel
theorem dX9_costOf_92 : decode cX9_costOf 92 = .ok (.iconst 4, 1) := by decide +kernel
theorem dX9_costOf_93 : decode cX9_costOf 93 = .ok (.if_icmp .ne 18, 3) := by decide +kernel
theorem dX9_costOf_96 : decode cX9_costOf 96 = .ok (.lload 4, 2) := by decide +kernel
theorem dX9_costOf_98 : decode cX9_costOf 98 = .ok (.aload_n 0, 1) := by decide +kernel
theorem dX9_costOf_99 : decode cX9_costOf 99 = .ok (.iload_n 1, 1) := by decide +kernel
theorem dX9_costOf_100 : decode cX9_costOf 100 = .ok (.iconst 3, 1) := by decide +kernel
theorem dX9_costOf_101 : decode cX9_costOf 101 = .ok (.invokevirtual 169, 3) := by decide +kernel
theorem dX9_costOf_104 : decode cX9_costOf 104 = .ok (.i2l, 1) := by decide +kernel
theorem dX9_costOf_105 : decode cX9_costOf 105 = .ok (.iload_n 2, 1) := by decide +kernel
theorem dX9_costOf_106 : decode cX9_costOf 106 = .ok (.i2l, 1) := by decide +kernel
theorem dX9_costOf_107 : decode cX9_costOf 107 = .ok (.lmul, 1) := by decide +kernel
theorem dX9_costOf_108 : decode cX9_costOf 108 = .ok (.ladd, 1) := by decide +kernel
theorem dX9_costOf_109 : decode cX9_costOf 109 = .ok (.lstore 4, 2) := by decide +kernel
theorem dX9_costOf_111 : decode cX9_costOf 111 = .ok (.lload 4, 2) := by decide +kernel
theorem dX9_costOf_113 : decode cX9_costOf 113 = .ok (.lreturn, 1) := by decide +kernel
set_option maxRecDepth 20000 in
theorem ggX9_toldCost_X9_costOf : GoodIn wsX9_toldCost wsX9_costOf := goodIn_r _ [8, 9, 1, 10, 11, 12, 13, 14, 15, 16, 17, 7, 18, 19, 20, 21, 22, 23, 24, 25, 26, 27, 28, 29, 30, 31, 32, 33, 34, 35, 36, 37, 38, 39, 40, 41, 42, 43, 44, 45, 46, 47, 48, 49, 50, 51, 52, 53, 54, 55, 56, 57, 58, 59] (by decide +kernel) (by decide +kernel)
set_option maxRecDepth 20000 in
theorem gX9_toldCost_X9_costOf : GoodIn wsX9_toldCost (wsV RX9 199 RX9 yX9_costOf wsX9_costOf) := goodIn_app (goodIn_of _ (by decide +kernel)) ggX9_toldCost_X9_costOf
theorem dX9_toldCost_0 : decode cX9_toldCost 0 = .ok (.lconst 0, 1) := by decide +kernel
theorem dX9_toldCost_1 : decode cX9_toldCost 1 = .ok (.lstore_n 1, 1) := by decide +kernel
theorem dX9_toldCost_2 : decode cX9_toldCost 2 = .ok (.iconst 0, 1) := by decide +kernel
theorem dX9_toldCost_3 : decode cX9_toldCost 3 = .ok (.istore_n 3, 1) := by decide +kernel
theorem dX9_toldCost_4 : decode cX9_toldCost 4 = .ok (.iload_n 3, 1) := by decide +kernel
theorem dX9_toldCost_5 : decode cX9_toldCost 5 = .ok (.aload_n 0, 1) := by decide +kernel
theorem dX9_toldCost_6 : decode cX9_toldCost 6 = .ok (.getfield 10, 3) := by decide +kernel
theorem dX9_toldCost_9 : decode cX9_toldCost 9 = .ok (.getfield 94, 3) := by decide +kernel
theorem dX9_toldCost_12 : decode cX9_toldCost 12 = .ok (.if_icmp .ge 26, 3) := by decide +kernel
theorem dX9_toldCost_15 : decode cX9_toldCost 15 = .ok (.lload_n 1, 1) := by decide +kernel
theorem dX9_toldCost_16 : decode cX9_toldCost 16 = .ok (.aload_n 0, 1) := by decide +kernel
theorem dX9_toldCost_17 : decode cX9_toldCost 17 = .ok (.iload_n 3, 1) := by decide +kernel
theorem dX9_toldCost_18 : decode cX9_toldCost 18 = .ok (.aload_n 0, 1) := by decide +kernel
theorem dX9_toldCost_19 : decode cX9_toldCost 19 = .ok (.getfield 10, 3) := by decide +kernel
theorem dX9_toldCost_22 : decode cX9_toldCost 22 = .ok (.getfield 150, 3) := by decide +kernel
theorem dX9_toldCost_25 : decode cX9_toldCost 25 = .ok (.iload_n 3, 1) := by decide +kernel
theorem dX9_toldCost_26 : decode cX9_toldCost 26 = .ok (.iaload, 1) := by decide +kernel
theorem dX9_toldCost_27 : decode cX9_toldCost 27 = .ok (.invokevirtual 199, 3) := by decide +kernel
theorem dX9_toldCost_30 : decode cX9_toldCost 30 = .ok (.ladd, 1) := by decide +kernel
theorem dX9_toldCost_31 : decode cX9_toldCost 31 = .ok (.lstore_n 1, 1) := by decide +kernel
theorem dX9_toldCost_32 : decode cX9_toldCost 32 = .ok (.iinc 3 1, 3) := by decide +kernel
theorem dX9_toldCost_35 : decode cX9_toldCost 35 = .ok (.goto (-31), 3) := by decide +kernel
theorem dX9_toldCost_38 : decode cX9_toldCost 38 = .ok (.lload_n 1, 1) := by decide +kernel
theorem dX9_toldCost_39 : decode cX9_toldCost 39 = .ok (.lreturn, 1) := by decide +kernel
set_option maxRecDepth 20000 in
theorem ggX9_longest_X9_number : GoodIn wsX9_longest wsX9_number := goodIn_r _ [8, 1, 9, 29, 30, 31, 32, 33, 34, 35, 36, 37, 38, 39, 40, 41, 42, 43, 44, 45, 46, 47, 48, 49, 50, 51, 52, 53, 54, 55, 56, 57, 58, 59, 60, 61, 62, 63, 64, 65] (by decide +kernel) (by decide +kernel)
set_option maxRecDepth 20000 in
theorem gX9_longest_X9_number : GoodIn wsX9_longest (wsV RX9 169 RX9 yX9_number wsX9_number) := goodIn_app (goodIn_of _ (by decide +kernel)) ggX9_longest_X9_number
set_option maxRecDepth 20000 in
theorem ggX9_longest_X9_early : GoodIn wsX9_longest wsX9_early := goodIn_r _ [13, 1, 2, 14, 15, 16, 3, 17, 18, 19, 20, 21, 22, 23, 7, 24, 25, 26, 27, 28, 29, 30, 31, 32, 33, 34, 35, 36, 37, 38, 39, 40, 41, 42, 43, 44, 45, 46, 47, 48, 49, 50, 51, 52, 53, 54, 55, 56, 57, 58, 59, 60, 61, 62, 63, 64, 65] (by decide +kernel) (by decide +kernel)
set_option maxRecDepth 20000 in
theorem gX9_longest_X9_early : GoodIn wsX9_longest (wsV RX9 184 RX9 yX9_early wsX9_early) := goodIn_app (goodIn_of _ (by decide +kernel)) ggX9_longest_X9_early
theorem dX9_longest_0 : decode cX9_longest 0 = .ok (.iconst 0, 1) := by decide +kernel
theorem dX9_longest_1 : decode cX9_longest 1 = .ok (.istore_n 2, 1) := by decide +kernel
theorem dX9_longest_2 : decode cX9_longest 2 = .ok (.iload_n 2, 1) := by decide +kernel
theorem dX9_longest_3 : decode cX9_longest 3 = .ok (.aload_n 0, 1) := by decide +kernel
theorem dX9_longest_4 : decode cX9_longest 4 = .ok (.getfield 10, 3) := by decide +kernel
theorem dX9_longest_7 : decode cX9_longest 7 = .ok (.getfield 94, 3) := by decide +kernel
theorem dX9_longest_10 : decode cX9_longest 10 = .ok (.if_icmp .ge 29, 3) := by decide +kernel
theorem dX9_longest_13 : decode cX9_longest 13 = .ok (.aload_n 0, 1) := by decide +kernel
theorem dX9_longest_14 : decode cX9_longest 14 = .ok (.getfield 51, 3) := by decide +kernel
theorem dX9_longest_17 : decode cX9_longest 17 = .ok (.iload_n 2, 1) := by decide +kernel
theorem dX9_longest_18 : decode cX9_longest 18 = .ok (.aload_n 0, 1) := by decide +kernel
theorem dX9_longest_19 : decode cX9_longest 19 = .ok (.iload_n 2, 1) := by decide +kernel
theorem dX9_longest_20 : decode cX9_longest 20 = .ok (.iload_n 1, 1) := by decide +kernel
theorem dX9_longest_21 : decode cX9_longest 21 = .ok (.ifCond .eq 7, 3) := by decide +kernel
theorem dX9_longest_24 : decode cX9_longest 24 = .ok (.iconst 1, 1) := by decide +kernel
theorem dX9_longest_25 : decode cX9_longest 25 = .ok (.goto 4, 3) := by decide +kernel
theorem dX9_longest_28 : decode cX9_longest 28 = .ok (.iconst 0, 1) := by decide +kernel
theorem dX9_longest_29 : decode cX9_longest 29 = .ok (.invokevirtual 169, 3) := by decide +kernel
theorem dX9_longest_32 : decode cX9_longest 32 = .ok (.iastore, 1) := by decide +kernel
theorem dX9_longest_33 : decode cX9_longest 33 = .ok (.iinc 2 1, 3) := by decide +kernel
theorem dX9_longest_36 : decode cX9_longest 36 = .ok (.goto (-34), 3) := by decide +kernel
theorem dX9_longest_39 : decode cX9_longest 39 = .ok (.aload_n 0, 1) := by decide +kernel
theorem dX9_longest_40 : decode cX9_longest 40 = .ok (.invokevirtual 184, 3) := by decide +kernel
theorem dX9_longest_43 : decode cX9_longest 43 = .ok (.ireturn, 1) := by decide +kernel
theorem dX9_edge_0 : decode cX9_edge 0 = .ok (.aload_n 0, 1) := by decide +kernel
theorem dX9_edge_1 : decode cX9_edge 1 = .ok (.getfield 63, 3) := by decide +kernel
theorem dX9_edge_4 : decode cX9_edge 4 = .ok (.bipush 26, 2) := by decide +kernel
theorem dX9_edge_6 : decode cX9_edge 6 = .ok (.iload_n 1, 1) := by decide +kernel
theorem dX9_edge_7 : decode cX9_edge 7 = .ok (.imul, 1) := by decide +kernel
theorem dX9_edge_8 : decode cX9_edge 8 = .ok (.iload_n 2, 1) := by decide +kernel
theorem dX9_edge_9 : decode cX9_edge 9 = .ok (.iadd, 1) := by decide +kernel
theorem dX9_edge_10 : decode cX9_edge 10 = .ok (.dup2, 1) := by decide +kernel
theorem dX9_edge_11 : decode cX9_edge 11 = .ok (.laload, 1) := by decide +kernel
theorem dX9_edge_12 : decode cX9_edge 12 = .ok (.lload_n 3, 1) := by decide +kernel
theorem dX9_edge_13 : decode cX9_edge 13 = .ok (.ladd, 1) := by decide +kernel
theorem dX9_edge_14 : decode cX9_edge 14 = .ok (.lastore, 1) := by decide +kernel
theorem dX9_edge_15 : decode cX9_edge 15 = .ok (.return_, 1) := by decide +kernel
set_option maxRecDepth 20000 in
theorem ggX9_pair_X9_edge : GoodIn wsX9_pair wsX9_edge := goodIn_r _ [8, 9, 10, 11, 12, 13, 14, 15, 16, 17, 18, 19, 20, 21, 22, 23, 24, 25, 26, 27, 28, 29, 30, 31, 32, 33, 34, 35, 36, 37, 38, 39, 40, 41] (by decide +kernel) (by decide +kernel)
set_option maxRecDepth 20000 in
theorem gX9_pair_X9_edge : GoodIn wsX9_pair (wsV RX9 205 RX9 yX9_edge wsX9_edge) := goodIn_app (goodIn_of _ (by decide +kernel)) ggX9_pair_X9_edge
theorem dX9_pair_0 : decode cX9_pair 0 = .ok (.lload 5, 2) := by decide +kernel
theorem dX9_pair_2 : decode cX9_pair 2 = .ok (.ldc2_w 203, 3) := by decide +kernel
theorem dX9_pair_5 : decode cX9_pair 5 = .ok (.lcmp, 1) := by decide +kernel
theorem dX9_pair_6 : decode cX9_pair 6 = .ok (.ifCond .lt 51, 3) := by decide +kernel
theorem dX9_pair_9 : decode cX9_pair 9 = .ok (.aload_n 0, 1) := by decide +kernel
theorem dX9_pair_10 : decode cX9_pair 10 = .ok (.iload_n 2, 1) := by decide +kernel
theorem dX9_pair_11 : decode cX9_pair 11 = .ok (.iload_n 1, 1) := by decide +kernel
theorem dX9_pair_12 : decode cX9_pair 12 = .ok (.ldc2_w 197, 3) := by decide +kernel
theorem dX9_pair_15 : decode cX9_pair 15 = .ok (.invokevirtual 205, 3) := by decide +kernel
theorem dX9_pair_18 : decode cX9_pair 18 = .ok (.lload_n 3, 1) := by decide +kernel
theorem dX9_pair_19 : decode cX9_pair 19 = .ok (.ldc2_w 203, 3) := by decide +kernel
theorem dX9_pair_22 : decode cX9_pair 22 = .ok (.lcmp, 1) := by decide +kernel
theorem dX9_pair_23 : decode cX9_pair 23 = .ok (.ifCond .lt 13, 3) := by decide +kernel
theorem dX9_pair_26 : decode cX9_pair 26 = .ok (.aload_n 0, 1) := by decide +kernel
theorem dX9_pair_27 : decode cX9_pair 27 = .ok (.iload_n 1, 1) := by decide +kernel
theorem dX9_pair_28 : decode cX9_pair 28 = .ok (.iload_n 2, 1) := by decide +kernel
theorem dX9_pair_29 : decode cX9_pair 29 = .ok (.ldc2_w 197, 3) := by decide +kernel
theorem dX9_pair_32 : decode cX9_pair 32 = .ok (.invokevirtual 205, 3) := by decide +kernel
theorem dX9_pair_35 : decode cX9_pair 35 = .ok (.return_, 1) := by decide +kernel
theorem dX9_pair_36 : decode cX9_pair 36 = .ok (.aload_n 0, 1) := by decide +kernel
theorem dX9_pair_37 : decode cX9_pair 37 = .ok (.getfield 66, 3) := by decide +kernel
theorem dX9_pair_40 : decode cX9_pair 40 = .ok (.iload_n 1, 1) := by decide +kernel
theorem dX9_pair_41 : decode cX9_pair 41 = .ok (.dup2, 1) := by decide +kernel
theorem dX9_pair_42 : decode cX9_pair 42 = .ok (.laload, 1) := by decide +kernel
theorem dX9_pair_43 : decode cX9_pair 43 = .ok (.lload_n 3, 1) := by decide +kernel
theorem dX9_pair_44 : decode cX9_pair 44 = .ok (.ladd, 1) := by decide +kernel
theorem dX9_pair_45 : decode cX9_pair 45 = .ok (.lastore, 1) := by decide +kernel
theorem dX9_pair_46 : decode cX9_pair 46 = .ok (.aload_n 0, 1) := by decide +kernel
theorem dX9_pair_47 : decode cX9_pair 47 = .ok (.getfield 66, 3) := by decide +kernel
theorem dX9_pair_50 : decode cX9_pair 50 = .ok (.iload_n 2, 1) := by decide +kernel
theorem dX9_pair_51 : decode cX9_pair 51 = .ok (.dup2, 1) := by decide +kernel
theorem dX9_pair_52 : decode cX9_pair 52 = .ok (.laload, 1) := by decide +kernel
theorem dX9_pair_53 : decode cX9_pair 53 = .ok (.lload_n 3, 1) := by decide +kernel
theorem dX9_pair_54 : decode cX9_pair 54 = .ok (.lsub, 1) := by decide +kernel
theorem dX9_pair_55 : decode cX9_pair 55 = .ok (.lastore, 1) := by decide +kernel
theorem dX9_pair_56 : decode cX9_pair 56 = .ok (.return_, 1) := by decide +kernel
theorem dX9_pair_57 : decode cX9_pair 57 = .ok (.aload_n 0, 1) := by decide +kernel
theorem dX9_pair_58 : decode cX9_pair 58 = .ok (.getfield 66, 3) := by decide +kernel
theorem dX9_pair_61 : decode cX9_pair 61 = .ok (.iload_n 2, 1) := by decide +kernel
theorem dX9_pair_62 : decode cX9_pair 62 = .ok (.dup2, 1) := by decide +kernel
theorem dX9_pair_63 : decode cX9_pair 63 = .ok (.laload, 1) := by decide +kernel
theorem dX9_pair_64 : decode cX9_pair 64 = .ok (.lload 5, 2) := by decide +kernel
theorem dX9_pair_66 : decode cX9_pair 66 = .ok (.ladd, 1) := by decide +kernel
theorem dX9_pair_67 : decode cX9_pair 67 = .ok (.lastore, 1) := by decide +kernel
theorem dX9_pair_68 : decode cX9_pair 68 = .ok (.aload_n 0, 1) := by decide +kernel
theorem dX9_pair_69 : decode cX9_pair 69 = .ok (.getfield 66, 3) := by decide +kernel
theorem dX9_pair_72 : decode cX9_pair 72 = .ok (.iload_n 1, 1) := by decide +kernel
theorem dX9_pair_73 : decode cX9_pair 73 = .ok (.dup2, 1) := by decide +kernel
theorem dX9_pair_74 : decode cX9_pair 74 = .ok (.laload, 1) := by decide +kernel
theorem dX9_pair_75 : decode cX9_pair 75 = .ok (.lload 5, 2) := by decide +kernel
theorem dX9_pair_77 : decode cX9_pair 77 = .ok (.lsub, 1) := by decide +kernel
theorem dX9_pair_78 : decode cX9_pair 78 = .ok (.lastore, 1) := by decide +kernel
theorem dX9_pair_79 : decode cX9_pair 79 = .ok (.aload_n 0, 1) := by decide +kernel
theorem dX9_pair_80 : decode cX9_pair 80 = .ok (.iload_n 1, 1) := by decide +kernel
theorem dX9_pair_81 : decode cX9_pair 81 = .ok (.iload_n 2, 1) := by decide +kernel
theorem dX9_pair_82 : decode cX9_pair 82 = .ok (.lload_n 3, 1) := by decide +kernel
theorem dX9_pair_83 : decode cX9_pair 83 = .ok (.ldc2_w 203, 3) := by decide +kernel
theorem dX9_pair_86 : decode cX9_pair 86 = .ok (.lcmp, 1) := by decide +kernel
theorem dX9_pair_87 : decode cX9_pair 87 = .ok (.ifCond .lt 9, 3) := by decide +kernel
theorem dX9_pair_90 : decode cX9_pair 90 = .ok (.ldc2_w 197, 3) := by decide +kernel
theorem dX9_pair_93 : decode cX9_pair 93 = .ok (.goto 7, 3) := by decide +kernel
theorem dX9_pair_96 : decode cX9_pair 96 = .ok (.lload_n 3, 1) := by decide +kernel
theorem dX9_pair_97 : decode cX9_pair 97 = .ok (.lload 5, 2) := by decide +kernel
theorem dX9_pair_99 : decode cX9_pair 99 = .ok (.ladd, 1) := by decide +kernel
theorem dX9_pair_100 : decode cX9_pair 100 = .ok (.invokevirtual 205, 3) := by decide +kernel
theorem dX9_pair_103 : decode cX9_pair 103 = .ok (.return_, 1) := by decide +kernel
set_option maxRecDepth 20000 in
theorem ggX9_cut_X9_costOf : GoodIn wsX9_cut wsX9_costOf := goodIn_r _ [13, 6, 3, 14, 15, 16, 17, 18, 19, 20, 21, 12, 22, 23, 24, 25, 26, 54, 55, 56, 57, 58, 59, 60, 61, 62, 63, 64, 65, 66, 67, 68, 69, 70, 71, 72, 73, 74, 75, 76, 77, 78, 79, 80, 81, 82, 83, 84, 85, 86, 87, 88, 89, 90] (by decide +kernel) (by decide +kernel)
set_option maxRecDepth 20000 in
theorem gX9_cut_X9_costOf : GoodIn wsX9_cut (wsV RX9 199 RX9 yX9_costOf wsX9_costOf) := goodIn_app (goodIn_of _ (by decide +kernel)) ggX9_cut_X9_costOf
set_option maxRecDepth 20000 in
theorem ggX9_cut_X9_pair : GoodIn wsX9_cut wsX9_pair := goodIn_r _ [30, 31, 6, 2, 32, 33, 34, 12, 35, 1, 54, 55, 56, 57, 58, 59, 60, 61, 62, 63, 64, 65, 66, 67, 68, 69, 70, 71, 72, 73, 74, 75, 76, 77, 78, 79, 80, 81, 82, 83, 84, 85] (by decide +kernel) (by decide +kernel)
set_option maxRecDepth 20000 in
theorem gX9_cut_X9_pair : GoodIn wsX9_cut (wsV RX9 209 RX9 yX9_pair wsX9_pair) := goodIn_app (goodIn_of _ (by decide +kernel)) ggX9_cut_X9_pair
set_option maxRecDepth 20000 in
theorem ggX9_cut_X9_edge : GoodIn wsX9_cut wsX9_edge := goodIn_r _ [35, 1, 54, 55, 56, 57, 58, 59, 60, 61, 62, 63, 64, 65, 66, 67, 68, 69, 70, 71, 72, 73, 74, 75, 76, 77, 78, 79, 80, 81, 82, 83, 84, 85] (by decide +kernel) (by decide +kernel)
set_option maxRecDepth 20000 in
theorem gX9_cut_X9_edge : GoodIn wsX9_cut (wsV RX9 205 RX9 yX9_edge wsX9_edge) := goodIn_app (goodIn_of _ (by decide +kernel)) ggX9_cut_X9_edge
set_option maxRecDepth 20000 in
theorem ggX9_cut_X9_bounds : GoodIn wsX9_cut wsX9_bounds := goodIn_r _ [39, 5, 6, 32, 33, 34, 12, 35, 1, 54, 55, 56, 57, 58, 59, 60, 61, 62, 63, 64, 65, 66, 67, 68, 69, 70, 71, 72, 73, 74, 75, 76, 77, 78, 79, 80, 81, 82, 83, 84, 85] (by decide +kernel) (by decide +kernel)
set_option maxRecDepth 20000 in
theorem gX9_cut_X9_bounds : GoodIn wsX9_cut (wsV RX9 213 RX9 yX9_bounds wsX9_bounds) := goodIn_app (goodIn_of _ (by decide +kernel)) ggX9_cut_X9_bounds
set_option maxRecDepth 20000 in
theorem ggX9_cut_X9_reaches : GoodIn wsX9_cut wsX9_reaches := goodIn_r _ [43, 8, 44, 1, 45, 54, 55, 56, 57, 58, 59, 60, 61, 62, 63, 64, 65, 66, 67, 68, 69, 70, 71, 72, 73, 74, 75, 76, 77, 78, 79, 80, 81, 82, 83, 84, 85] (by decide +kernel) (by decide +kernel)
set_option maxRecDepth 20000 in
theorem gX9_cut_X9_reaches : GoodIn wsX9_cut (wsV RX9 217 RX9 yX9_reaches wsX9_reaches) := goodIn_app (goodIn_of _ (by decide +kernel)) ggX9_cut_X9_reaches
set_option maxRecDepth 20000 in
theorem ggX9_cut_X9_push : GoodIn wsX9_cut wsX9_push := goodIn_r _ [49, 50, 1, 45, 51, 52, 17, 53, 54, 55, 56, 57, 58, 59, 60, 61, 62, 63, 64, 65, 66, 67, 68, 69, 70, 71, 72, 73, 74, 75, 76, 77, 78, 79, 80, 81, 82, 83, 84, 85] (by decide +kernel) (by decide +kernel)
set_option maxRecDepth 20000 in
theorem gX9_cut_X9_push : GoodIn wsX9_cut (wsV RX9 221 RX9 yX9_push wsX9_push) := goodIn_app (goodIn_of _ (by decide +kernel)) ggX9_cut_X9_push
theorem dX9_cut_0 : decode cX9_cut 0 = .ok (.iconst 0, 1) := by decide +kernel
theorem dX9_cut_1 : decode cX9_cut 1 = .ok (.istore_n 3, 1) := by decide +kernel
theorem dX9_cut_2 : decode cX9_cut 2 = .ok (.iload_n 3, 1) := by decide +kernel
theorem dX9_cut_3 : decode cX9_cut 3 = .ok (.sipush 676, 3) := by decide +kernel
theorem dX9_cut_6 : decode cX9_cut 6 = .ok (.if_icmp .ge 16, 3) := by decide +kernel
theorem dX9_cut_9 : decode cX9_cut 9 = .ok (.aload_n 0, 1) := by decide +kernel
theorem dX9_cut_10 : decode cX9_cut 10 = .ok (.getfield 63, 3) := by decide +kernel
theorem dX9_cut_13 : decode cX9_cut 13 = .ok (.iload_n 3, 1) := by decide +kernel
theorem dX9_cut_14 : decode cX9_cut 14 = .ok (.lconst 0, 1) := by decide +kernel
theorem dX9_cut_15 : decode cX9_cut 15 = .ok (.lastore, 1) := by decide +kernel
theorem dX9_cut_16 : decode cX9_cut 16 = .ok (.iinc 3 1, 3) := by decide +kernel
theorem dX9_cut_19 : decode cX9_cut 19 = .ok (.goto (-17), 3) := by decide +kernel
theorem dX9_cut_22 : decode cX9_cut 22 = .ok (.iconst 0, 1) := by decide +kernel
theorem dX9_cut_23 : decode cX9_cut 23 = .ok (.istore_n 3, 1) := by decide +kernel
theorem dX9_cut_24 : decode cX9_cut 24 = .ok (.iload_n 3, 1) := by decide +kernel
theorem dX9_cut_25 : decode cX9_cut 25 = .ok (.bipush 24, 2) := by decide +kernel
theorem dX9_cut_27 : decode cX9_cut 27 = .ok (.if_icmp .ge 16, 3) := by decide +kernel
theorem dX9_cut_30 : decode cX9_cut 30 = .ok (.aload_n 0, 1) := by decide +kernel
theorem dX9_cut_31 : decode cX9_cut 31 = .ok (.getfield 66, 3) := by decide +kernel
theorem dX9_cut_34 : decode cX9_cut 34 = .ok (.iload_n 3, 1) := by decide +kernel
theorem dX9_cut_35 : decode cX9_cut 35 = .ok (.lconst 0, 1) := by decide +kernel
theorem dX9_cut_36 : decode cX9_cut 36 = .ok (.lastore, 1) := by decide +kernel
theorem dX9_cut_37 : decode cX9_cut 37 = .ok (.iinc 3 1, 3) := by decide +kernel
theorem dX9_cut_40 : decode cX9_cut 40 = .ok (.goto (-16), 3) := by decide +kernel
theorem dX9_cut_43 : decode cX9_cut 43 = .ok (.iconst 0, 1) := by decide +kernel
theorem dX9_cut_44 : decode cX9_cut 44 = .ok (.istore_n 3, 1) := by decide +kernel
theorem dX9_cut_45 : decode cX9_cut 45 = .ok (.iload_n 3, 1) := by decide +kernel
theorem dX9_cut_46 : decode cX9_cut 46 = .ok (.aload_n 0, 1) := by decide +kernel
theorem dX9_cut_47 : decode cX9_cut 47 = .ok (.getfield 10, 3) := by decide +kernel
theorem dX9_cut_50 : decode cX9_cut 50 = .ok (.getfield 94, 3) := by decide +kernel
theorem dX9_cut_53 : decode cX9_cut 53 = .ok (.if_icmp .ge 218, 3) := by decide +kernel
theorem dX9_cut_56 : decode cX9_cut 56 = .ok (.bipush 12, 2) := by decide +kernel
theorem dX9_cut_58 : decode cX9_cut 58 = .ok (.iload_n 3, 1) := by decide +kernel
theorem dX9_cut_59 : decode cX9_cut 59 = .ok (.iadd, 1) := by decide +kernel
theorem dX9_cut_60 : decode cX9_cut 60 = .ok (.istore 4, 2) := by decide +kernel
theorem dX9_cut_62 : decode cX9_cut 62 = .ok (.aload_n 0, 1) := by decide +kernel
theorem dX9_cut_63 : decode cX9_cut 63 = .ok (.getfield 60, 3) := by decide +kernel
theorem dX9_cut_66 : decode cX9_cut 66 = .ok (.iload 4, 2) := by decide +kernel
theorem dX9_cut_68 : decode cX9_cut 68 = .ok (.iaload, 1) := by decide +kernel
theorem dX9_cut_69 : decode cX9_cut 69 = .ok (.aload_n 0, 1) := by decide +kernel
theorem dX9_cut_70 : decode cX9_cut 70 = .ok (.getfield 60, 3) := by decide +kernel
theorem dX9_cut_73 : decode cX9_cut 73 = .ok (.iload_n 3, 1) := by decide +kernel
theorem dX9_cut_74 : decode cX9_cut 74 = .ok (.iaload, 1) := by decide +kernel
theorem dX9_cut_75 : decode cX9_cut 75 = .ok (.isub, 1) := by decide +kernel
theorem dX9_cut_76 : decode cX9_cut 76 = .ok (.istore 5, 2) := by decide +kernel
theorem dX9_cut_78 : decode cX9_cut 78 = .ok (.aload_n 0, 1) := by decide +kernel
theorem dX9_cut_79 : decode cX9_cut 79 = .ok (.iload_n 3, 1) := by decide +kernel
theorem dX9_cut_80 : decode cX9_cut 80 = .ok (.iload 5, 2) := by decide +kernel
theorem dX9_cut_82 : decode cX9_cut 82 = .ok (.invokevirtual 199, 3) := by decide +kernel
theorem dX9_cut_85 : decode cX9_cut 85 = .ok (.lstore 6, 2) := by decide +kernel
theorem dX9_cut_87 : decode cX9_cut 87 = .ok (.aload_n 0, 1) := by decide +kernel
theorem dX9_cut_88 : decode cX9_cut 88 = .ok (.iload_n 3, 1) := by decide +kernel
theorem dX9_cut_89 : decode cX9_cut 89 = .ok (.iload 5, 2) := by decide +kernel
theorem dX9_cut_91 : decode cX9_cut 91 = .ok (.iload_n 1, 1) := by decide +kernel
theorem dX9_cut_92 : decode cX9_cut 92 = .ok (.iadd, 1) := by decide +kernel
theorem dX9_cut_93 : decode cX9_cut 93 = .ok (.invokevirtual 199, 3) := by decide +kernel
theorem dX9_cut_96 : decode cX9_cut 96 = .ok (.lstore 8, 2) := by decide +kernel
theorem dX9_cut_98 : decode cX9_cut 98 = .ok (.aload_n 0, 1) := by decide +kernel
theorem dX9_cut_99 : decode cX9_cut 99 = .ok (.iload_n 3, 1) := by decide +kernel
theorem dX9_cut_100 : decode cX9_cut 100 = .ok (.iload 5, 2) := by decide +kernel
theorem dX9_cut_102 : decode cX9_cut 102 = .ok (.iload_n 1, 1) := by decide +kernel
theorem dX9_cut_103 : decode cX9_cut 103 = .ok (.isub, 1) := by decide +kernel
theorem dX9_cut_104 : decode cX9_cut 104 = .ok (.invokevirtual 199, 3) := by decide +kernel
theorem dX9_cut_107 : decode cX9_cut 107 = .ok (.lstore 10, 2) := by decide +kernel
theorem dX9_cut_109 : decode cX9_cut 109 = .ok (.aload_n 0, 1) := by decide +kernel
theorem dX9_cut_110 : decode cX9_cut 110 = .ok (.iload 4, 2) := by decide +kernel
theorem dX9_cut_112 : decode cX9_cut 112 = .ok (.iload_n 3, 1) := by decide +kernel
theorem dX9_cut_113 : decode cX9_cut 113 = .ok (.lload 8, 2) := by decide +kernel
theorem dX9_cut_115 : decode cX9_cut 115 = .ok (.ldc2_w 197, 3) := by decide +kernel
theorem dX9_cut_118 : decode cX9_cut 118 = .ok (.lcmp, 1) := by decide +kernel
theorem dX9_cut_119 : decode cX9_cut 119 = .ok (.ifCond .lt 9, 3) := by decide +kernel
theorem dX9_cut_122 : decode cX9_cut 122 = .ok (.ldc2_w 197, 3) := by decide +kernel
theorem dX9_cut_125 : decode cX9_cut 125 = .ok (.goto 8, 3) := by decide +kernel
theorem dX9_cut_128 : decode cX9_cut 128 = .ok (.lload 8, 2) := by decide +kernel
theorem dX9_cut_130 : decode cX9_cut 130 = .ok (.lload 6, 2) := by decide +kernel
theorem dX9_cut_132 : decode cX9_cut 132 = .ok (.lsub, 1) := by decide +kernel
theorem dX9_cut_133 : decode cX9_cut 133 = .ok (.lload 10, 2) := by decide +kernel
theorem dX9_cut_135 : decode cX9_cut 135 = .ok (.ldc2_w 197, 3) := by decide +kernel
theorem dX9_cut_138 : decode cX9_cut 138 = .ok (.lcmp, 1) := by decide +kernel
theorem dX9_cut_139 : decode cX9_cut 139 = .ok (.ifCond .lt 9, 3) := by decide +kernel
theorem dX9_cut_142 : decode cX9_cut 142 = .ok (.ldc2_w 197, 3) := by decide +kernel
theorem dX9_cut_145 : decode cX9_cut 145 = .ok (.goto 8, 3) := by decide +kernel
theorem dX9_cut_148 : decode cX9_cut 148 = .ok (.lload 10, 2) := by decide +kernel
theorem dX9_cut_150 : decode cX9_cut 150 = .ok (.lload 6, 2) := by decide +kernel
theorem dX9_cut_152 : decode cX9_cut 152 = .ok (.lsub, 1) := by decide +kernel
theorem dX9_cut_153 : decode cX9_cut 153 = .ok (.invokevirtual 209, 3) := by decide +kernel
theorem dX9_cut_156 : decode cX9_cut 156 = .ok (.iconst 0, 1) := by decide +kernel
theorem dX9_cut_157 : decode cX9_cut 157 = .ok (.istore 12, 2) := by decide +kernel
theorem dX9_cut_159 : decode cX9_cut 159 = .ok (.iload 12, 2) := by decide +kernel
theorem dX9_cut_161 : decode cX9_cut 161 = .ok (.aload_n 0, 1) := by decide +kernel
theorem dX9_cut_162 : decode cX9_cut 162 = .ok (.getfield 10, 3) := by decide +kernel
theorem dX9_cut_165 : decode cX9_cut 165 = .ok (.getfield 94, 3) := by decide +kernel
theorem dX9_cut_168 : decode cX9_cut 168 = .ok (.if_icmp .ge 82, 3) := by decide +kernel
theorem dX9_cut_171 : decode cX9_cut 171 = .ok (.aload_n 0, 1) := by decide +kernel
theorem dX9_cut_172 : decode cX9_cut 172 = .ok (.getfield 10, 3) := by decide +kernel
theorem dX9_cut_175 : decode cX9_cut 175 = .ok (.getfield 147, 3) := by decide +kernel
theorem dX9_cut_178 : decode cX9_cut 178 = .ok (.bipush 12, 2) := by decide +kernel
theorem dX9_cut_180 : decode cX9_cut 180 = .ok (.iload_n 3, 1) := by decide +kernel
theorem dX9_cut_181 : decode cX9_cut 181 = .ok (.imul, 1) := by decide +kernel
theorem dX9_cut_182 : decode cX9_cut 182 = .ok (.iload 12, 2) := by decide +kernel
theorem dX9_cut_184 : decode cX9_cut 184 = .ok (.iadd, 1) := by decide +kernel
theorem dX9_cut_185 : decode cX9_cut 185 = .ok (.baload, 1) := by decide +kernel
theorem dX9_cut_186 : decode cX9_cut 186 = .ok (.ifCond .eq 58, 3) := by decide +kernel
theorem dX9_cut_189 : decode cX9_cut 189 = .ok (.aload_n 0, 1) := by decide +kernel
theorem dX9_cut_190 : decode cX9_cut 190 = .ok (.getfield 60, 3) := by decide +kernel
theorem dX9_cut_193 : decode cX9_cut 193 = .ok (.iload_n 3, 1) := by decide +kernel
theorem dX9_cut_194 : decode cX9_cut 194 = .ok (.iaload, 1) := by decide +kernel
theorem dX9_cut_195 : decode cX9_cut 195 = .ok (.aload_n 0, 1) := by decide +kernel
theorem dX9_cut_196 : decode cX9_cut 196 = .ok (.getfield 60, 3) := by decide +kernel
theorem dX9_cut_199 : decode cX9_cut 199 = .ok (.bipush 12, 2) := by decide +kernel
theorem dX9_cut_201 : decode cX9_cut 201 = .ok (.iload 12, 2) := by decide +kernel
theorem dX9_cut_203 : decode cX9_cut 203 = .ok (.iadd, 1) := by decide +kernel
theorem dX9_cut_204 : decode cX9_cut 204 = .ok (.iaload, 1) := by decide +kernel
theorem dX9_cut_205 : decode cX9_cut 205 = .ok (.if_icmp .eq 6, 3) := by decide +kernel
theorem dX9_cut_208 : decode cX9_cut 208 = .ok (.goto 36, 3) := by decide +kernel
theorem dX9_cut_211 : decode cX9_cut 211 = .ok (.iload_n 1, 1) := by decide +kernel
theorem dX9_cut_212 : decode cX9_cut 212 = .ok (.ifCond .le 19, 3) := by decide +kernel
theorem dX9_cut_215 : decode cX9_cut 215 = .ok (.aload_n 0, 1) := by decide +kernel
theorem dX9_cut_216 : decode cX9_cut 216 = .ok (.bipush 12, 2) := by decide +kernel
theorem dX9_cut_218 : decode cX9_cut 218 = .ok (.iload 12, 2) := by decide +kernel
theorem dX9_cut_220 : decode cX9_cut 220 = .ok (.iadd, 1) := by decide +kernel
theorem dX9_cut_221 : decode cX9_cut 221 = .ok (.iload_n 3, 1) := by decide +kernel
theorem dX9_cut_222 : decode cX9_cut 222 = .ok (.ldc2_w 197, 3) := by decide +kernel
theorem dX9_cut_225 : decode cX9_cut 225 = .ok (.invokevirtual 205, 3) := by decide +kernel
theorem dX9_cut_228 : decode cX9_cut 228 = .ok (.goto 16, 3) := by decide +kernel
theorem dX9_cut_231 : decode cX9_cut 231 = .ok (.aload_n 0, 1) := by decide +kernel
theorem dX9_cut_232 : decode cX9_cut 232 = .ok (.iload_n 3, 1) := by decide +kernel
theorem dX9_cut_233 : decode cX9_cut 233 = .ok (.bipush 12, 2) := by decide +kernel
theorem dX9_cut_235 : decode cX9_cut 235 = .ok (.iload 12, 2) := by decide +kernel
theorem dX9_cut_237 : decode cX9_cut 237 = .ok (.iadd, 1) := by decide +kernel
theorem dX9_cut_238 : decode cX9_cut 238 = .ok (.ldc2_w 197, 3) := by decide +kernel
theorem dX9_cut_241 : decode cX9_cut 241 = .ok (.invokevirtual 205, 3) := by decide +kernel
theorem dX9_cut_244 : decode cX9_cut 244 = .ok (.iinc 12 1, 3) := by decide +kernel
theorem dX9_cut_247 : decode cX9_cut 247 = .ok (.goto (-88), 3) := by decide +kernel
theorem dX9_cut_250 : decode cX9_cut 250 = .ok (.aload_n 0, 1) := by decide +kernel
theorem dX9_cut_251 : decode cX9_cut 251 = .ok (.iload_n 3, 1) := by decide +kernel
theorem dX9_cut_252 : decode cX9_cut 252 = .ok (.iload_n 1, 1) := by decide +kernel
theorem dX9_cut_253 : decode cX9_cut 253 = .ok (.iload_n 2, 1) := by decide +kernel
theorem dX9_cut_254 : decode cX9_cut 254 = .ok (.invokevirtual 213, 3) := by decide +kernel
theorem dX9_cut_257 : decode cX9_cut 257 = .ok (.aload_n 0, 1) := by decide +kernel
theorem dX9_cut_258 : decode cX9_cut 258 = .ok (.iload 4, 2) := by decide +kernel
theorem dX9_cut_260 : decode cX9_cut 260 = .ok (.iload_n 1, 1) := by decide +kernel
theorem dX9_cut_261 : decode cX9_cut 261 = .ok (.iload_n 2, 1) := by decide +kernel
theorem dX9_cut_262 : decode cX9_cut 262 = .ok (.invokevirtual 213, 3) := by decide +kernel
theorem dX9_cut_265 : decode cX9_cut 265 = .ok (.iinc 3 1, 3) := by decide +kernel
theorem dX9_cut_268 : decode cX9_cut 268 = .ok (.goto (-223), 3) := by decide +kernel
theorem dX9_cut_271 : decode cX9_cut 271 = .ok (.iconst 0, 1) := by decide +kernel
theorem dX9_cut_272 : decode cX9_cut 272 = .ok (.istore_n 3, 1) := by decide +kernel
theorem dX9_cut_273 : decode cX9_cut 273 = .ok (.iload_n 3, 1) := by decide +kernel
theorem dX9_cut_274 : decode cX9_cut 274 = .ok (.aload_n 0, 1) := by decide +kernel
theorem dX9_cut_275 : decode cX9_cut 275 = .ok (.getfield 10, 3) := by decide +kernel
theorem dX9_cut_278 : decode cX9_cut 278 = .ok (.getfield 94, 3) := by decide +kernel
theorem dX9_cut_281 : decode cX9_cut 281 = .ok (.if_icmp .ge 102, 3) := by decide +kernel
theorem dX9_cut_284 : decode cX9_cut 284 = .ok (.aload_n 0, 1) := by decide +kernel
theorem dX9_cut_285 : decode cX9_cut 285 = .ok (.getfield 66, 3) := by decide +kernel
theorem dX9_cut_288 : decode cX9_cut 288 = .ok (.iload_n 3, 1) := by decide +kernel
theorem dX9_cut_289 : decode cX9_cut 289 = .ok (.laload, 1) := by decide +kernel
theorem dX9_cut_290 : decode cX9_cut 290 = .ok (.lconst 0, 1) := by decide +kernel
theorem dX9_cut_291 : decode cX9_cut 291 = .ok (.lcmp, 1) := by decide +kernel
theorem dX9_cut_292 : decode cX9_cut 292 = .ok (.ifCond .ge 20, 3) := by decide +kernel
theorem dX9_cut_295 : decode cX9_cut 295 = .ok (.aload_n 0, 1) := by decide +kernel
theorem dX9_cut_296 : decode cX9_cut 296 = .ok (.bipush 24, 2) := by decide +kernel
theorem dX9_cut_298 : decode cX9_cut 298 = .ok (.iload_n 3, 1) := by decide +kernel
theorem dX9_cut_299 : decode cX9_cut 299 = .ok (.aload_n 0, 1) := by decide +kernel
theorem dX9_cut_300 : decode cX9_cut 300 = .ok (.getfield 66, 3) := by decide +kernel
theorem dX9_cut_303 : decode cX9_cut 303 = .ok (.iload_n 3, 1) := by decide +kernel
theorem dX9_cut_304 : decode cX9_cut 304 = .ok (.laload, 1) := by decide +kernel
theorem dX9_cut_305 : decode cX9_cut 305 = .ok (.lneg, 1) := by decide +kernel
theorem dX9_cut_306 : decode cX9_cut 306 = .ok (.invokevirtual 205, 3) := by decide +kernel
theorem dX9_cut_309 : decode cX9_cut 309 = .ok (.goto 16, 3) := by decide +kernel
theorem dX9_cut_312 : decode cX9_cut 312 = .ok (.aload_n 0, 1) := by decide +kernel
theorem dX9_cut_313 : decode cX9_cut 313 = .ok (.iload_n 3, 1) := by decide +kernel
theorem dX9_cut_314 : decode cX9_cut 314 = .ok (.bipush 25, 2) := by decide +kernel
theorem dX9_cut_316 : decode cX9_cut 316 = .ok (.aload_n 0, 1) := by decide +kernel
theorem dX9_cut_317 : decode cX9_cut 317 = .ok (.getfield 66, 3) := by decide +kernel
theorem dX9_cut_320 : decode cX9_cut 320 = .ok (.iload_n 3, 1) := by decide +kernel
theorem dX9_cut_321 : decode cX9_cut 321 = .ok (.laload, 1) := by decide +kernel
theorem dX9_cut_322 : decode cX9_cut 322 = .ok (.invokevirtual 205, 3) := by decide +kernel
theorem dX9_cut_325 : decode cX9_cut 325 = .ok (.bipush 12, 2) := by decide +kernel
theorem dX9_cut_327 : decode cX9_cut 327 = .ok (.iload_n 3, 1) := by decide +kernel
theorem dX9_cut_328 : decode cX9_cut 328 = .ok (.iadd, 1) := by decide +kernel
theorem dX9_cut_329 : decode cX9_cut 329 = .ok (.istore 4, 2) := by decide +kernel
theorem dX9_cut_331 : decode cX9_cut 331 = .ok (.aload_n 0, 1) := by decide +kernel
theorem dX9_cut_332 : decode cX9_cut 332 = .ok (.getfield 66, 3) := by decide +kernel
theorem dX9_cut_335 : decode cX9_cut 335 = .ok (.iload 4, 2) := by decide +kernel
theorem dX9_cut_337 : decode cX9_cut 337 = .ok (.laload, 1) := by decide +kernel
theorem dX9_cut_338 : decode cX9_cut 338 = .ok (.lconst 0, 1) := by decide +kernel
theorem dX9_cut_339 : decode cX9_cut 339 = .ok (.lcmp, 1) := by decide +kernel
theorem dX9_cut_340 : decode cX9_cut 340 = .ok (.ifCond .ge 22, 3) := by decide +kernel
theorem dX9_cut_343 : decode cX9_cut 343 = .ok (.aload_n 0, 1) := by decide +kernel
theorem dX9_cut_344 : decode cX9_cut 344 = .ok (.bipush 24, 2) := by decide +kernel
theorem dX9_cut_346 : decode cX9_cut 346 = .ok (.iload 4, 2) := by decide +kernel
theorem dX9_cut_348 : decode cX9_cut 348 = .ok (.aload_n 0, 1) := by decide +kernel
theorem dX9_cut_349 : decode cX9_cut 349 = .ok (.getfield 66, 3) := by decide +kernel
theorem dX9_cut_352 : decode cX9_cut 352 = .ok (.iload 4, 2) := by decide +kernel
theorem dX9_cut_354 : decode cX9_cut 354 = .ok (.laload, 1) := by decide +kernel
theorem dX9_cut_355 : decode cX9_cut 355 = .ok (.lneg, 1) := by decide +kernel
theorem dX9_cut_356 : decode cX9_cut 356 = .ok (.invokevirtual 205, 3) := by decide +kernel
theorem dX9_cut_359 : decode cX9_cut 359 = .ok (.goto 18, 3) := by decide +kernel
theorem dX9_cut_362 : decode cX9_cut 362 = .ok (.aload_n 0, 1) := by decide +kernel
theorem dX9_cut_363 : decode cX9_cut 363 = .ok (.iload 4, 2) := by decide +kernel
theorem dX9_cut_365 : decode cX9_cut 365 = .ok (.bipush 25, 2) := by decide +kernel
theorem dX9_cut_367 : decode cX9_cut 367 = .ok (.aload_n 0, 1) := by decide +kernel
theorem dX9_cut_368 : decode cX9_cut 368 = .ok (.getfield 66, 3) := by decide +kernel
theorem dX9_cut_371 : decode cX9_cut 371 = .ok (.iload 4, 2) := by decide +kernel
theorem dX9_cut_373 : decode cX9_cut 373 = .ok (.laload, 1) := by decide +kernel
theorem dX9_cut_374 : decode cX9_cut 374 = .ok (.invokevirtual 205, 3) := by decide +kernel
theorem dX9_cut_377 : decode cX9_cut 377 = .ok (.iinc 3 1, 3) := by decide +kernel
theorem dX9_cut_380 : decode cX9_cut 380 = .ok (.goto (-107), 3) := by decide +kernel
theorem dX9_cut_383 : decode cX9_cut 383 = .ok (.aload_n 0, 1) := by decide +kernel
theorem dX9_cut_384 : decode cX9_cut 384 = .ok (.invokevirtual 217, 3) := by decide +kernel
theorem dX9_cut_387 : decode cX9_cut 387 = .ok (.ifCond .eq 10, 3) := by decide +kernel
theorem dX9_cut_390 : decode cX9_cut 390 = .ok (.aload_n 0, 1) := by decide +kernel
theorem dX9_cut_391 : decode cX9_cut 391 = .ok (.invokevirtual 221, 3) := by decide +kernel
theorem dX9_cut_394 : decode cX9_cut 394 = .ok (.goto (-11), 3) := by decide +kernel
theorem dX9_cut_397 : decode cX9_cut 397 = .ok (.iconst 0, 1) := by decide +kernel
theorem dX9_cut_398 : decode cX9_cut 398 = .ok (.istore_n 3, 1) := by decide +kernel
theorem dX9_cut_399 : decode cX9_cut 399 = .ok (.iconst 0, 1) := by decide +kernel
theorem dX9_cut_400 : decode cX9_cut 400 = .ok (.istore 4, 2) := by decide +kernel
theorem dX9_cut_402 : decode cX9_cut 402 = .ok (.iload 4, 2) := by decide +kernel
theorem dX9_cut_404 : decode cX9_cut 404 = .ok (.bipush 24, 2) := by decide +kernel
theorem dX9_cut_406 : decode cX9_cut 406 = .ok (.if_icmp .ge 54, 3) := by decide +kernel
theorem dX9_cut_409 : decode cX9_cut 409 = .ok (.aload_n 0, 1) := by decide +kernel
theorem dX9_cut_410 : decode cX9_cut 410 = .ok (.getfield 60, 3) := by decide +kernel
theorem dX9_cut_413 : decode cX9_cut 413 = .ok (.iload 4, 2) := by decide +kernel
theorem dX9_cut_415 : decode cX9_cut 415 = .ok (.dup2, 1) := by decide +kernel
theorem dX9_cut_416 : decode cX9_cut 416 = .ok (.iaload, 1) := by decide +kernel
theorem dX9_cut_417 : decode cX9_cut 417 = .ok (.aload_n 0, 1) := by decide +kernel
theorem dX9_cut_418 : decode cX9_cut 418 = .ok (.getfield 69, 3) := by decide +kernel
theorem dX9_cut_421 : decode cX9_cut 421 = .ok (.iload 4, 2) := by decide +kernel
theorem dX9_cut_423 : decode cX9_cut 423 = .ok (.baload, 1) := by decide +kernel
theorem dX9_cut_424 : decode cX9_cut 424 = .ok (.ifCond .eq 7, 3) := by decide +kernel
theorem dX9_cut_427 : decode cX9_cut 427 = .ok (.iload_n 1, 1) := by decide +kernel
theorem dX9_cut_428 : decode cX9_cut 428 = .ok (.goto 4, 3) := by decide +kernel
theorem dX9_cut_431 : decode cX9_cut 431 = .ok (.iconst 0, 1) := by decide +kernel
theorem dX9_cut_432 : decode cX9_cut 432 = .ok (.iadd, 1) := by decide +kernel
theorem dX9_cut_433 : decode cX9_cut 433 = .ok (.iastore, 1) := by decide +kernel
theorem dX9_cut_434 : decode cX9_cut 434 = .ok (.iload_n 3, 1) := by decide +kernel
theorem dX9_cut_435 : decode cX9_cut 435 = .ok (.ifCond .ne 13, 3) := by decide +kernel
theorem dX9_cut_438 : decode cX9_cut 438 = .ok (.aload_n 0, 1) := by decide +kernel
theorem dX9_cut_439 : decode cX9_cut 439 = .ok (.getfield 69, 3) := by decide +kernel
theorem dX9_cut_442 : decode cX9_cut 442 = .ok (.iload 4, 2) := by decide +kernel
theorem dX9_cut_444 : decode cX9_cut 444 = .ok (.baload, 1) := by decide +kernel
theorem dX9_cut_445 : decode cX9_cut 445 = .ok (.ifCond .eq 7, 3) := by decide +kernel
theorem dX9_cut_448 : decode cX9_cut 448 = .ok (.iconst 1, 1) := by decide +kernel
theorem dX9_cut_449 : decode cX9_cut 449 = .ok (.goto 4, 3) := by decide +kernel
theorem dX9_cut_452 : decode cX9_cut 452 = .ok (.iconst 0, 1) := by decide +kernel
theorem dX9_cut_453 : decode cX9_cut 453 = .ok (.istore_n 3, 1) := by decide +kernel
theorem dX9_cut_454 : decode cX9_cut 454 = .ok (.iinc 4 1, 3) := by decide +kernel
theorem dX9_cut_457 : decode cX9_cut 457 = .ok (.goto (-55), 3) := by decide +kernel
theorem dX9_cut_460 : decode cX9_cut 460 = .ok (.iload_n 3, 1) := by decide +kernel
theorem dX9_cut_461 : decode cX9_cut 461 = .ok (.ireturn, 1) := by decide +kernel
set_option maxRecDepth 20000 in
theorem ggX9_bounds_X9_edge : GoodIn wsX9_bounds wsX9_edge := goodIn_r _ [7, 8, 9, 10, 11, 12, 13, 14, 15, 16, 17, 18, 19, 20, 21, 22, 23, 24, 25, 26, 27, 28, 29, 30, 31, 32, 33, 34, 35, 36, 37, 38, 39, 40] (by decide +kernel) (by decide +kernel)
set_option maxRecDepth 20000 in
theorem gX9_bounds_X9_edge : GoodIn wsX9_bounds (wsV RX9 205 RX9 yX9_edge wsX9_edge) := goodIn_app (goodIn_of _ (by decide +kernel)) ggX9_bounds_X9_edge
theorem dX9_bounds_0 : decode cX9_bounds 0 = .ok (.iload_n 2, 1) := by decide +kernel
theorem dX9_bounds_1 : decode cX9_bounds 1 = .ok (.ifCond .le 13, 3) := by decide +kernel
theorem dX9_bounds_4 : decode cX9_bounds 4 = .ok (.aload_n 0, 1) := by decide +kernel
theorem dX9_bounds_5 : decode cX9_bounds 5 = .ok (.getfield 60, 3) := by decide +kernel
theorem dX9_bounds_8 : decode cX9_bounds 8 = .ok (.iload_n 1, 1) := by decide +kernel
theorem dX9_bounds_9 : decode cX9_bounds 9 = .ok (.iaload, 1) := by decide +kernel
theorem dX9_bounds_10 : decode cX9_bounds 10 = .ok (.iload_n 3, 1) := by decide +kernel
theorem dX9_bounds_11 : decode cX9_bounds 11 = .ok (.if_icmp .ge 16, 3) := by decide +kernel
theorem dX9_bounds_14 : decode cX9_bounds 14 = .ok (.iload_n 2, 1) := by decide +kernel
theorem dX9_bounds_15 : decode cX9_bounds 15 = .ok (.ifCond .ge 22, 3) := by decide +kernel
theorem dX9_bounds_18 : decode cX9_bounds 18 = .ok (.aload_n 0, 1) := by decide +kernel
theorem dX9_bounds_19 : decode cX9_bounds 19 = .ok (.getfield 60, 3) := by decide +kernel
theorem dX9_bounds_22 : decode cX9_bounds 22 = .ok (.iload_n 1, 1) := by decide +kernel
theorem dX9_bounds_23 : decode cX9_bounds 23 = .ok (.iaload, 1) := by decide +kernel
theorem dX9_bounds_24 : decode cX9_bounds 24 = .ok (.ifCond .ne 13, 3) := by decide +kernel
theorem dX9_bounds_27 : decode cX9_bounds 27 = .ok (.aload_n 0, 1) := by decide +kernel
theorem dX9_bounds_28 : decode cX9_bounds 28 = .ok (.iload_n 1, 1) := by decide +kernel
theorem dX9_bounds_29 : decode cX9_bounds 29 = .ok (.bipush 25, 2) := by decide +kernel
theorem dX9_bounds_31 : decode cX9_bounds 31 = .ok (.ldc2_w 197, 3) := by decide +kernel
theorem dX9_bounds_34 : decode cX9_bounds 34 = .ok (.invokevirtual 205, 3) := by decide +kernel
theorem dX9_bounds_37 : decode cX9_bounds 37 = .ok (.iload_n 2, 1) := by decide +kernel
theorem dX9_bounds_38 : decode cX9_bounds 38 = .ok (.ifCond .ge 23, 3) := by decide +kernel
theorem dX9_bounds_41 : decode cX9_bounds 41 = .ok (.aload_n 0, 1) := by decide +kernel
theorem dX9_bounds_42 : decode cX9_bounds 42 = .ok (.getfield 60, 3) := by decide +kernel
theorem dX9_bounds_45 : decode cX9_bounds 45 = .ok (.iload_n 1, 1) := by decide +kernel
theorem dX9_bounds_46 : decode cX9_bounds 46 = .ok (.iaload, 1) := by decide +kernel
theorem dX9_bounds_47 : decode cX9_bounds 47 = .ok (.iload_n 3, 1) := by decide +kernel
theorem dX9_bounds_48 : decode cX9_bounds 48 = .ok (.if_icmp .le 13, 3) := by decide +kernel
theorem dX9_bounds_51 : decode cX9_bounds 51 = .ok (.aload_n 0, 1) := by decide +kernel
theorem dX9_bounds_52 : decode cX9_bounds 52 = .ok (.bipush 24, 2) := by decide +kernel
theorem dX9_bounds_54 : decode cX9_bounds 54 = .ok (.iload_n 1, 1) := by decide +kernel
theorem dX9_bounds_55 : decode cX9_bounds 55 = .ok (.ldc2_w 197, 3) := by decide +kernel
theorem dX9_bounds_58 : decode cX9_bounds 58 = .ok (.invokevirtual 205, 3) := by decide +kernel
theorem dX9_bounds_61 : decode cX9_bounds 61 = .ok (.return_, 1) := by decide +kernel
theorem dX9_reaches_0 : decode cX9_reaches 0 = .ok (.iconst 0, 1) := by decide +kernel
theorem dX9_reaches_1 : decode cX9_reaches 1 = .ok (.istore_n 1, 1) := by decide +kernel
theorem dX9_reaches_2 : decode cX9_reaches 2 = .ok (.iload_n 1, 1) := by decide +kernel
theorem dX9_reaches_3 : decode cX9_reaches 3 = .ok (.bipush 26, 2) := by decide +kernel
theorem dX9_reaches_5 : decode cX9_reaches 5 = .ok (.if_icmp .ge 26, 3) := by decide +kernel
theorem dX9_reaches_8 : decode cX9_reaches 8 = .ok (.aload_n 0, 1) := by decide +kernel
theorem dX9_reaches_9 : decode cX9_reaches 9 = .ok (.getfield 69, 3) := by decide +kernel
theorem dX9_reaches_12 : decode cX9_reaches 12 = .ok (.iload_n 1, 1) := by decide +kernel
theorem dX9_reaches_13 : decode cX9_reaches 13 = .ok (.iload_n 1, 1) := by decide +kernel
theorem dX9_reaches_14 : decode cX9_reaches 14 = .ok (.bipush 24, 2) := by decide +kernel
theorem dX9_reaches_16 : decode cX9_reaches 16 = .ok (.if_icmp .ne 7, 3) := by decide +kernel
theorem dX9_reaches_19 : decode cX9_reaches 19 = .ok (.iconst 1, 1) := by decide +kernel
theorem dX9_reaches_20 : decode cX9_reaches 20 = .ok (.goto 4, 3) := by decide +kernel
theorem dX9_reaches_23 : decode cX9_reaches 23 = .ok (.iconst 0, 1) := by decide +kernel
theorem dX9_reaches_24 : decode cX9_reaches 24 = .ok (.bastore, 1) := by decide +kernel
theorem dX9_reaches_25 : decode cX9_reaches 25 = .ok (.iinc 1 1, 3) := by decide +kernel
theorem dX9_reaches_28 : decode cX9_reaches 28 = .ok (.goto (-26), 3) := by decide +kernel
theorem dX9_reaches_31 : decode cX9_reaches 31 = .ok (.iconst 1, 1) := by decide +kernel
theorem dX9_reaches_32 : decode cX9_reaches 32 = .ok (.istore_n 1, 1) := by decide +kernel
theorem dX9_reaches_33 : decode cX9_reaches 33 = .ok (.aload_n 0, 1) := by decide +kernel
theorem dX9_reaches_34 : decode cX9_reaches 34 = .ok (.getfield 75, 3) := by decide +kernel
theorem dX9_reaches_37 : decode cX9_reaches 37 = .ok (.iconst 0, 1) := by decide +kernel
theorem dX9_reaches_38 : decode cX9_reaches 38 = .ok (.bipush 24, 2) := by decide +kernel
theorem dX9_reaches_40 : decode cX9_reaches 40 = .ok (.iastore, 1) := by decide +kernel
theorem dX9_reaches_41 : decode cX9_reaches 41 = .ok (.iconst 0, 1) := by decide +kernel
theorem dX9_reaches_42 : decode cX9_reaches 42 = .ok (.istore_n 2, 1) := by decide +kernel
theorem dX9_reaches_43 : decode cX9_reaches 43 = .ok (.iload_n 2, 1) := by decide +kernel
theorem dX9_reaches_44 : decode cX9_reaches 44 = .ok (.iload_n 1, 1) := by decide +kernel
theorem dX9_reaches_45 : decode cX9_reaches 45 = .ok (.if_icmp .ge 89, 3) := by decide +kernel
theorem dX9_reaches_48 : decode cX9_reaches 48 = .ok (.aload_n 0, 1) := by decide +kernel
theorem dX9_reaches_49 : decode cX9_reaches 49 = .ok (.getfield 75, 3) := by decide +kernel
theorem dX9_reaches_52 : decode cX9_reaches 52 = .ok (.iload_n 2, 1) := by decide +kernel
theorem dX9_reaches_53 : decode cX9_reaches 53 = .ok (.iaload, 1) := by decide +kernel
theorem dX9_reaches_54 : decode cX9_reaches 54 = .ok (.istore_n 3, 1) := by decide +kernel
theorem dX9_reaches_55 : decode cX9_reaches 55 = .ok (.iconst 0, 1) := by decide +kernel
theorem dX9_reaches_56 : decode cX9_reaches 56 = .ok (.istore 4, 2) := by decide +kernel
theorem dX9_reaches_58 : decode cX9_reaches 58 = .ok (.iload 4, 2) := by decide +kernel
theorem dX9_reaches_60 : decode cX9_reaches 60 = .ok (.bipush 26, 2) := by decide +kernel
theorem dX9_reaches_62 : decode cX9_reaches 62 = .ok (.if_icmp .ge 66, 3) := by decide +kernel
theorem dX9_reaches_65 : decode cX9_reaches 65 = .ok (.aload_n 0, 1) := by decide +kernel
theorem dX9_reaches_66 : decode cX9_reaches 66 = .ok (.getfield 69, 3) := by decide +kernel
theorem dX9_reaches_69 : decode cX9_reaches 69 = .ok (.iload 4, 2) := by decide +kernel
theorem dX9_reaches_71 : decode cX9_reaches 71 = .ok (.baload, 1) := by decide +kernel
theorem dX9_reaches_72 : decode cX9_reaches 72 = .ok (.ifCond .ne 50, 3) := by decide +kernel
theorem dX9_reaches_75 : decode cX9_reaches 75 = .ok (.aload_n 0, 1) := by decide +kernel
theorem dX9_reaches_76 : decode cX9_reaches 76 = .ok (.getfield 63, 3) := by decide +kernel
theorem dX9_reaches_79 : decode cX9_reaches 79 = .ok (.bipush 26, 2) := by decide +kernel
theorem dX9_reaches_81 : decode cX9_reaches 81 = .ok (.iload_n 3, 1) := by decide +kernel
theorem dX9_reaches_82 : decode cX9_reaches 82 = .ok (.imul, 1) := by decide +kernel
theorem dX9_reaches_83 : decode cX9_reaches 83 = .ok (.iload 4, 2) := by decide +kernel
theorem dX9_reaches_85 : decode cX9_reaches 85 = .ok (.iadd, 1) := by decide +kernel
theorem dX9_reaches_86 : decode cX9_reaches 86 = .ok (.laload, 1) := by decide +kernel
theorem dX9_reaches_87 : decode cX9_reaches 87 = .ok (.lconst 0, 1) := by decide +kernel
theorem dX9_reaches_88 : decode cX9_reaches 88 = .ok (.lcmp, 1) := by decide +kernel
theorem dX9_reaches_89 : decode cX9_reaches 89 = .ok (.ifCond .ne 6, 3) := by decide +kernel
theorem dX9_reaches_92 : decode cX9_reaches 92 = .ok (.goto 30, 3) := by decide +kernel
theorem dX9_reaches_95 : decode cX9_reaches 95 = .ok (.aload_n 0, 1) := by decide +kernel
theorem dX9_reaches_96 : decode cX9_reaches 96 = .ok (.getfield 69, 3) := by decide +kernel
theorem dX9_reaches_99 : decode cX9_reaches 99 = .ok (.iload 4, 2) := by decide +kernel
theorem dX9_reaches_101 : decode cX9_reaches 101 = .ok (.iconst 1, 1) := by decide +kernel
theorem dX9_reaches_102 : decode cX9_reaches 102 = .ok (.bastore, 1) := by decide +kernel
theorem dX9_reaches_103 : decode cX9_reaches 103 = .ok (.aload_n 0, 1) := by decide +kernel
theorem dX9_reaches_104 : decode cX9_reaches 104 = .ok (.getfield 72, 3) := by decide +kernel
theorem dX9_reaches_107 : decode cX9_reaches 107 = .ok (.iload 4, 2) := by decide +kernel
theorem dX9_reaches_109 : decode cX9_reaches 109 = .ok (.iload_n 3, 1) := by decide +kernel
theorem dX9_reaches_110 : decode cX9_reaches 110 = .ok (.iastore, 1) := by decide +kernel
theorem dX9_reaches_111 : decode cX9_reaches 111 = .ok (.aload_n 0, 1) := by decide +kernel
theorem dX9_reaches_112 : decode cX9_reaches 112 = .ok (.getfield 75, 3) := by decide +kernel
theorem dX9_reaches_115 : decode cX9_reaches 115 = .ok (.iload_n 1, 1) := by decide +kernel
theorem dX9_reaches_116 : decode cX9_reaches 116 = .ok (.iload 4, 2) := by decide +kernel
theorem dX9_reaches_118 : decode cX9_reaches 118 = .ok (.iastore, 1) := by decide +kernel
theorem dX9_reaches_119 : decode cX9_reaches 119 = .ok (.iinc 1 1, 3) := by decide +kernel
theorem dX9_reaches_122 : decode cX9_reaches 122 = .ok (.iinc 4 1, 3) := by decide +kernel
theorem dX9_reaches_125 : decode cX9_reaches 125 = .ok (.goto (-67), 3) := by decide +kernel
theorem dX9_reaches_128 : decode cX9_reaches 128 = .ok (.iinc 2 1, 3) := by decide +kernel
theorem dX9_reaches_131 : decode cX9_reaches 131 = .ok (.goto (-88), 3) := by decide +kernel
theorem dX9_reaches_134 : decode cX9_reaches 134 = .ok (.aload_n 0, 1) := by decide +kernel
theorem dX9_reaches_135 : decode cX9_reaches 135 = .ok (.getfield 69, 3) := by decide +kernel
theorem dX9_reaches_138 : decode cX9_reaches 138 = .ok (.bipush 25, 2) := by decide +kernel
theorem dX9_reaches_140 : decode cX9_reaches 140 = .ok (.baload, 1) := by decide +kernel
theorem dX9_reaches_141 : decode cX9_reaches 141 = .ok (.ireturn, 1) := by decide +kernel
theorem dX9_push_0 : decode cX9_push 0 = .ok (.ldc2_w 226, 3) := by decide +kernel
theorem dX9_push_3 : decode cX9_push 3 = .ok (.lstore_n 1, 1) := by decide +kernel
theorem dX9_push_4 : decode cX9_push 4 = .ok (.bipush 25, 2) := by decide +kernel
theorem dX9_push_6 : decode cX9_push 6 = .ok (.istore_n 3, 1) := by decide +kernel
theorem dX9_push_7 : decode cX9_push 7 = .ok (.iload_n 3, 1) := by decide +kernel
theorem dX9_push_8 : decode cX9_push 8 = .ok (.bipush 24, 2) := by decide +kernel
theorem dX9_push_10 : decode cX9_push 10 = .ok (.if_icmp .eq 34, 3) := by decide +kernel
theorem dX9_push_13 : decode cX9_push 13 = .ok (.lload_n 1, 1) := by decide +kernel
theorem dX9_push_14 : decode cX9_push 14 = .ok (.aload_n 0, 1) := by decide +kernel
theorem dX9_push_15 : decode cX9_push 15 = .ok (.getfield 63, 3) := by decide +kernel
theorem dX9_push_18 : decode cX9_push 18 = .ok (.bipush 26, 2) := by decide +kernel
theorem dX9_push_20 : decode cX9_push 20 = .ok (.aload_n 0, 1) := by decide +kernel
theorem dX9_push_21 : decode cX9_push 21 = .ok (.getfield 72, 3) := by decide +kernel
theorem dX9_push_24 : decode cX9_push 24 = .ok (.iload_n 3, 1) := by decide +kernel
theorem dX9_push_25 : decode cX9_push 25 = .ok (.iaload, 1) := by decide +kernel
theorem dX9_push_26 : decode cX9_push 26 = .ok (.imul, 1) := by decide +kernel
theorem dX9_push_27 : decode cX9_push 27 = .ok (.iload_n 3, 1) := by decide +kernel
theorem dX9_push_28 : decode cX9_push 28 = .ok (.iadd, 1) := by decide +kernel
theorem dX9_push_29 : decode cX9_push 29 = .ok (.laload, 1) := by decide +kernel
theorem dX9_push_30 : decode cX9_push 30 = .ok (.invokestatic 228, 3) := by decide +kernel
theorem dX9_push_33 : decode cX9_push 33 = .ok (.lstore_n 1, 1) := by decide +kernel
theorem dX9_push_34 : decode cX9_push 34 = .ok (.aload_n 0, 1) := by decide +kernel
theorem dX9_push_35 : decode cX9_push 35 = .ok (.getfield 72, 3) := by decide +kernel
theorem dX9_push_38 : decode cX9_push 38 = .ok (.iload_n 3, 1) := by decide +kernel
theorem dX9_push_39 : decode cX9_push 39 = .ok (.iaload, 1) := by decide +kernel
theorem dX9_push_40 : decode cX9_push 40 = .ok (.istore_n 3, 1) := by decide +kernel
theorem dX9_push_41 : decode cX9_push 41 = .ok (.goto (-34), 3) := by decide +kernel
theorem dX9_push_44 : decode cX9_push 44 = .ok (.bipush 25, 2) := by decide +kernel
theorem dX9_push_46 : decode cX9_push 46 = .ok (.istore_n 3, 1) := by decide +kernel
theorem dX9_push_47 : decode cX9_push 47 = .ok (.iload_n 3, 1) := by decide +kernel
theorem dX9_push_48 : decode cX9_push 48 = .ok (.bipush 24, 2) := by decide +kernel
theorem dX9_push_50 : decode cX9_push 50 = .ok (.if_icmp .eq 53, 3) := by decide +kernel
theorem dX9_push_53 : decode cX9_push 53 = .ok (.aload_n 0, 1) := by decide +kernel
theorem dX9_push_54 : decode cX9_push 54 = .ok (.getfield 63, 3) := by decide +kernel
theorem dX9_push_57 : decode cX9_push 57 = .ok (.bipush 26, 2) := by decide +kernel
theorem dX9_push_59 : decode cX9_push 59 = .ok (.aload_n 0, 1) := by decide +kernel
theorem dX9_push_60 : decode cX9_push 60 = .ok (.getfield 72, 3) := by decide +kernel
theorem dX9_push_63 : decode cX9_push 63 = .ok (.iload_n 3, 1) := by decide +kernel
theorem dX9_push_64 : decode cX9_push 64 = .ok (.iaload, 1) := by decide +kernel
theorem dX9_push_65 : decode cX9_push 65 = .ok (.imul, 1) := by decide +kernel
theorem dX9_push_66 : decode cX9_push 66 = .ok (.iload_n 3, 1) := by decide +kernel
theorem dX9_push_67 : decode cX9_push 67 = .ok (.iadd, 1) := by decide +kernel
theorem dX9_push_68 : decode cX9_push 68 = .ok (.dup2, 1) := by decide +kernel
theorem dX9_push_69 : decode cX9_push 69 = .ok (.laload, 1) := by decide +kernel
theorem dX9_push_70 : decode cX9_push 70 = .ok (.lload_n 1, 1) := by decide +kernel
theorem dX9_push_71 : decode cX9_push 71 = .ok (.lsub, 1) := by decide +kernel
theorem dX9_push_72 : decode cX9_push 72 = .ok (.lastore, 1) := by decide +kernel
theorem dX9_push_73 : decode cX9_push 73 = .ok (.aload_n 0, 1) := by decide +kernel
theorem dX9_push_74 : decode cX9_push 74 = .ok (.getfield 63, 3) := by decide +kernel
theorem dX9_push_77 : decode cX9_push 77 = .ok (.bipush 26, 2) := by decide +kernel
theorem dX9_push_79 : decode cX9_push 79 = .ok (.iload_n 3, 1) := by decide +kernel
theorem dX9_push_80 : decode cX9_push 80 = .ok (.imul, 1) := by decide +kernel
theorem dX9_push_81 : decode cX9_push 81 = .ok (.aload_n 0, 1) := by decide +kernel
theorem dX9_push_82 : decode cX9_push 82 = .ok (.getfield 72, 3) := by decide +kernel
theorem dX9_push_85 : decode cX9_push 85 = .ok (.iload_n 3, 1) := by decide +kernel
theorem dX9_push_86 : decode cX9_push 86 = .ok (.iaload, 1) := by decide +kernel
theorem dX9_push_87 : decode cX9_push 87 = .ok (.iadd, 1) := by decide +kernel
theorem dX9_push_88 : decode cX9_push 88 = .ok (.dup2, 1) := by decide +kernel
theorem dX9_push_89 : decode cX9_push 89 = .ok (.laload, 1) := by decide +kernel
theorem dX9_push_90 : decode cX9_push 90 = .ok (.lload_n 1, 1) := by decide +kernel
theorem dX9_push_91 : decode cX9_push 91 = .ok (.ladd, 1) := by decide +kernel
theorem dX9_push_92 : decode cX9_push 92 = .ok (.lastore, 1) := by decide +kernel
theorem dX9_push_93 : decode cX9_push 93 = .ok (.aload_n 0, 1) := by decide +kernel
theorem dX9_push_94 : decode cX9_push 94 = .ok (.getfield 72, 3) := by decide +kernel
theorem dX9_push_97 : decode cX9_push 97 = .ok (.iload_n 3, 1) := by decide +kernel
theorem dX9_push_98 : decode cX9_push 98 = .ok (.iaload, 1) := by decide +kernel
theorem dX9_push_99 : decode cX9_push 99 = .ok (.istore_n 3, 1) := by decide +kernel
theorem dX9_push_100 : decode cX9_push 100 = .ok (.goto (-53), 3) := by decide +kernel
theorem dX9_push_103 : decode cX9_push 103 = .ok (.return_, 1) := by decide +kernel
theorem dX9_take_0 : decode cX9_take 0 = .ok (.iconst 0, 1) := by decide +kernel
theorem dX9_take_1 : decode cX9_take 1 = .ok (.istore_n 1, 1) := by decide +kernel
theorem dX9_take_2 : decode cX9_take 2 = .ok (.iload_n 1, 1) := by decide +kernel
theorem dX9_take_3 : decode cX9_take 3 = .ok (.aload_n 0, 1) := by decide +kernel
theorem dX9_take_4 : decode cX9_take 4 = .ok (.getfield 10, 3) := by decide +kernel
theorem dX9_take_7 : decode cX9_take 7 = .ok (.getfield 94, 3) := by decide +kernel
theorem dX9_take_10 : decode cX9_take 10 = .ok (.if_icmp .ge 43, 3) := by decide +kernel
theorem dX9_take_13 : decode cX9_take 13 = .ok (.aload_n 0, 1) := by decide +kernel
theorem dX9_take_14 : decode cX9_take 14 = .ok (.getfield 60, 3) := by decide +kernel
theorem dX9_take_17 : decode cX9_take 17 = .ok (.iload_n 1, 1) := by decide +kernel
theorem dX9_take_18 : decode cX9_take 18 = .ok (.aload_n 0, 1) := by decide +kernel
theorem dX9_take_19 : decode cX9_take 19 = .ok (.getfield 54, 3) := by decide +kernel
theorem dX9_take_22 : decode cX9_take 22 = .ok (.iload_n 1, 1) := by decide +kernel
theorem dX9_take_23 : decode cX9_take 23 = .ok (.iaload, 1) := by decide +kernel
theorem dX9_take_24 : decode cX9_take 24 = .ok (.iastore, 1) := by decide +kernel
theorem dX9_take_25 : decode cX9_take 25 = .ok (.aload_n 0, 1) := by decide +kernel
theorem dX9_take_26 : decode cX9_take 26 = .ok (.getfield 60, 3) := by decide +kernel
theorem dX9_take_29 : decode cX9_take 29 = .ok (.bipush 12, 2) := by decide +kernel
theorem dX9_take_31 : decode cX9_take 31 = .ok (.iload_n 1, 1) := by decide +kernel
theorem dX9_take_32 : decode cX9_take 32 = .ok (.iadd, 1) := by decide +kernel
theorem dX9_take_33 : decode cX9_take 33 = .ok (.aload_n 0, 1) := by decide +kernel
theorem dX9_take_34 : decode cX9_take 34 = .ok (.getfield 54, 3) := by decide +kernel
theorem dX9_take_37 : decode cX9_take 37 = .ok (.iload_n 1, 1) := by decide +kernel
theorem dX9_take_38 : decode cX9_take 38 = .ok (.iaload, 1) := by decide +kernel
theorem dX9_take_39 : decode cX9_take 39 = .ok (.aload_n 0, 1) := by decide +kernel
theorem dX9_take_40 : decode cX9_take 40 = .ok (.getfield 51, 3) := by decide +kernel
theorem dX9_take_43 : decode cX9_take 43 = .ok (.iload_n 1, 1) := by decide +kernel
theorem dX9_take_44 : decode cX9_take 44 = .ok (.iaload, 1) := by decide +kernel
theorem dX9_take_45 : decode cX9_take 45 = .ok (.iadd, 1) := by decide +kernel
theorem dX9_take_46 : decode cX9_take 46 = .ok (.iastore, 1) := by decide +kernel
theorem dX9_take_47 : decode cX9_take 47 = .ok (.iinc 1 1, 3) := by decide +kernel
theorem dX9_take_50 : decode cX9_take 50 = .ok (.goto (-48), 3) := by decide +kernel
theorem dX9_take_53 : decode cX9_take 53 = .ok (.aload_n 0, 1) := by decide +kernel
theorem dX9_take_54 : decode cX9_take 54 = .ok (.getfield 10, 3) := by decide +kernel
theorem dX9_take_57 : decode cX9_take 57 = .ok (.getfield 94, 3) := by decide +kernel
theorem dX9_take_60 : decode cX9_take 60 = .ok (.istore_n 1, 1) := by decide +kernel
theorem dX9_take_61 : decode cX9_take 61 = .ok (.iload_n 1, 1) := by decide +kernel
theorem dX9_take_62 : decode cX9_take 62 = .ok (.bipush 12, 2) := by decide +kernel
theorem dX9_take_64 : decode cX9_take 64 = .ok (.if_icmp .ge 26, 3) := by decide +kernel
theorem dX9_take_67 : decode cX9_take 67 = .ok (.aload_n 0, 1) := by decide +kernel
theorem dX9_take_68 : decode cX9_take 68 = .ok (.getfield 60, 3) := by decide +kernel
theorem dX9_take_71 : decode cX9_take 71 = .ok (.iload_n 1, 1) := by decide +kernel
theorem dX9_take_72 : decode cX9_take 72 = .ok (.iconst 0, 1) := by decide +kernel
theorem dX9_take_73 : decode cX9_take 73 = .ok (.iastore, 1) := by decide +kernel
theorem dX9_take_74 : decode cX9_take 74 = .ok (.aload_n 0, 1) := by decide +kernel
theorem dX9_take_75 : decode cX9_take 75 = .ok (.getfield 60, 3) := by decide +kernel
theorem dX9_take_78 : decode cX9_take 78 = .ok (.bipush 12, 2) := by decide +kernel
theorem dX9_take_80 : decode cX9_take 80 = .ok (.iload_n 1, 1) := by decide +kernel
theorem dX9_take_81 : decode cX9_take 81 = .ok (.iadd, 1) := by decide +kernel
theorem dX9_take_82 : decode cX9_take 82 = .ok (.iconst 0, 1) := by decide +kernel
theorem dX9_take_83 : decode cX9_take 83 = .ok (.iastore, 1) := by decide +kernel
theorem dX9_take_84 : decode cX9_take 84 = .ok (.iinc 1 1, 3) := by decide +kernel
theorem dX9_take_87 : decode cX9_take 87 = .ok (.goto (-26), 3) := by decide +kernel
theorem dX9_take_90 : decode cX9_take 90 = .ok (.return_, 1) := by decide +kernel
set_option maxRecDepth 20000 in
theorem ggX9_costNow_X9_costOf : GoodIn wsX9_costNow wsX9_costOf := goodIn_r _ [8, 9, 1, 10, 11, 12, 13, 14, 15, 16, 17, 7, 18, 19, 20, 21, 22, 23, 24, 25, 26, 27, 28, 29, 30, 31, 32, 33, 34, 35, 36, 37, 38, 39, 40, 41, 42, 43, 44, 45, 46, 47, 48, 49, 50, 51, 52, 53, 54, 55, 56, 57, 58, 59] (by decide +kernel) (by decide +kernel)
set_option maxRecDepth 20000 in
theorem gX9_costNow_X9_costOf : GoodIn wsX9_costNow (wsV RX9 199 RX9 yX9_costOf wsX9_costOf) := goodIn_app (goodIn_of _ (by decide +kernel)) ggX9_costNow_X9_costOf
theorem dX9_costNow_0 : decode cX9_costNow 0 = .ok (.lconst 0, 1) := by decide +kernel
theorem dX9_costNow_1 : decode cX9_costNow 1 = .ok (.lstore_n 1, 1) := by decide +kernel
theorem dX9_costNow_2 : decode cX9_costNow 2 = .ok (.iconst 0, 1) := by decide +kernel
theorem dX9_costNow_3 : decode cX9_costNow 3 = .ok (.istore_n 3, 1) := by decide +kernel
theorem dX9_costNow_4 : decode cX9_costNow 4 = .ok (.iload_n 3, 1) := by decide +kernel
theorem dX9_costNow_5 : decode cX9_costNow 5 = .ok (.aload_n 0, 1) := by decide +kernel
theorem dX9_costNow_6 : decode cX9_costNow 6 = .ok (.getfield 10, 3) := by decide +kernel
theorem dX9_costNow_9 : decode cX9_costNow 9 = .ok (.getfield 94, 3) := by decide +kernel
theorem dX9_costNow_12 : decode cX9_costNow 12 = .ok (.if_icmp .ge 33, 3) := by decide +kernel
theorem dX9_costNow_15 : decode cX9_costNow 15 = .ok (.lload_n 1, 1) := by decide +kernel
theorem dX9_costNow_16 : decode cX9_costNow 16 = .ok (.aload_n 0, 1) := by decide +kernel
theorem dX9_costNow_17 : decode cX9_costNow 17 = .ok (.iload_n 3, 1) := by decide +kernel
theorem dX9_costNow_18 : decode cX9_costNow 18 = .ok (.aload_n 0, 1) := by decide +kernel
theorem dX9_costNow_19 : decode cX9_costNow 19 = .ok (.getfield 60, 3) := by decide +kernel
theorem dX9_costNow_22 : decode cX9_costNow 22 = .ok (.bipush 12, 2) := by decide +kernel
theorem dX9_costNow_24 : decode cX9_costNow 24 = .ok (.iload_n 3, 1) := by decide +kernel
theorem dX9_costNow_25 : decode cX9_costNow 25 = .ok (.iadd, 1) := by decide +kernel
theorem dX9_costNow_26 : decode cX9_costNow 26 = .ok (.iaload, 1) := by decide +kernel
theorem dX9_costNow_27 : decode cX9_costNow 27 = .ok (.aload_n 0, 1) := by decide +kernel
theorem dX9_costNow_28 : decode cX9_costNow 28 = .ok (.getfield 60, 3) := by decide +kernel
theorem dX9_costNow_31 : decode cX9_costNow 31 = .ok (.iload_n 3, 1) := by decide +kernel
theorem dX9_costNow_32 : decode cX9_costNow 32 = .ok (.iaload, 1) := by decide +kernel
theorem dX9_costNow_33 : decode cX9_costNow 33 = .ok (.isub, 1) := by decide +kernel
theorem dX9_costNow_34 : decode cX9_costNow 34 = .ok (.invokevirtual 199, 3) := by decide +kernel
theorem dX9_costNow_37 : decode cX9_costNow 37 = .ok (.ladd, 1) := by decide +kernel
theorem dX9_costNow_38 : decode cX9_costNow 38 = .ok (.lstore_n 1, 1) := by decide +kernel
theorem dX9_costNow_39 : decode cX9_costNow 39 = .ok (.iinc 3 1, 3) := by decide +kernel
theorem dX9_costNow_42 : decode cX9_costNow 42 = .ok (.goto (-38), 3) := by decide +kernel
theorem dX9_costNow_45 : decode cX9_costNow 45 = .ok (.lload_n 1, 1) := by decide +kernel
theorem dX9_costNow_46 : decode cX9_costNow 46 = .ok (.lreturn, 1) := by decide +kernel
set_option maxRecDepth 20000 in
theorem ggX9_know_X9_longest : GoodIn wsX9_know wsX9_longest := goodIn_r _ [11, 3, 4, 5, 12, 13, 14, 10, 15, 16, 17, 18, 19, 20, 21, 22, 23, 24, 25, 26, 27, 28, 29, 30, 31, 32, 33, 34, 35, 92, 93, 94, 95, 96, 97, 98, 99, 100, 101, 102, 103, 104, 105, 106, 107, 108, 109, 110, 111, 112, 113, 114, 115, 116, 117, 118, 119, 120, 121, 122, 123, 124, 125, 126, 127, 128] (by decide +kernel) (by decide +kernel)
set_option maxRecDepth 20000 in
theorem gX9_know_X9_longest : GoodIn wsX9_know (wsV RX9 231 RX9 yX9_longest wsX9_longest) := goodIn_app (goodIn_of _ (by decide +kernel)) ggX9_know_X9_longest
set_option maxRecDepth 20000 in
theorem ggX9_know_X9_number : GoodIn wsX9_know wsX9_number := goodIn_r _ [15, 3, 16, 92, 93, 94, 95, 96, 97, 98, 99, 100, 101, 102, 103, 104, 105, 106, 107, 108, 109, 110, 111, 112, 113, 114, 115, 116, 117, 118, 119, 120, 121, 122, 123, 124, 125, 126, 127, 128] (by decide +kernel) (by decide +kernel)
set_option maxRecDepth 20000 in
theorem gX9_know_X9_number : GoodIn wsX9_know (wsV RX9 169 RX9 yX9_number wsX9_number) := goodIn_app (goodIn_of _ (by decide +kernel)) ggX9_know_X9_number
set_option maxRecDepth 20000 in
theorem ggX9_know_X9_costOf : GoodIn wsX9_know wsX9_costOf := goodIn_r _ [39, 40, 3, 41, 24, 25, 26, 27, 12, 13, 14, 10, 15, 16, 42, 43, 44, 92, 93, 94, 95, 96, 97, 98, 99, 100, 101, 102, 103, 104, 105, 106, 107, 108, 109, 110, 111, 112, 113, 114, 115, 116, 117, 118, 119, 120, 121, 122, 123, 124, 125, 126, 127, 128] (by decide +kernel) (by decide +kernel)
set_option maxRecDepth 20000 in
theorem gX9_know_X9_costOf : GoodIn wsX9_know (wsV RX9 199 RX9 yX9_costOf wsX9_costOf) := goodIn_app (goodIn_of _ (by decide +kernel)) ggX9_know_X9_costOf
set_option maxRecDepth 20000 in
theorem ggX9_know_X9_early : GoodIn wsX9_know wsX9_early := goodIn_r _ [20, 3, 4, 21, 22, 23, 5, 24, 25, 26, 27, 28, 29, 30, 10, 31, 32, 33, 34, 35, 92, 93, 94, 95, 96, 97, 98, 99, 100, 101, 102, 103, 104, 105, 106, 107, 108, 109, 110, 111, 112, 113, 114, 115, 116, 117, 118, 119, 120, 121, 122, 123, 124, 125, 126, 127, 128] (by decide +kernel) (by decide +kernel)
set_option maxRecDepth 20000 in
theorem gX9_know_X9_early : GoodIn wsX9_know (wsV RX9 184 RX9 yX9_early wsX9_early) := goodIn_app (goodIn_of _ (by decide +kernel)) ggX9_know_X9_early
set_option maxRecDepth 20000 in
theorem ggX9_know_X9_take : GoodIn wsX9_know wsX9_take := goodIn_r _ [48, 3, 4, 49, 22, 5, 92, 93, 94, 95, 96, 97, 98, 99, 100, 101, 102, 103, 104, 105, 106, 107, 108, 109, 110, 111, 112, 113, 114, 115, 116, 117, 118, 119, 120, 121, 122, 123, 124, 125, 126, 127, 128] (by decide +kernel) (by decide +kernel)
set_option maxRecDepth 20000 in
theorem gX9_know_X9_take : GoodIn wsX9_know (wsV RX9 238 RX9 yX9_take wsX9_take) := goodIn_app (goodIn_of _ (by decide +kernel)) ggX9_know_X9_take
set_option maxRecDepth 20000 in
theorem ggX9_know_X9_lengthNow : GoodIn wsX9_know wsX9_lengthNow := goodIn_r _ [53, 3, 4, 49, 24, 25, 26, 27, 92, 93, 94, 95, 96, 97, 98, 99, 100, 101, 102, 103, 104, 105, 106, 107, 108, 109, 110, 111, 112, 113, 114, 115, 116, 117, 118, 119, 120, 121, 122, 123, 124, 125, 126, 127, 128] (by decide +kernel) (by decide +kernel)
set_option maxRecDepth 20000 in
theorem gX9_know_X9_lengthNow : GoodIn wsX9_know (wsV RX9 241 RX9 yX9_lengthNow wsX9_lengthNow) := goodIn_app (goodIn_of _ (by decide +kernel)) ggX9_know_X9_lengthNow
set_option maxRecDepth 20000 in
theorem ggX9_know_X9_cut : GoodIn wsX9_know wsX9_cut := goodIn_r _ [57, 58, 59, 3, 4, 49, 40, 23, 60, 36, 37, 38, 10, 39, 41, 24, 25, 26, 27, 12, 13, 14, 15, 16, 42, 43, 44, 61, 62, 63, 64, 65, 66, 67, 68, 69, 70, 71, 72, 73, 74, 75, 76, 77, 78, 79, 80, 81, 82, 83, 84, 85, 86, 87, 92, 93, 94, 95, 96, 97, 98, 99, 100, 101, 102, 103, 104, 105, 106, 107, 108, 109, 110, 111, 112, 113, 114, 115, 116, 117, 118, 119, 120, 121, 122, 123, 124, 125, 126, 127, 128] (by decide +kernel) (by decide +kernel)
set_option maxRecDepth 20000 in
theorem gX9_know_X9_cut : GoodIn wsX9_know (wsV RX9 244 RX9 yX9_cut wsX9_cut) := goodIn_app (goodIn_of _ (by decide +kernel)) ggX9_know_X9_cut
set_option maxRecDepth 20000 in
theorem ggX9_know_X9_costNow : GoodIn wsX9_know wsX9_costNow := goodIn_r _ [91, 3, 4, 49, 36, 37, 38, 10, 39, 40, 41, 24, 25, 26, 27, 12, 13, 14, 15, 16, 42, 43, 44, 92, 93, 94, 95, 96, 97, 98, 99, 100, 101, 102, 103, 104, 105, 106, 107, 108, 109, 110, 111, 112, 113, 114, 115, 116, 117, 118, 119, 120, 121, 122, 123, 124, 125, 126, 127, 128] (by decide +kernel) (by decide +kernel)
set_option maxRecDepth 20000 in
theorem gX9_know_X9_costNow : GoodIn wsX9_know (wsV RX9 247 RX9 yX9_costNow wsX9_costNow) := goodIn_app (goodIn_of _ (by decide +kernel)) ggX9_know_X9_costNow
