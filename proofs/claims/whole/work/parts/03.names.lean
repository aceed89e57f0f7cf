theorem dX0_init_0 : decode cX0_init 0 = .ok (.aload_n 0, 1) := by decide +kernel
theorem dX0_init_1 : decode cX0_init 1 = .ok (.invokespecial 3, 3) := by decide +kernel
theorem dX0_init_4 : decode cX0_init 4 = .ok (.aload_n 0, 1) := by decide +kernel
theorem dX0_init_5 : decode cX0_init 5 = .ok (.bipush 30, 2) := by decide +kernel
theorem dX0_init_7 : decode cX0_init 7 = .ok (.newarray .int, 2) := by decide +kernel
theorem dX0_init_9 : decode cX0_init 9 = .ok (.putfield 9, 3) := by decide +kernel
theorem dX0_init_12 : decode cX0_init 12 = .ok (.aload_n 0, 1) := by decide +kernel
theorem dX0_init_13 : decode cX0_init 13 = .ok (.bipush 30, 2) := by decide +kernel
theorem dX0_init_15 : decode cX0_init 15 = .ok (.newarray .int, 2) := by decide +kernel
theorem dX0_init_17 : decode cX0_init 17 = .ok (.putfield 15, 3) := by decide +kernel
theorem dX0_init_20 : decode cX0_init 20 = .ok (.aload_n 0, 1) := by decide +kernel
theorem dX0_init_21 : decode cX0_init 21 = .ok (.bipush 30, 2) := by decide +kernel
theorem dX0_init_23 : decode cX0_init 23 = .ok (.newarray .int, 2) := by decide +kernel
theorem dX0_init_25 : decode cX0_init 25 = .ok (.putfield 18, 3) := by decide +kernel
theorem dX0_init_28 : decode cX0_init 28 = .ok (.return_, 1) := by decide +kernel
theorem dX0_add_0 : decode cX0_add 0 = .ok (.aload_n 0, 1) := by decide +kernel
theorem dX0_add_1 : decode cX0_add 1 = .ok (.getfield 21, 3) := by decide +kernel
theorem dX0_add_4 : decode cX0_add 4 = .ok (.bipush 30, 2) := by decide +kernel
theorem dX0_add_6 : decode cX0_add 6 = .ok (.if_icmp .lt 60, 3) := by decide +kernel
theorem dX0_add_9 : decode cX0_add 9 = .ok (.aload_n 0, 1) := by decide +kernel
theorem dX0_add_10 : decode cX0_add 10 = .ok (.bipush 29, 2) := by decide +kernel
theorem dX0_add_12 : decode cX0_add 12 = .ok (.putfield 21, 3) := by decide +kernel
theorem dX0_add_15 : decode cX0_add 15 = .ok (.aload_n 0, 1) := by decide +kernel
theorem dX0_add_16 : decode cX0_add 16 = .ok (.getfield 9, 3) := by decide +kernel
theorem dX0_add_19 : decode cX0_add 19 = .ok (.iconst 1, 1) := by decide +kernel
theorem dX0_add_20 : decode cX0_add 20 = .ok (.aload_n 0, 1) := by decide +kernel
theorem dX0_add_21 : decode cX0_add 21 = .ok (.getfield 9, 3) := by decide +kernel
theorem dX0_add_24 : decode cX0_add 24 = .ok (.iconst 0, 1) := by decide +kernel
theorem dX0_add_25 : decode cX0_add 25 = .ok (.aload_n 0, 1) := by decide +kernel
theorem dX0_add_26 : decode cX0_add 26 = .ok (.getfield 21, 3) := by decide +kernel
theorem dX0_add_29 : decode cX0_add 29 = .ok (.invokestatic 25, 3) := by decide +kernel
theorem dX0_add_32 : decode cX0_add 32 = .ok (.aload_n 0, 1) := by decide +kernel
theorem dX0_add_33 : decode cX0_add 33 = .ok (.getfield 15, 3) := by decide +kernel
theorem dX0_add_36 : decode cX0_add 36 = .ok (.iconst 1, 1) := by decide +kernel
theorem dX0_add_37 : decode cX0_add 37 = .ok (.aload_n 0, 1) := by decide +kernel
theorem dX0_add_38 : decode cX0_add 38 = .ok (.getfield 15, 3) := by decide +kernel
theorem dX0_add_41 : decode cX0_add 41 = .ok (.iconst 0, 1) := by decide +kernel
theorem dX0_add_42 : decode cX0_add 42 = .ok (.aload_n 0, 1) := by decide +kernel
theorem dX0_add_43 : decode cX0_add 43 = .ok (.getfield 21, 3) := by decide +kernel
theorem dX0_add_46 : decode cX0_add 46 = .ok (.invokestatic 25, 3) := by decide +kernel
theorem dX0_add_49 : decode cX0_add 49 = .ok (.aload_n 0, 1) := by decide +kernel
theorem dX0_add_50 : decode cX0_add 50 = .ok (.getfield 18, 3) := by decide +kernel
theorem dX0_add_53 : decode cX0_add 53 = .ok (.iconst 1, 1) := by decide +kernel
theorem dX0_add_54 : decode cX0_add 54 = .ok (.aload_n 0, 1) := by decide +kernel
theorem dX0_add_55 : decode cX0_add 55 = .ok (.getfield 18, 3) := by decide +kernel
theorem dX0_add_58 : decode cX0_add 58 = .ok (.iconst 0, 1) := by decide +kernel
theorem dX0_add_59 : decode cX0_add 59 = .ok (.aload_n 0, 1) := by decide +kernel
theorem dX0_add_60 : decode cX0_add 60 = .ok (.getfield 21, 3) := by decide +kernel
theorem dX0_add_63 : decode cX0_add 63 = .ok (.invokestatic 25, 3) := by decide +kernel
theorem dX0_add_66 : decode cX0_add 66 = .ok (.aload_n 0, 1) := by decide +kernel
theorem dX0_add_67 : decode cX0_add 67 = .ok (.getfield 9, 3) := by decide +kernel
theorem dX0_add_70 : decode cX0_add 70 = .ok (.aload_n 0, 1) := by decide +kernel
theorem dX0_add_71 : decode cX0_add 71 = .ok (.getfield 21, 3) := by decide +kernel
theorem dX0_add_74 : decode cX0_add 74 = .ok (.iload_n 1, 1) := by decide +kernel
theorem dX0_add_75 : decode cX0_add 75 = .ok (.iastore, 1) := by decide +kernel
theorem dX0_add_76 : decode cX0_add 76 = .ok (.aload_n 0, 1) := by decide +kernel
theorem dX0_add_77 : decode cX0_add 77 = .ok (.getfield 15, 3) := by decide +kernel
theorem dX0_add_80 : decode cX0_add 80 = .ok (.aload_n 0, 1) := by decide +kernel
theorem dX0_add_81 : decode cX0_add 81 = .ok (.getfield 21, 3) := by decide +kernel
theorem dX0_add_84 : decode cX0_add 84 = .ok (.iload_n 2, 1) := by decide +kernel
theorem dX0_add_85 : decode cX0_add 85 = .ok (.iastore, 1) := by decide +kernel
theorem dX0_add_86 : decode cX0_add 86 = .ok (.aload_n 0, 1) := by decide +kernel
theorem dX0_add_87 : decode cX0_add 87 = .ok (.getfield 18, 3) := by decide +kernel
theorem dX0_add_90 : decode cX0_add 90 = .ok (.aload_n 0, 1) := by decide +kernel
theorem dX0_add_91 : decode cX0_add 91 = .ok (.getfield 21, 3) := by decide +kernel
theorem dX0_add_94 : decode cX0_add 94 = .ok (.iload_n 3, 1) := by decide +kernel
theorem dX0_add_95 : decode cX0_add 95 = .ok (.iastore, 1) := by decide +kernel
theorem dX0_add_96 : decode cX0_add 96 = .ok (.aload_n 0, 1) := by decide +kernel
theorem dX0_add_97 : decode cX0_add 97 = .ok (.dup, 1) := by decide +kernel
theorem dX0_add_98 : decode cX0_add 98 = .ok (.getfield 21, 3) := by decide +kernel
theorem dX0_add_101 : decode cX0_add 101 = .ok (.iconst 1, 1) := by decide +kernel
theorem dX0_add_102 : decode cX0_add 102 = .ok (.iadd, 1) := by decide +kernel
theorem dX0_add_103 : decode cX0_add 103 = .ok (.putfield 21, 3) := by decide +kernel
theorem dX0_add_106 : decode cX0_add 106 = .ok (.return_, 1) := by decide +kernel
theorem dX1_init_0 : decode cX1_init 0 = .ok (.aload_n 0, 1) := by decide +kernel
theorem dX1_init_1 : decode cX1_init 1 = .ok (.invokespecial 3, 3) := by decide +kernel
theorem dX1_init_4 : decode cX1_init 4 = .ok (.aload_n 0, 1) := by decide +kernel
theorem dX1_init_5 : decode cX1_init 5 = .ok (.bipush 12, 2) := by decide +kernel
theorem dX1_init_7 : decode cX1_init 7 = .ok (.newarray .int, 2) := by decide +kernel
theorem dX1_init_9 : decode cX1_init 9 = .ok (.putfield 9, 3) := by decide +kernel
theorem dX1_init_12 : decode cX1_init 12 = .ok (.aload_n 0, 1) := by decide +kernel
theorem dX1_init_13 : decode cX1_init 13 = .ok (.bipush 12, 2) := by decide +kernel
theorem dX1_init_15 : decode cX1_init 15 = .ok (.newarray .int, 2) := by decide +kernel
theorem dX1_init_17 : decode cX1_init 17 = .ok (.putfield 15, 3) := by decide +kernel
theorem dX1_init_20 : decode cX1_init 20 = .ok (.aload_n 0, 1) := by decide +kernel
theorem dX1_init_21 : decode cX1_init 21 = .ok (.bipush 12, 2) := by decide +kernel
theorem dX1_init_23 : decode cX1_init 23 = .ok (.newarray .int, 2) := by decide +kernel
theorem dX1_init_25 : decode cX1_init 25 = .ok (.putfield 18, 3) := by decide +kernel
theorem dX1_init_28 : decode cX1_init 28 = .ok (.aload_n 0, 1) := by decide +kernel
theorem dX1_init_29 : decode cX1_init 29 = .ok (.bipush 12, 2) := by decide +kernel
theorem dX1_init_31 : decode cX1_init 31 = .ok (.newarray .int, 2) := by decide +kernel
theorem dX1_init_33 : decode cX1_init 33 = .ok (.putfield 21, 3) := by decide +kernel
theorem dX1_init_36 : decode cX1_init 36 = .ok (.return_, 1) := by decide +kernel
theorem dX1_costAt_0 : decode cX1_costAt 0 = .ok (.aload_n 0, 1) := by decide +kernel
theorem dX1_costAt_1 : decode cX1_costAt 1 = .ok (.getfield 24, 3) := by decide +kernel
theorem dX1_costAt_4 : decode cX1_costAt 4 = .ok (.aload_n 0, 1) := by decide +kernel
theorem dX1_costAt_5 : decode cX1_costAt 5 = .ok (.getfield 28, 3) := by decide +kernel
theorem dX1_costAt_8 : decode cX1_costAt 8 = .ok (.iload_n 1, 1) := by decide +kernel
theorem dX1_costAt_9 : decode cX1_costAt 9 = .ok (.aload_n 0, 1) := by decide +kernel
theorem dX1_costAt_10 : decode cX1_costAt 10 = .ok (.getfield 31, 3) := by decide +kernel
theorem dX1_costAt_13 : decode cX1_costAt 13 = .ok (.isub, 1) := by decide +kernel
theorem dX1_costAt_14 : decode cX1_costAt 14 = .ok (.i2l, 1) := by decide +kernel
theorem dX1_costAt_15 : decode cX1_costAt 15 = .ok (.lmul, 1) := by decide +kernel
theorem dX1_costAt_16 : decode cX1_costAt 16 = .ok (.lsub, 1) := by decide +kernel
theorem dX1_costAt_17 : decode cX1_costAt 17 = .ok (.lreturn, 1) := by decide +kernel
theorem dX1_beginAt_0 : decode cX1_beginAt 0 = .ok (.aload_n 0, 1) := by decide +kernel
theorem dX1_beginAt_1 : decode cX1_beginAt 1 = .ok (.getfield 9, 3) := by decide +kernel
theorem dX1_beginAt_4 : decode cX1_beginAt 4 = .ok (.iload_n 1, 1) := by decide +kernel
theorem dX1_beginAt_5 : decode cX1_beginAt 5 = .ok (.iaload, 1) := by decide +kernel
theorem dX1_beginAt_6 : decode cX1_beginAt 6 = .ok (.iload_n 2, 1) := by decide +kernel
theorem dX1_beginAt_7 : decode cX1_beginAt 7 = .ok (.aload_n 0, 1) := by decide +kernel
theorem dX1_beginAt_8 : decode cX1_beginAt 8 = .ok (.getfield 18, 3) := by decide +kernel
theorem dX1_beginAt_11 : decode cX1_beginAt 11 = .ok (.iload_n 1, 1) := by decide +kernel
theorem dX1_beginAt_12 : decode cX1_beginAt 12 = .ok (.iaload, 1) := by decide +kernel
theorem dX1_beginAt_13 : decode cX1_beginAt 13 = .ok (.iadd, 1) := by decide +kernel
theorem dX1_beginAt_14 : decode cX1_beginAt 14 = .ok (.invokestatic 35, 3) := by decide +kernel
theorem dX1_beginAt_17 : decode cX1_beginAt 17 = .ok (.ireturn, 1) := by decide +kernel
theorem dX1_endAt_0 : decode cX1_endAt 0 = .ok (.aload_n 0, 1) := by decide +kernel
theorem dX1_endAt_1 : decode cX1_endAt 1 = .ok (.getfield 15, 3) := by decide +kernel
theorem dX1_endAt_4 : decode cX1_endAt 4 = .ok (.iload_n 1, 1) := by decide +kernel
theorem dX1_endAt_5 : decode cX1_endAt 5 = .ok (.iaload, 1) := by decide +kernel
theorem dX1_endAt_6 : decode cX1_endAt 6 = .ok (.iload_n 2, 1) := by decide +kernel
theorem dX1_endAt_7 : decode cX1_endAt 7 = .ok (.aload_n 0, 1) := by decide +kernel
theorem dX1_endAt_8 : decode cX1_endAt 8 = .ok (.getfield 21, 3) := by decide +kernel
theorem dX1_endAt_11 : decode cX1_endAt 11 = .ok (.iload_n 1, 1) := by decide +kernel
theorem dX1_endAt_12 : decode cX1_endAt 12 = .ok (.iaload, 1) := by decide +kernel
theorem dX1_endAt_13 : decode cX1_endAt 13 = .ok (.iadd, 1) := by decide +kernel
theorem dX1_endAt_14 : decode cX1_endAt 14 = .ok (.invokestatic 35, 3) := by decide +kernel
theorem dX1_endAt_17 : decode cX1_endAt 17 = .ok (.ireturn, 1) := by decide +kernel
set_option maxRecDepth 20000 in
theorem ggX1_spanAt_X1_endAt : GoodIn wsX1_spanAt wsX1_endAt := goodIn_r _ [5, 6, 7, 8, 9, 10, 11, 18, 19, 20, 21, 22, 23, 24] (by decide +kernel) (by decide +kernel)
set_option maxRecDepth 20000 in
theorem gX1_spanAt_X1_endAt : GoodIn wsX1_spanAt (wsV RX1 41 RX1 yX1_endAt wsX1_endAt) := goodIn_app (goodIn_of _ (by decide +kernel)) ggX1_spanAt_X1_endAt
set_option maxRecDepth 20000 in
theorem ggX1_spanAt_X1_beginAt : GoodIn wsX1_spanAt wsX1_beginAt := goodIn_r _ [15, 16, 17, 8, 9, 10, 11, 18, 19, 20, 21, 22, 23, 24] (by decide +kernel) (by decide +kernel)
set_option maxRecDepth 20000 in
theorem gX1_spanAt_X1_beginAt : GoodIn wsX1_spanAt (wsV RX1 44 RX1 yX1_beginAt wsX1_beginAt) := goodIn_app (goodIn_of _ (by decide +kernel)) ggX1_spanAt_X1_beginAt
theorem dX1_spanAt_0 : decode cX1_spanAt 0 = .ok (.aload_n 0, 1) := by decide +kernel
theorem dX1_spanAt_1 : decode cX1_spanAt 1 = .ok (.iload_n 1, 1) := by decide +kernel
theorem dX1_spanAt_2 : decode cX1_spanAt 2 = .ok (.iload_n 2, 1) := by decide +kernel
theorem dX1_spanAt_3 : decode cX1_spanAt 3 = .ok (.invokevirtual 41, 3) := by decide +kernel
theorem dX1_spanAt_6 : decode cX1_spanAt 6 = .ok (.aload_n 0, 1) := by decide +kernel
theorem dX1_spanAt_7 : decode cX1_spanAt 7 = .ok (.iload_n 1, 1) := by decide +kernel
theorem dX1_spanAt_8 : decode cX1_spanAt 8 = .ok (.iload_n 2, 1) := by decide +kernel
theorem dX1_spanAt_9 : decode cX1_spanAt 9 = .ok (.invokevirtual 44, 3) := by decide +kernel
theorem dX1_spanAt_12 : decode cX1_spanAt 12 = .ok (.isub, 1) := by decide +kernel
theorem dX1_spanAt_13 : decode cX1_spanAt 13 = .ok (.ireturn, 1) := by decide +kernel
theorem dX2_init_0 : decode cX2_init 0 = .ok (.aload_n 0, 1) := by decide +kernel
theorem dX2_init_1 : decode cX2_init 1 = .ok (.invokespecial 3, 3) := by decide +kernel
theorem dX2_init_4 : decode cX2_init 4 = .ok (.aload_n 0, 1) := by decide +kernel
theorem dX2_init_5 : decode cX2_init 5 = .ok (.bipush 24, 2) := by decide +kernel
theorem dX2_init_7 : decode cX2_init 7 = .ok (.newarray .long, 2) := by decide +kernel
theorem dX2_init_9 : decode cX2_init 9 = .ok (.putfield 9, 3) := by decide +kernel
theorem dX2_init_12 : decode cX2_init 12 = .ok (.return_, 1) := by decide +kernel
set_option maxRecDepth 20000 in
theorem ggX2_lay_J7_fill_d0a16 : GoodIn wsX2_lay wsJ7_fill_d0a16 := goodIn_r _ [7] (by decide +kernel) (by decide +kernel)
set_option maxRecDepth 20000 in
theorem gX2_lay_J7_fill_d0a16 : GoodIn wsX2_lay (va_wsS RX2 22 yJ7_fill_d0a16 wsJ7_fill_d0a16) := goodIn_app (goodIn_of _ (by decide +kernel)) ggX2_lay_J7_fill_d0a16
theorem dX2_lay_0 : decode cX2_lay 0 = .ok (.aload_n 0, 1) := by decide +kernel
theorem dX2_lay_1 : decode cX2_lay 1 = .ok (.iload_n 1, 1) := by decide +kernel
theorem dX2_lay_2 : decode cX2_lay 2 = .ok (.putfield 15, 3) := by decide +kernel
theorem dX2_lay_5 : decode cX2_lay 5 = .ok (.aload_n 0, 1) := by decide +kernel
theorem dX2_lay_6 : decode cX2_lay 6 = .ok (.iload_n 2, 1) := by decide +kernel
theorem dX2_lay_7 : decode cX2_lay 7 = .ok (.putfield 19, 3) := by decide +kernel
theorem dX2_lay_10 : decode cX2_lay 10 = .ok (.aload_n 0, 1) := by decide +kernel
theorem dX2_lay_11 : decode cX2_lay 11 = .ok (.getfield 9, 3) := by decide +kernel
theorem dX2_lay_14 : decode cX2_lay 14 = .ok (.lconst 0, 1) := by decide +kernel
theorem dX2_lay_15 : decode cX2_lay 15 = .ok (.invokestatic 22, 3) := by decide +kernel
theorem dX2_lay_18 : decode cX2_lay 18 = .ok (.return_, 1) := by decide +kernel
theorem dX2_isMissing_0 : decode cX2_isMissing 0 = .ok (.aload_n 0, 1) := by decide +kernel
theorem dX2_isMissing_1 : decode cX2_isMissing 1 = .ok (.getfield 15, 3) := by decide +kernel
theorem dX2_isMissing_4 : decode cX2_isMissing 4 = .ok (.ifCond .ne 7, 3) := by decide +kernel
theorem dX2_isMissing_7 : decode cX2_isMissing 7 = .ok (.iconst 1, 1) := by decide +kernel
theorem dX2_isMissing_8 : decode cX2_isMissing 8 = .ok (.goto 4, 3) := by decide +kernel
theorem dX2_isMissing_11 : decode cX2_isMissing 11 = .ok (.iconst 0, 1) := by decide +kernel
theorem dX2_isMissing_12 : decode cX2_isMissing 12 = .ok (.ireturn, 1) := by decide +kernel
theorem dX2_has_0 : decode cX2_has 0 = .ok (.iload_n 1, 1) := by decide +kernel
theorem dX2_has_1 : decode cX2_has 1 = .ok (.ifCond .lt 21, 3) := by decide +kernel
theorem dX2_has_4 : decode cX2_has 4 = .ok (.iload_n 2, 1) := by decide +kernel
theorem dX2_has_5 : decode cX2_has 5 = .ok (.ifCond .lt 17, 3) := by decide +kernel
theorem dX2_has_8 : decode cX2_has 8 = .ok (.iload_n 1, 1) := by decide +kernel
theorem dX2_has_9 : decode cX2_has 9 = .ok (.aload_n 0, 1) := by decide +kernel
theorem dX2_has_10 : decode cX2_has 10 = .ok (.getfield 19, 3) := by decide +kernel
theorem dX2_has_13 : decode cX2_has 13 = .ok (.iload_n 2, 1) := by decide +kernel
theorem dX2_has_14 : decode cX2_has 14 = .ok (.isub, 1) := by decide +kernel
theorem dX2_has_15 : decode cX2_has 15 = .ok (.if_icmp .gt 7, 3) := by decide +kernel
theorem dX2_has_18 : decode cX2_has 18 = .ok (.iconst 1, 1) := by decide +kernel
theorem dX2_has_19 : decode cX2_has 19 = .ok (.goto 4, 3) := by decide +kernel
theorem dX2_has_22 : decode cX2_has 22 = .ok (.iconst 0, 1) := by decide +kernel
theorem dX2_has_23 : decode cX2_has 23 = .ok (.ireturn, 1) := by decide +kernel
theorem dX2_write_0 : decode cX2_write 0 = .ok (.aload_n 0, 1) := by decide +kernel
theorem dX2_write_1 : decode cX2_write 1 = .ok (.getfield 9, 3) := by decide +kernel
theorem dX2_write_4 : decode cX2_write 4 = .ok (.iload_n 1, 1) := by decide +kernel
theorem dX2_write_5 : decode cX2_write 5 = .ok (.aload_n 0, 1) := by decide +kernel
theorem dX2_write_6 : decode cX2_write 6 = .ok (.getfield 15, 3) := by decide +kernel
theorem dX2_write_9 : decode cX2_write 9 = .ok (.bipush 32, 2) := by decide +kernel
theorem dX2_write_11 : decode cX2_write 11 = .ok (.if_icmp .ne 9, 3) := by decide +kernel
theorem dX2_write_14 : decode cX2_write 14 = .ok (.lload_n 2, 1) := by decide +kernel
theorem dX2_write_15 : decode cX2_write 15 = .ok (.l2i, 1) := by decide +kernel
theorem dX2_write_16 : decode cX2_write 16 = .ok (.i2l, 1) := by decide +kernel
theorem dX2_write_17 : decode cX2_write 17 = .ok (.goto 4, 3) := by decide +kernel
theorem dX2_write_20 : decode cX2_write 20 = .ok (.lload_n 2, 1) := by decide +kernel
theorem dX2_write_21 : decode cX2_write 21 = .ok (.lastore, 1) := by decide +kernel
theorem dX2_write_22 : decode cX2_write 22 = .ok (.return_, 1) := by decide +kernel
set_option maxRecDepth 20000 in
theorem ggX2_holdsTask_X2_isWithin : GoodIn wsX2_holdsTask wsX2_isWithin := goodIn_r _ [8, 2, 9, 10, 11] (by decide +kernel) (by decide +kernel)
set_option maxRecDepth 20000 in
theorem gX2_holdsTask_X2_isWithin : GoodIn wsX2_holdsTask (wsV RX2 30 RX2 yX2_isWithin wsX2_isWithin) := goodIn_app (goodIn_of _ (by decide +kernel)) ggX2_holdsTask_X2_isWithin
theorem dX2_holdsTask_0 : decode cX2_holdsTask 0 = .ok (.aload_n 0, 1) := by decide +kernel
theorem dX2_holdsTask_1 : decode cX2_holdsTask 1 = .ok (.iload_n 2, 1) := by decide +kernel
theorem dX2_holdsTask_2 : decode cX2_holdsTask 2 = .ok (.ldc2_w 28, 3) := by decide +kernel
theorem dX2_holdsTask_5 : decode cX2_holdsTask 5 = .ok (.invokevirtual 30, 3) := by decide +kernel
theorem dX2_holdsTask_8 : decode cX2_holdsTask 8 = .ok (.ifCond .ne 5, 3) := by decide +kernel
theorem dX2_holdsTask_11 : decode cX2_holdsTask 11 = .ok (.iconst 0, 1) := by decide +kernel
theorem dX2_holdsTask_12 : decode cX2_holdsTask 12 = .ok (.ireturn, 1) := by decide +kernel
theorem dX2_holdsTask_13 : decode cX2_holdsTask 13 = .ok (.getstatic 34, 3) := by decide +kernel
theorem dX2_holdsTask_16 : decode cX2_holdsTask 16 = .ok (.iload_n 1, 1) := by decide +kernel
theorem dX2_holdsTask_17 : decode cX2_holdsTask 17 = .ok (.iaload, 1) := by decide +kernel
theorem dX2_holdsTask_18 : decode cX2_holdsTask 18 = .ok (.iconst 1, 1) := by decide +kernel
theorem dX2_holdsTask_19 : decode cX2_holdsTask 19 = .ok (.if_icmp .ne 5, 3) := by decide +kernel
theorem dX2_holdsTask_22 : decode cX2_holdsTask 22 = .ok (.iconst 1, 1) := by decide +kernel
theorem dX2_holdsTask_23 : decode cX2_holdsTask 23 = .ok (.ireturn, 1) := by decide +kernel
theorem dX2_holdsTask_24 : decode cX2_holdsTask 24 = .ok (.aload_n 0, 1) := by decide +kernel
theorem dX2_holdsTask_25 : decode cX2_holdsTask 25 = .ok (.iload_n 2, 1) := by decide +kernel
theorem dX2_holdsTask_26 : decode cX2_holdsTask 26 = .ok (.iconst 1, 1) := by decide +kernel
theorem dX2_holdsTask_27 : decode cX2_holdsTask 27 = .ok (.iadd, 1) := by decide +kernel
theorem dX2_holdsTask_28 : decode cX2_holdsTask 28 = .ok (.aload_n 0, 1) := by decide +kernel
theorem dX2_holdsTask_29 : decode cX2_holdsTask 29 = .ok (.getfield 9, 3) := by decide +kernel
theorem dX2_holdsTask_32 : decode cX2_holdsTask 32 = .ok (.iload_n 2, 1) := by decide +kernel
theorem dX2_holdsTask_33 : decode cX2_holdsTask 33 = .ok (.laload, 1) := by decide +kernel
theorem dX2_holdsTask_34 : decode cX2_holdsTask 34 = .ok (.invokevirtual 30, 3) := by decide +kernel
theorem dX2_holdsTask_37 : decode cX2_holdsTask 37 = .ok (.ifCond .eq 16, 3) := by decide +kernel
theorem dX2_holdsTask_40 : decode cX2_holdsTask 40 = .ok (.aload_n 0, 1) := by decide +kernel
theorem dX2_holdsTask_41 : decode cX2_holdsTask 41 = .ok (.iload_n 2, 1) := by decide +kernel
theorem dX2_holdsTask_42 : decode cX2_holdsTask 42 = .ok (.iconst 2, 1) := by decide +kernel
theorem dX2_holdsTask_43 : decode cX2_holdsTask 43 = .ok (.iadd, 1) := by decide +kernel
theorem dX2_holdsTask_44 : decode cX2_holdsTask 44 = .ok (.ldc2_w 38, 3) := by decide +kernel
theorem dX2_holdsTask_47 : decode cX2_holdsTask 47 = .ok (.invokevirtual 30, 3) := by decide +kernel
theorem dX2_holdsTask_50 : decode cX2_holdsTask 50 = .ok (.ifCond .ne 5, 3) := by decide +kernel
theorem dX2_holdsTask_53 : decode cX2_holdsTask 53 = .ok (.iconst 0, 1) := by decide +kernel
theorem dX2_holdsTask_54 : decode cX2_holdsTask 54 = .ok (.ireturn, 1) := by decide +kernel
theorem dX2_holdsTask_55 : decode cX2_holdsTask 55 = .ok (.iload_n 1, 1) := by decide +kernel
theorem dX2_holdsTask_56 : decode cX2_holdsTask 56 = .ok (.iconst 2, 1) := by decide +kernel
theorem dX2_holdsTask_57 : decode cX2_holdsTask 57 = .ok (.if_icmp .ne 35, 3) := by decide +kernel
theorem dX2_holdsTask_60 : decode cX2_holdsTask 60 = .ok (.aload_n 0, 1) := by decide +kernel
theorem dX2_holdsTask_61 : decode cX2_holdsTask 61 = .ok (.iload_n 2, 1) := by decide +kernel
theorem dX2_holdsTask_62 : decode cX2_holdsTask 62 = .ok (.iconst 3, 1) := by decide +kernel
theorem dX2_holdsTask_63 : decode cX2_holdsTask 63 = .ok (.iadd, 1) := by decide +kernel
theorem dX2_holdsTask_64 : decode cX2_holdsTask 64 = .ok (.ldc2_w 28, 3) := by decide +kernel
theorem dX2_holdsTask_67 : decode cX2_holdsTask 67 = .ok (.invokevirtual 30, 3) := by decide +kernel
theorem dX2_holdsTask_70 : decode cX2_holdsTask 70 = .ok (.ifCond .eq 20, 3) := by decide +kernel
theorem dX2_holdsTask_73 : decode cX2_holdsTask 73 = .ok (.aload_n 0, 1) := by decide +kernel
theorem dX2_holdsTask_74 : decode cX2_holdsTask 74 = .ok (.iload_n 2, 1) := by decide +kernel
theorem dX2_holdsTask_75 : decode cX2_holdsTask 75 = .ok (.iconst 4, 1) := by decide +kernel
theorem dX2_holdsTask_76 : decode cX2_holdsTask 76 = .ok (.iadd, 1) := by decide +kernel
theorem dX2_holdsTask_77 : decode cX2_holdsTask 77 = .ok (.ldc2_w 38, 3) := by decide +kernel
theorem dX2_holdsTask_80 : decode cX2_holdsTask 80 = .ok (.invokevirtual 30, 3) := by decide +kernel
theorem dX2_holdsTask_83 : decode cX2_holdsTask 83 = .ok (.ifCond .eq 7, 3) := by decide +kernel
theorem dX2_holdsTask_86 : decode cX2_holdsTask 86 = .ok (.iconst 1, 1) := by decide +kernel
theorem dX2_holdsTask_87 : decode cX2_holdsTask 87 = .ok (.goto 4, 3) := by decide +kernel
theorem dX2_holdsTask_90 : decode cX2_holdsTask 90 = .ok (.iconst 0, 1) := by decide +kernel
theorem dX2_holdsTask_91 : decode cX2_holdsTask 91 = .ok (.ireturn, 1) := by decide +kernel
theorem dX2_holdsTask_92 : decode cX2_holdsTask 92 = .ok (.iload_n 1, 1) := by decide +kernel
theorem dX2_holdsTask_93 : decode cX2_holdsTask 93 = .ok (.iconst 4, 1) := by decide +kernel
theorem dX2_holdsTask_94 : decode cX2_holdsTask 94 = .ok (.if_icmp .ne 16, 3) := by decide +kernel
theorem dX2_holdsTask_97 : decode cX2_holdsTask 97 = .ok (.aload_n 0, 1) := by decide +kernel
theorem dX2_holdsTask_98 : decode cX2_holdsTask 98 = .ok (.iload_n 2, 1) := by decide +kernel
theorem dX2_holdsTask_99 : decode cX2_holdsTask 99 = .ok (.iconst 3, 1) := by decide +kernel
theorem dX2_holdsTask_100 : decode cX2_holdsTask 100 = .ok (.iadd, 1) := by decide +kernel
theorem dX2_holdsTask_101 : decode cX2_holdsTask 101 = .ok (.ldc2_w 38, 3) := by decide +kernel
theorem dX2_holdsTask_104 : decode cX2_holdsTask 104 = .ok (.invokevirtual 30, 3) := by decide +kernel
theorem dX2_holdsTask_107 : decode cX2_holdsTask 107 = .ok (.ifCond .eq 7, 3) := by decide +kernel
theorem dX2_holdsTask_110 : decode cX2_holdsTask 110 = .ok (.iconst 1, 1) := by decide +kernel
theorem dX2_holdsTask_111 : decode cX2_holdsTask 111 = .ok (.goto 4, 3) := by decide +kernel
theorem dX2_holdsTask_114 : decode cX2_holdsTask 114 = .ok (.iconst 0, 1) := by decide +kernel
theorem dX2_holdsTask_115 : decode cX2_holdsTask 115 = .ok (.ireturn, 1) := by decide +kernel
theorem dX2_isWithin_0 : decode cX2_isWithin 0 = .ok (.aload_n 0, 1) := by decide +kernel
theorem dX2_isWithin_1 : decode cX2_isWithin 1 = .ok (.getfield 9, 3) := by decide +kernel
theorem dX2_isWithin_4 : decode cX2_isWithin 4 = .ok (.iload_n 1, 1) := by decide +kernel
theorem dX2_isWithin_5 : decode cX2_isWithin 5 = .ok (.laload, 1) := by decide +kernel
theorem dX2_isWithin_6 : decode cX2_isWithin 6 = .ok (.lconst 0, 1) := by decide +kernel
theorem dX2_isWithin_7 : decode cX2_isWithin 7 = .ok (.lcmp, 1) := by decide +kernel
theorem dX2_isWithin_8 : decode cX2_isWithin 8 = .ok (.ifCond .lt 18, 3) := by decide +kernel
theorem dX2_isWithin_11 : decode cX2_isWithin 11 = .ok (.aload_n 0, 1) := by decide +kernel
theorem dX2_isWithin_12 : decode cX2_isWithin 12 = .ok (.getfield 9, 3) := by decide +kernel
theorem dX2_isWithin_15 : decode cX2_isWithin 15 = .ok (.iload_n 1, 1) := by decide +kernel
theorem dX2_isWithin_16 : decode cX2_isWithin 16 = .ok (.laload, 1) := by decide +kernel
theorem dX2_isWithin_17 : decode cX2_isWithin 17 = .ok (.lload_n 2, 1) := by decide +kernel
theorem dX2_isWithin_18 : decode cX2_isWithin 18 = .ok (.lcmp, 1) := by decide +kernel
theorem dX2_isWithin_19 : decode cX2_isWithin 19 = .ok (.ifCond .gt 7, 3) := by decide +kernel
theorem dX2_isWithin_22 : decode cX2_isWithin 22 = .ok (.iconst 1, 1) := by decide +kernel
theorem dX2_isWithin_23 : decode cX2_isWithin 23 = .ok (.goto 4, 3) := by decide +kernel
theorem dX2_isWithin_26 : decode cX2_isWithin 26 = .ok (.iconst 0, 1) := by decide +kernel
theorem dX2_isWithin_27 : decode cX2_isWithin 27 = .ok (.ireturn, 1) := by decide +kernel
set_option maxRecDepth 20000 in
theorem ggX3_init_X4_init : GoodIn wsX3_init wsX4_init := goodIn_r _ [11, 12, 2, 3, 13, 14, 15, 16, 17, 18, 19, 20, 21, 22, 23, 24, 25, 29, 30, 31, 32, 33, 34, 35, 36, 37, 38, 39, 40, 41, 42, 43] (by decide +kernel) (by decide +kernel)
set_option maxRecDepth 20000 in
theorem gX3_init_X4_init_n19 : GoodIn wsX3_init (wsX4_init) := ggX3_init_X4_init
theorem dX3_init_0 : decode cX3_init 0 = .ok (.aload_n 0, 1) := by decide +kernel
theorem dX3_init_1 : decode cX3_init 1 = .ok (.invokespecial 3, 3) := by decide +kernel
theorem dX3_init_4 : decode cX3_init 4 = .ok (.aload_n 0, 1) := by decide +kernel
theorem dX3_init_5 : decode cX3_init 5 = .ok (.sipush 721, 3) := by decide +kernel
theorem dX3_init_8 : decode cX3_init 8 = .ok (.anewarray 9, 3) := by decide +kernel
theorem dX3_init_11 : decode cX3_init 11 = .ok (.putfield 11, 3) := by decide +kernel
theorem dX3_init_14 : decode cX3_init 14 = .ok (.aload_n 0, 1) := by decide +kernel
theorem dX3_init_15 : decode cX3_init 15 = .ok (.new 17, 3) := by decide +kernel
theorem dX3_init_18 : decode cX3_init 18 = .ok (.dup, 1) := by decide +kernel
theorem dX3_init_19 : decode cX3_init 19 = .ok (.invokespecial 19, 3) := by decide +kernel
theorem dX3_init_22 : decode cX3_init 22 = .ok (.putfield 20, 3) := by decide +kernel
theorem dX3_init_25 : decode cX3_init 25 = .ok (.return_, 1) := by decide +kernel
set_option maxRecDepth 20000 in
theorem ggX3_bendAt_X1_init : GoodIn wsX3_bendAt wsX1_init := goodIn_r _ [6, 7, 8, 9, 10, 11, 12, 13, 14, 18, 19, 20, 21, 22, 23, 24] (by decide +kernel) (by decide +kernel)
set_option maxRecDepth 20000 in
theorem gX3_bendAt_X1_init_n24 : GoodIn wsX3_bendAt (wsX1_init) := ggX3_bendAt_X1_init
theorem dX3_bendAt_0 : decode cX3_bendAt 0 = .ok (.aload_n 0, 1) := by decide +kernel
theorem dX3_bendAt_1 : decode cX3_bendAt 1 = .ok (.getfield 11, 3) := by decide +kernel
theorem dX3_bendAt_4 : decode cX3_bendAt 4 = .ok (.iload_n 1, 1) := by decide +kernel
theorem dX3_bendAt_5 : decode cX3_bendAt 5 = .ok (.aaload, 1) := by decide +kernel
theorem dX3_bendAt_6 : decode cX3_bendAt 6 = .ok (.ifnonnull 16, 3) := by decide +kernel
theorem dX3_bendAt_9 : decode cX3_bendAt 9 = .ok (.aload_n 0, 1) := by decide +kernel
theorem dX3_bendAt_10 : decode cX3_bendAt 10 = .ok (.getfield 11, 3) := by decide +kernel
theorem dX3_bendAt_13 : decode cX3_bendAt 13 = .ok (.iload_n 1, 1) := by decide +kernel
theorem dX3_bendAt_14 : decode cX3_bendAt 14 = .ok (.new 9, 3) := by decide +kernel
theorem dX3_bendAt_17 : decode cX3_bendAt 17 = .ok (.dup, 1) := by decide +kernel
theorem dX3_bendAt_18 : decode cX3_bendAt 18 = .ok (.invokespecial 24, 3) := by decide +kernel
theorem dX3_bendAt_21 : decode cX3_bendAt 21 = .ok (.aastore, 1) := by decide +kernel
theorem dX3_bendAt_22 : decode cX3_bendAt 22 = .ok (.aload_n 0, 1) := by decide +kernel
theorem dX3_bendAt_23 : decode cX3_bendAt 23 = .ok (.getfield 11, 3) := by decide +kernel
theorem dX3_bendAt_26 : decode cX3_bendAt 26 = .ok (.iload_n 1, 1) := by decide +kernel
theorem dX3_bendAt_27 : decode cX3_bendAt 27 = .ok (.aaload, 1) := by decide +kernel
theorem dX3_bendAt_28 : decode cX3_bendAt 28 = .ok (.areturn, 1) := by decide +kernel
set_option maxRecDepth 20000 in
theorem ggX3_draw_X4_lay : GoodIn wsX3_draw wsX4_lay := goodIn_r _ [14, 15, 16, 17, 18, 19, 20, 21, 22, 23, 24, 25, 26, 27, 28, 29, 30, 31, 32, 33, 34, 35, 36, 37, 38, 13, 39, 40, 41, 42, 43, 44, 45, 46, 47, 48, 49, 50, 51, 52, 53, 54, 55, 56, 57, 58, 59, 60, 61, 62, 63, 64, 193, 194, 195, 196, 197, 198, 199, 200, 201, 202, 203, 204, 205, 206, 207, 208, 209, 210, 211, 212, 213, 214, 215, 216] (by decide +kernel) (by decide +kernel)
set_option maxRecDepth 20000 in
theorem gX3_draw_X4_lay : GoodIn wsX3_draw (wsV RX3 25 RX4 yX4_lay wsX4_lay) := goodIn_app (goodIn_of _ (by decide +kernel)) ggX3_draw_X4_lay
set_option maxRecDepth 20000 in
theorem ggX3_draw_X5_leastCost : GoodIn wsX3_draw wsX5_leastCost := goodIn_r _ [68, 27, 69, 70, 71, 72, 60, 73, 74, 75, 76, 25, 77, 78, 79, 80, 81, 82, 59, 61, 193, 194, 195, 196, 197, 198, 199, 200, 201] (by decide +kernel) (by decide +kernel)
set_option maxRecDepth 20000 in
theorem gX3_draw_X5_leastCost : GoodIn wsX3_draw (wsV RX3 29 RX5 yX5_leastCost wsX5_leastCost) := goodIn_app (goodIn_of _ (by decide +kernel)) ggX3_draw_X5_leastCost
set_option maxRecDepth 20000 in
theorem ggX3_draw_X3_bendAt : GoodIn wsX3_draw wsX3_bendAt := goodIn_r _ [87, 88, 89, 90, 91, 92, 93, 94, 95, 96, 97, 98, 99, 100, 101, 183, 184, 185, 186, 187, 188, 189, 190, 191, 192] (by decide +kernel) (by decide +kernel)
set_option maxRecDepth 20000 in
theorem gX3_draw_X3_bendAt : GoodIn wsX3_draw (wsV RX3 39 RX3 yX3_bendAt wsX3_bendAt) := goodIn_app (goodIn_of _ (by decide +kernel)) ggX3_draw_X3_bendAt
set_option maxRecDepth 20000 in
theorem ggX3_draw_X4_riseFromStart : GoodIn wsX3_draw wsX4_riseFromStart := goodIn_r _ [105, 16, 58, 59, 60, 61, 32, 33, 34, 35, 106, 107, 108, 13, 109, 110, 111, 112, 113, 17, 41, 29, 30, 31, 114, 115, 116, 117, 18, 56, 50, 63, 62, 52, 118, 119, 120, 121, 19, 122, 123, 124, 125, 202, 203, 204, 205, 206, 207, 208, 209, 210, 211, 212, 213, 214, 215, 216] (by decide +kernel) (by decide +kernel)
set_option maxRecDepth 20000 in
theorem gX3_draw_X4_riseFromStart : GoodIn wsX3_draw (wsV RX3 50 RX4 yX4_riseFromStart wsX4_riseFromStart) := goodIn_app (goodIn_of _ (by decide +kernel)) ggX3_draw_X4_riseFromStart
set_option maxRecDepth 20000 in
theorem ggX3_draw_X4_riseFromEnd : GoodIn wsX3_draw wsX4_riseFromEnd := goodIn_r _ [129, 130, 16, 20, 32, 33, 34, 35, 106, 107, 108, 13, 109, 110, 111, 112, 113, 17, 41, 58, 59, 60, 61, 29, 30, 31, 114, 115, 116, 117, 18, 56, 50, 63, 62, 52, 118, 119, 120, 121, 19, 122, 123, 124, 125, 202, 203, 204, 205, 206, 207, 208, 209, 210, 211, 212, 213, 214, 215, 216] (by decide +kernel) (by decide +kernel)
set_option maxRecDepth 20000 in
theorem gX3_draw_X4_riseFromEnd : GoodIn wsX3_draw (wsV RX3 60 RX4 yX4_riseFromEnd wsX4_riseFromEnd) := goodIn_app (goodIn_of _ (by decide +kernel)) ggX3_draw_X4_riseFromEnd
set_option maxRecDepth 20000 in
theorem ggX3_draw_X4_push : GoodIn wsX3_draw wsX4_push := goodIn_r _ [134, 135, 136, 137, 138, 13, 139, 140, 141, 16, 41, 142, 21, 32, 33, 34, 35, 143, 144, 145, 146, 147, 148, 149, 150, 19, 114, 115, 116, 117, 18, 56, 50, 63, 62, 52, 29, 30, 31, 151, 152, 153, 154, 122, 123, 124, 125, 155, 156, 157, 158, 159, 160, 161, 60, 162, 163, 164, 165, 166, 167, 168, 169, 170, 171, 172, 173, 174, 175, 176, 177, 178, 20, 179, 180, 181, 182, 202, 203, 204, 205, 206, 207, 208, 209, 210, 211, 212, 213, 214, 215, 216] (by decide +kernel) (by decide +kernel)
set_option maxRecDepth 20000 in
theorem gX3_draw_X4_push : GoodIn wsX3_draw (wsV RX3 74 RX4 yX4_push wsX4_push) := goodIn_app (goodIn_of _ (by decide +kernel)) ggX3_draw_X4_push
theorem dX3_draw_0 : decode cX3_draw 0 = .ok (.aload_n 0, 1) := by decide +kernel
theorem dX3_draw_1 : decode cX3_draw 1 = .ok (.getfield 20, 3) := by decide +kernel
theorem dX3_draw_4 : decode cX3_draw 4 = .ok (.aload_n 1, 1) := by decide +kernel
theorem dX3_draw_5 : decode cX3_draw 5 = .ok (.invokevirtual 25, 3) := by decide +kernel
theorem dX3_draw_8 : decode cX3_draw 8 = .ok (.aload_n 1, 1) := by decide +kernel
theorem dX3_draw_9 : decode cX3_draw 9 = .ok (.invokevirtual 29, 3) := by decide +kernel
theorem dX3_draw_12 : decode cX3_draw 12 = .ok (.lstore_n 3, 1) := by decide +kernel
theorem dX3_draw_13 : decode cX3_draw 13 = .ok (.lconst 0, 1) := by decide +kernel
theorem dX3_draw_14 : decode cX3_draw 14 = .ok (.lstore 5, 2) := by decide +kernel
theorem dX3_draw_16 : decode cX3_draw 16 = .ok (.iconst 0, 1) := by decide +kernel
theorem dX3_draw_17 : decode cX3_draw 17 = .ok (.istore 7, 2) := by decide +kernel
theorem dX3_draw_19 : decode cX3_draw 19 = .ok (.iconst 1, 1) := by decide +kernel
theorem dX3_draw_20 : decode cX3_draw 20 = .ok (.istore 8, 2) := by decide +kernel
theorem dX3_draw_22 : decode cX3_draw 22 = .ok (.aload_n 0, 1) := by decide +kernel
theorem dX3_draw_23 : decode cX3_draw 23 = .ok (.iconst 0, 1) := by decide +kernel
theorem dX3_draw_24 : decode cX3_draw 24 = .ok (.putfield 35, 3) := by decide +kernel
theorem dX3_draw_27 : decode cX3_draw 27 = .ok (.iload 8, 2) := by decide +kernel
theorem dX3_draw_29 : decode cX3_draw 29 = .ok (.ifCond .eq 151, 3) := by decide +kernel
theorem dX3_draw_32 : decode cX3_draw 32 = .ok (.aload_n 0, 1) := by decide +kernel
theorem dX3_draw_33 : decode cX3_draw 33 = .ok (.getfield 35, 3) := by decide +kernel
theorem dX3_draw_36 : decode cX3_draw 36 = .ok (.sipush 721, 3) := by decide +kernel
theorem dX3_draw_39 : decode cX3_draw 39 = .ok (.if_icmp .ge 141, 3) := by decide +kernel
theorem dX3_draw_42 : decode cX3_draw 42 = .ok (.aload_n 0, 1) := by decide +kernel
theorem dX3_draw_43 : decode cX3_draw 43 = .ok (.aload_n 0, 1) := by decide +kernel
theorem dX3_draw_44 : decode cX3_draw 44 = .ok (.getfield 35, 3) := by decide +kernel
theorem dX3_draw_47 : decode cX3_draw 47 = .ok (.invokevirtual 39, 3) := by decide +kernel
theorem dX3_draw_50 : decode cX3_draw 50 = .ok (.astore 9, 2) := by decide +kernel
theorem dX3_draw_52 : decode cX3_draw 52 = .ok (.aload_n 0, 1) := by decide +kernel
theorem dX3_draw_53 : decode cX3_draw 53 = .ok (.getfield 20, 3) := by decide +kernel
theorem dX3_draw_56 : decode cX3_draw 56 = .ok (.aload 9, 2) := by decide +kernel
theorem dX3_draw_58 : decode cX3_draw 58 = .ok (.getfield 43, 3) := by decide +kernel
theorem dX3_draw_61 : decode cX3_draw 61 = .ok (.aload 9, 2) := by decide +kernel
theorem dX3_draw_63 : decode cX3_draw 63 = .ok (.getfield 47, 3) := by decide +kernel
theorem dX3_draw_66 : decode cX3_draw 66 = .ok (.invokevirtual 50, 3) := by decide +kernel
theorem dX3_draw_69 : decode cX3_draw 69 = .ok (.istore 10, 2) := by decide +kernel
theorem dX3_draw_71 : decode cX3_draw 71 = .ok (.aload_n 0, 1) := by decide +kernel
theorem dX3_draw_72 : decode cX3_draw 72 = .ok (.getfield 20, 3) := by decide +kernel
theorem dX3_draw_75 : decode cX3_draw 75 = .ok (.aload 9, 2) := by decide +kernel
theorem dX3_draw_77 : decode cX3_draw 77 = .ok (.getfield 54, 3) := by decide +kernel
theorem dX3_draw_80 : decode cX3_draw 80 = .ok (.aload 9, 2) := by decide +kernel
theorem dX3_draw_82 : decode cX3_draw 82 = .ok (.getfield 57, 3) := by decide +kernel
theorem dX3_draw_85 : decode cX3_draw 85 = .ok (.invokevirtual 60, 3) := by decide +kernel
theorem dX3_draw_88 : decode cX3_draw 88 = .ok (.lload_n 3, 1) := by decide +kernel
theorem dX3_draw_89 : decode cX3_draw 89 = .ok (.lload 5, 2) := by decide +kernel
theorem dX3_draw_91 : decode cX3_draw 91 = .ok (.iload 7, 2) := by decide +kernel
theorem dX3_draw_93 : decode cX3_draw 93 = .ok (.iload 10, 2) := by decide +kernel
theorem dX3_draw_95 : decode cX3_draw 95 = .ok (.isub, 1) := by decide +kernel
theorem dX3_draw_96 : decode cX3_draw 96 = .ok (.i2l, 1) := by decide +kernel
theorem dX3_draw_97 : decode cX3_draw 97 = .ok (.lmul, 1) := by decide +kernel
theorem dX3_draw_98 : decode cX3_draw 98 = .ok (.ladd, 1) := by decide +kernel
theorem dX3_draw_99 : decode cX3_draw 99 = .ok (.lstore_n 3, 1) := by decide +kernel
theorem dX3_draw_100 : decode cX3_draw 100 = .ok (.aload 9, 2) := by decide +kernel
theorem dX3_draw_102 : decode cX3_draw 102 = .ok (.iload 10, 2) := by decide +kernel
theorem dX3_draw_104 : decode cX3_draw 104 = .ok (.putfield 64, 3) := by decide +kernel
theorem dX3_draw_107 : decode cX3_draw 107 = .ok (.aload 9, 2) := by decide +kernel
theorem dX3_draw_109 : decode cX3_draw 109 = .ok (.lload_n 3, 1) := by decide +kernel
theorem dX3_draw_110 : decode cX3_draw 110 = .ok (.putfield 67, 3) := by decide +kernel
theorem dX3_draw_113 : decode cX3_draw 113 = .ok (.aload 9, 2) := by decide +kernel
theorem dX3_draw_115 : decode cX3_draw 115 = .ok (.lload 5, 2) := by decide +kernel
theorem dX3_draw_117 : decode cX3_draw 117 = .ok (.putfield 71, 3) := by decide +kernel
theorem dX3_draw_120 : decode cX3_draw 120 = .ok (.iload 10, 2) := by decide +kernel
theorem dX3_draw_122 : decode cX3_draw 122 = .ok (.istore 7, 2) := by decide +kernel
theorem dX3_draw_124 : decode cX3_draw 124 = .ok (.iload 10, 2) := by decide +kernel
theorem dX3_draw_126 : decode cX3_draw 126 = .ok (.iload_n 2, 1) := by decide +kernel
theorem dX3_draw_127 : decode cX3_draw 127 = .ok (.if_icmp .le 7, 3) := by decide +kernel
theorem dX3_draw_130 : decode cX3_draw 130 = .ok (.iconst 1, 1) := by decide +kernel
theorem dX3_draw_131 : decode cX3_draw 131 = .ok (.goto 4, 3) := by decide +kernel
theorem dX3_draw_134 : decode cX3_draw 134 = .ok (.iconst 0, 1) := by decide +kernel
theorem dX3_draw_135 : decode cX3_draw 135 = .ok (.istore 8, 2) := by decide +kernel
theorem dX3_draw_137 : decode cX3_draw 137 = .ok (.iload 8, 2) := by decide +kernel
theorem dX3_draw_139 : decode cX3_draw 139 = .ok (.ifCond .eq 28, 3) := by decide +kernel
theorem dX3_draw_142 : decode cX3_draw 142 = .ok (.lload 5, 2) := by decide +kernel
theorem dX3_draw_144 : decode cX3_draw 144 = .ok (.aload_n 0, 1) := by decide +kernel
theorem dX3_draw_145 : decode cX3_draw 145 = .ok (.getfield 20, 3) := by decide +kernel
theorem dX3_draw_148 : decode cX3_draw 148 = .ok (.aload 9, 2) := by decide +kernel
theorem dX3_draw_150 : decode cX3_draw 150 = .ok (.getfield 43, 3) := by decide +kernel
theorem dX3_draw_153 : decode cX3_draw 153 = .ok (.aload 9, 2) := by decide +kernel
theorem dX3_draw_155 : decode cX3_draw 155 = .ok (.getfield 47, 3) := by decide +kernel
theorem dX3_draw_158 : decode cX3_draw 158 = .ok (.iload 10, 2) := by decide +kernel
theorem dX3_draw_160 : decode cX3_draw 160 = .ok (.invokevirtual 74, 3) := by decide +kernel
theorem dX3_draw_163 : decode cX3_draw 163 = .ok (.i2l, 1) := by decide +kernel
theorem dX3_draw_164 : decode cX3_draw 164 = .ok (.ladd, 1) := by decide +kernel
theorem dX3_draw_165 : decode cX3_draw 165 = .ok (.lstore 5, 2) := by decide +kernel
theorem dX3_draw_167 : decode cX3_draw 167 = .ok (.aload_n 0, 1) := by decide +kernel
theorem dX3_draw_168 : decode cX3_draw 168 = .ok (.dup, 1) := by decide +kernel
theorem dX3_draw_169 : decode cX3_draw 169 = .ok (.getfield 35, 3) := by decide +kernel
theorem dX3_draw_172 : decode cX3_draw 172 = .ok (.iconst 1, 1) := by decide +kernel
theorem dX3_draw_173 : decode cX3_draw 173 = .ok (.iadd, 1) := by decide +kernel
theorem dX3_draw_174 : decode cX3_draw 174 = .ok (.putfield 35, 3) := by decide +kernel
theorem dX3_draw_177 : decode cX3_draw 177 = .ok (.goto (-150), 3) := by decide +kernel
theorem dX3_draw_180 : decode cX3_draw 180 = .ok (.return_, 1) := by decide +kernel
set_option maxRecDepth 20000 in
theorem ggX3_bendFor_X3_bendAt : GoodIn wsX3_bendFor wsX3_bendAt := goodIn_r _ [7, 8, 9, 10, 11, 12, 13, 14, 15, 16, 17, 18, 19, 20, 21, 22, 23, 24, 25, 26, 27, 28, 29, 30, 31] (by decide +kernel) (by decide +kernel)
set_option maxRecDepth 20000 in
theorem gX3_bendFor_X3_bendAt : GoodIn wsX3_bendFor (wsV RX3 39 RX3 yX3_bendAt wsX3_bendAt) := goodIn_app (goodIn_of _ (by decide +kernel)) ggX3_bendFor_X3_bendAt
theorem dX3_bendFor_0 : decode cX3_bendFor 0 = .ok (.iconst 0, 1) := by decide +kernel
theorem dX3_bendFor_1 : decode cX3_bendFor 1 = .ok (.istore_n 2, 1) := by decide +kernel
theorem dX3_bendFor_2 : decode cX3_bendFor 2 = .ok (.iload_n 2, 1) := by decide +kernel
theorem dX3_bendFor_3 : decode cX3_bendFor 3 = .ok (.aload_n 0, 1) := by decide +kernel
theorem dX3_bendFor_4 : decode cX3_bendFor 4 = .ok (.getfield 35, 3) := by decide +kernel
theorem dX3_bendFor_7 : decode cX3_bendFor 7 = .ok (.iconst 1, 1) := by decide +kernel
theorem dX3_bendFor_8 : decode cX3_bendFor 8 = .ok (.isub, 1) := by decide +kernel
theorem dX3_bendFor_9 : decode cX3_bendFor 9 = .ok (.if_icmp .ge 21, 3) := by decide +kernel
theorem dX3_bendFor_12 : decode cX3_bendFor 12 = .ok (.aload_n 0, 1) := by decide +kernel
theorem dX3_bendFor_13 : decode cX3_bendFor 13 = .ok (.iload_n 2, 1) := by decide +kernel
theorem dX3_bendFor_14 : decode cX3_bendFor 14 = .ok (.invokevirtual 39, 3) := by decide +kernel
theorem dX3_bendFor_17 : decode cX3_bendFor 17 = .ok (.getfield 64, 3) := by decide +kernel
theorem dX3_bendFor_20 : decode cX3_bendFor 20 = .ok (.iload_n 1, 1) := by decide +kernel
theorem dX3_bendFor_21 : decode cX3_bendFor 21 = .ok (.if_icmp .le 9, 3) := by decide +kernel
theorem dX3_bendFor_24 : decode cX3_bendFor 24 = .ok (.iinc 2 1, 3) := by decide +kernel
theorem dX3_bendFor_27 : decode cX3_bendFor 27 = .ok (.goto (-25), 3) := by decide +kernel
theorem dX3_bendFor_30 : decode cX3_bendFor 30 = .ok (.aload_n 0, 1) := by decide +kernel
theorem dX3_bendFor_31 : decode cX3_bendFor 31 = .ok (.iload_n 2, 1) := by decide +kernel
theorem dX3_bendFor_32 : decode cX3_bendFor 32 = .ok (.invokevirtual 39, 3) := by decide +kernel
theorem dX3_bendFor_35 : decode cX3_bendFor 35 = .ok (.areturn, 1) := by decide +kernel
set_option maxRecDepth 20000 in
theorem ggX3_lastWithin_X3_bendAt : GoodIn wsX3_lastWithin wsX3_bendAt := goodIn_r _ [7, 8, 9, 10, 11, 12, 13, 14, 15, 16, 17, 18, 19, 20, 21, 22, 23, 24, 25, 26, 27, 28, 29, 30, 31] (by decide +kernel) (by decide +kernel)
set_option maxRecDepth 20000 in
theorem gX3_lastWithin_X3_bendAt : GoodIn wsX3_lastWithin (wsV RX3 39 RX3 yX3_bendAt wsX3_bendAt) := goodIn_app (goodIn_of _ (by decide +kernel)) ggX3_lastWithin_X3_bendAt
theorem dX3_lastWithin_0 : decode cX3_lastWithin 0 = .ok (.iconst 0, 1) := by decide +kernel
theorem dX3_lastWithin_1 : decode cX3_lastWithin 1 = .ok (.istore_n 3, 1) := by decide +kernel
theorem dX3_lastWithin_2 : decode cX3_lastWithin 2 = .ok (.iload_n 3, 1) := by decide +kernel
theorem dX3_lastWithin_3 : decode cX3_lastWithin 3 = .ok (.aload_n 0, 1) := by decide +kernel
theorem dX3_lastWithin_4 : decode cX3_lastWithin 4 = .ok (.getfield 35, 3) := by decide +kernel
theorem dX3_lastWithin_7 : decode cX3_lastWithin 7 = .ok (.iconst 1, 1) := by decide +kernel
theorem dX3_lastWithin_8 : decode cX3_lastWithin 8 = .ok (.isub, 1) := by decide +kernel
theorem dX3_lastWithin_9 : decode cX3_lastWithin 9 = .ok (.if_icmp .ge 24, 3) := by decide +kernel
theorem dX3_lastWithin_12 : decode cX3_lastWithin 12 = .ok (.aload_n 0, 1) := by decide +kernel
theorem dX3_lastWithin_13 : decode cX3_lastWithin 13 = .ok (.iload_n 3, 1) := by decide +kernel
theorem dX3_lastWithin_14 : decode cX3_lastWithin 14 = .ok (.iconst 1, 1) := by decide +kernel
theorem dX3_lastWithin_15 : decode cX3_lastWithin 15 = .ok (.iadd, 1) := by decide +kernel
theorem dX3_lastWithin_16 : decode cX3_lastWithin 16 = .ok (.invokevirtual 39, 3) := by decide +kernel
theorem dX3_lastWithin_19 : decode cX3_lastWithin 19 = .ok (.getfield 67, 3) := by decide +kernel
theorem dX3_lastWithin_22 : decode cX3_lastWithin 22 = .ok (.lload_n 1, 1) := by decide +kernel
theorem dX3_lastWithin_23 : decode cX3_lastWithin 23 = .ok (.lcmp, 1) := by decide +kernel
theorem dX3_lastWithin_24 : decode cX3_lastWithin 24 = .ok (.ifCond .gt 9, 3) := by decide +kernel
theorem dX3_lastWithin_27 : decode cX3_lastWithin 27 = .ok (.iinc 3 1, 3) := by decide +kernel
theorem dX3_lastWithin_30 : decode cX3_lastWithin 30 = .ok (.goto (-28), 3) := by decide +kernel
theorem dX3_lastWithin_33 : decode cX3_lastWithin 33 = .ok (.iload_n 3, 1) := by decide +kernel
theorem dX3_lastWithin_34 : decode cX3_lastWithin 34 = .ok (.ireturn, 1) := by decide +kernel
theorem dX4_init_0 : decode cX4_init 0 = .ok (.aload_n 0, 1) := by decide +kernel
theorem dX4_init_1 : decode cX4_init 1 = .ok (.invokespecial 3, 3) := by decide +kernel
theorem dX4_init_4 : decode cX4_init 4 = .ok (.aload_n 0, 1) := by decide +kernel
theorem dX4_init_5 : decode cX4_init 5 = .ok (.bipush 12, 2) := by decide +kernel
theorem dX4_init_7 : decode cX4_init 7 = .ok (.newarray .int, 2) := by decide +kernel
theorem dX4_init_9 : decode cX4_init 9 = .ok (.putfield 9, 3) := by decide +kernel
theorem dX4_init_12 : decode cX4_init 12 = .ok (.aload_n 0, 1) := by decide +kernel
theorem dX4_init_13 : decode cX4_init 13 = .ok (.bipush 12, 2) := by decide +kernel
theorem dX4_init_15 : decode cX4_init 15 = .ok (.newarray .int, 2) := by decide +kernel
theorem dX4_init_17 : decode cX4_init 17 = .ok (.putfield 15, 3) := by decide +kernel
theorem dX4_init_20 : decode cX4_init 20 = .ok (.aload_n 0, 1) := by decide +kernel
theorem dX4_init_21 : decode cX4_init 21 = .ok (.bipush 12, 2) := by decide +kernel
theorem dX4_init_23 : decode cX4_init 23 = .ok (.newarray .int, 2) := by decide +kernel
theorem dX4_init_25 : decode cX4_init 25 = .ok (.putfield 18, 3) := by decide +kernel
theorem dX4_init_28 : decode cX4_init 28 = .ok (.aload_n 0, 1) := by decide +kernel
theorem dX4_init_29 : decode cX4_init 29 = .ok (.bipush 12, 2) := by decide +kernel
theorem dX4_init_31 : decode cX4_init 31 = .ok (.newarray .int, 2) := by decide +kernel
theorem dX4_init_33 : decode cX4_init 33 = .ok (.putfield 21, 3) := by decide +kernel
theorem dX4_init_36 : decode cX4_init 36 = .ok (.aload_n 0, 1) := by decide +kernel
theorem dX4_init_37 : decode cX4_init 37 = .ok (.bipush 12, 2) := by decide +kernel
theorem dX4_init_39 : decode cX4_init 39 = .ok (.newarray .int, 2) := by decide +kernel
theorem dX4_init_41 : decode cX4_init 41 = .ok (.putfield 24, 3) := by decide +kernel
theorem dX4_init_44 : decode cX4_init 44 = .ok (.aload_n 0, 1) := by decide +kernel
theorem dX4_init_45 : decode cX4_init 45 = .ok (.bipush 12, 2) := by decide +kernel
theorem dX4_init_47 : decode cX4_init 47 = .ok (.newarray .int, 2) := by decide +kernel
theorem dX4_init_49 : decode cX4_init 49 = .ok (.putfield 27, 3) := by decide +kernel
theorem dX4_init_52 : decode cX4_init 52 = .ok (.aload_n 0, 1) := by decide +kernel
theorem dX4_init_53 : decode cX4_init 53 = .ok (.bipush 12, 2) := by decide +kernel
theorem dX4_init_55 : decode cX4_init 55 = .ok (.newarray .int, 2) := by decide +kernel
theorem dX4_init_57 : decode cX4_init 57 = .ok (.putfield 30, 3) := by decide +kernel
theorem dX4_init_60 : decode cX4_init 60 = .ok (.aload_n 0, 1) := by decide +kernel
theorem dX4_init_61 : decode cX4_init 61 = .ok (.bipush 12, 2) := by decide +kernel
theorem dX4_init_63 : decode cX4_init 63 = .ok (.newarray .int, 2) := by decide +kernel
theorem dX4_init_65 : decode cX4_init 65 = .ok (.putfield 33, 3) := by decide +kernel
theorem dX4_init_68 : decode cX4_init 68 = .ok (.aload_n 0, 1) := by decide +kernel
theorem dX4_init_69 : decode cX4_init 69 = .ok (.sipush 144, 3) := by decide +kernel
theorem dX4_init_72 : decode cX4_init 72 = .ok (.newarray .int, 2) := by decide +kernel
theorem dX4_init_74 : decode cX4_init 74 = .ok (.putfield 36, 3) := by decide +kernel
theorem dX4_init_77 : decode cX4_init 77 = .ok (.aload_n 0, 1) := by decide +kernel
theorem dX4_init_78 : decode cX4_init 78 = .ok (.bipush 12, 2) := by decide +kernel
theorem dX4_init_80 : decode cX4_init 80 = .ok (.newarray .int, 2) := by decide +kernel
theorem dX4_init_82 : decode cX4_init 82 = .ok (.putfield 39, 3) := by decide +kernel
theorem dX4_init_85 : decode cX4_init 85 = .ok (.aload_n 0, 1) := by decide +kernel
theorem dX4_init_86 : decode cX4_init 86 = .ok (.bipush 24, 2) := by decide +kernel
theorem dX4_init_88 : decode cX4_init 88 = .ok (.newarray .int, 2) := by decide +kernel
theorem dX4_init_90 : decode cX4_init 90 = .ok (.putfield 42, 3) := by decide +kernel
theorem dX4_init_93 : decode cX4_init 93 = .ok (.aload_n 0, 1) := by decide +kernel
theorem dX4_init_94 : decode cX4_init 94 = .ok (.bipush 24, 2) := by decide +kernel
theorem dX4_init_96 : decode cX4_init 96 = .ok (.newarray .int, 2) := by decide +kernel
theorem dX4_init_98 : decode cX4_init 98 = .ok (.putfield 45, 3) := by decide +kernel
theorem dX4_init_101 : decode cX4_init 101 = .ok (.return_, 1) := by decide +kernel
set_option maxRecDepth 20000 in
theorem ggX4_lay_X5_arrange : GoodIn wsX4_lay wsX5_arrange := goodIn_r _ [12, 13, 14, 15, 16, 17, 52, 53, 54, 55, 56, 57, 58, 59, 60] (by decide +kernel) (by decide +kernel)
set_option maxRecDepth 20000 in
theorem gX4_lay_X5_arrange : GoodIn wsX4_lay (wsV RX4 55 RX5 yX5_arrange wsX5_arrange) := goodIn_app (goodIn_of _ (by decide +kernel)) ggX4_lay_X5_arrange
set_option maxRecDepth 20000 in
theorem ggX4_lay_J7_fill_53178 : GoodIn wsX4_lay wsJ7_fill_53178 := goodIn_r _ [21] (by decide +kernel) (by decide +kernel)
set_option maxRecDepth 20000 in
theorem gX4_lay_J7_fill_53178 : GoodIn wsX4_lay (va_wsS RX4 59 yJ7_fill_53178 wsJ7_fill_53178) := goodIn_app (goodIn_of _ (by decide +kernel)) ggX4_lay_J7_fill_53178
set_option maxRecDepth 20000 in
theorem ggX4_lay_X4_layPairs : GoodIn wsX4_lay wsX4_layPairs := goodIn_r _ [26, 2, 27, 28, 7, 15, 16, 17, 29, 30, 31, 11, 32, 14, 13, 61, 62, 63, 64, 65, 66, 67, 68, 69, 70, 71, 72, 73, 74, 75, 52, 53, 54, 55, 56, 57, 58, 59, 60] (by decide +kernel) (by decide +kernel)
set_option maxRecDepth 20000 in
theorem gX4_lay_X4_layPairs : GoodIn wsX4_lay (wsV RX4 68 RX4 yX4_layPairs wsX4_layPairs) := goodIn_app (goodIn_of _ (by decide +kernel)) ggX4_lay_X4_layPairs
set_option maxRecDepth 20000 in
theorem ggX4_lay_X4_layRoom : GoodIn wsX4_lay wsX4_layRoom := goodIn_r _ [36, 37, 38, 39, 40, 41, 42, 43, 44, 45, 46, 47, 48, 49, 50, 51, 61, 62, 63, 64, 65, 66, 67, 68, 69, 70, 71, 72, 73, 74, 75, 52, 53, 54, 55, 56, 57, 58, 59, 60] (by decide +kernel) (by decide +kernel)
set_option maxRecDepth 20000 in
theorem gX4_lay_X4_layRoom : GoodIn wsX4_lay (wsV RX4 72 RX4 yX4_layRoom wsX4_layRoom) := goodIn_app (goodIn_of _ (by decide +kernel)) ggX4_lay_X4_layRoom
theorem dX4_lay_0 : decode cX4_lay 0 = .ok (.aload_n 0, 1) := by decide +kernel
theorem dX4_lay_1 : decode cX4_lay 1 = .ok (.aload_n 1, 1) := by decide +kernel
theorem dX4_lay_2 : decode cX4_lay 2 = .ok (.getfield 48, 3) := by decide +kernel
theorem dX4_lay_5 : decode cX4_lay 5 = .ok (.putfield 54, 3) := by decide +kernel
theorem dX4_lay_8 : decode cX4_lay 8 = .ok (.aload_n 1, 1) := by decide +kernel
theorem dX4_lay_9 : decode cX4_lay 9 = .ok (.aload_n 0, 1) := by decide +kernel
theorem dX4_lay_10 : decode cX4_lay 10 = .ok (.getfield 9, 3) := by decide +kernel
theorem dX4_lay_13 : decode cX4_lay 13 = .ok (.invokevirtual 55, 3) := by decide +kernel
theorem dX4_lay_16 : decode cX4_lay 16 = .ok (.aload_n 0, 1) := by decide +kernel
theorem dX4_lay_17 : decode cX4_lay 17 = .ok (.getfield 33, 3) := by decide +kernel
theorem dX4_lay_20 : decode cX4_lay 20 = .ok (.iconst 0, 1) := by decide +kernel
theorem dX4_lay_21 : decode cX4_lay 21 = .ok (.invokestatic 59, 3) := by decide +kernel
theorem dX4_lay_24 : decode cX4_lay 24 = .ok (.aload_n 0, 1) := by decide +kernel
theorem dX4_lay_25 : decode cX4_lay 25 = .ok (.getfield 36, 3) := by decide +kernel
theorem dX4_lay_28 : decode cX4_lay 28 = .ok (.iconst 0, 1) := by decide +kernel
theorem dX4_lay_29 : decode cX4_lay 29 = .ok (.invokestatic 59, 3) := by decide +kernel
theorem dX4_lay_32 : decode cX4_lay 32 = .ok (.aload_n 0, 1) := by decide +kernel
theorem dX4_lay_33 : decode cX4_lay 33 = .ok (.getfield 39, 3) := by decide +kernel
theorem dX4_lay_36 : decode cX4_lay 36 = .ok (.iconst 0, 1) := by decide +kernel
theorem dX4_lay_37 : decode cX4_lay 37 = .ok (.invokestatic 59, 3) := by decide +kernel
theorem dX4_lay_40 : decode cX4_lay 40 = .ok (.aload_n 0, 1) := by decide +kernel
theorem dX4_lay_41 : decode cX4_lay 41 = .ok (.iconst 0, 1) := by decide +kernel
theorem dX4_lay_42 : decode cX4_lay 42 = .ok (.putfield 65, 3) := by decide +kernel
theorem dX4_lay_45 : decode cX4_lay 45 = .ok (.iconst 0, 1) := by decide +kernel
theorem dX4_lay_46 : decode cX4_lay 46 = .ok (.istore_n 2, 1) := by decide +kernel
theorem dX4_lay_47 : decode cX4_lay 47 = .ok (.iload_n 2, 1) := by decide +kernel
theorem dX4_lay_48 : decode cX4_lay 48 = .ok (.aload_n 0, 1) := by decide +kernel
theorem dX4_lay_49 : decode cX4_lay 49 = .ok (.getfield 54, 3) := by decide +kernel
theorem dX4_lay_52 : decode cX4_lay 52 = .ok (.if_icmp .ge 21, 3) := by decide +kernel
theorem dX4_lay_55 : decode cX4_lay 55 = .ok (.aload_n 0, 1) := by decide +kernel
theorem dX4_lay_56 : decode cX4_lay 56 = .ok (.aload_n 1, 1) := by decide +kernel
theorem dX4_lay_57 : decode cX4_lay 57 = .ok (.iload_n 2, 1) := by decide +kernel
theorem dX4_lay_58 : decode cX4_lay 58 = .ok (.invokevirtual 68, 3) := by decide +kernel
theorem dX4_lay_61 : decode cX4_lay 61 = .ok (.aload_n 0, 1) := by decide +kernel
theorem dX4_lay_62 : decode cX4_lay 62 = .ok (.aload_n 1, 1) := by decide +kernel
theorem dX4_lay_63 : decode cX4_lay 63 = .ok (.iload_n 2, 1) := by decide +kernel
theorem dX4_lay_64 : decode cX4_lay 64 = .ok (.invokevirtual 72, 3) := by decide +kernel
theorem dX4_lay_67 : decode cX4_lay 67 = .ok (.iinc 2 1, 3) := by decide +kernel
theorem dX4_lay_70 : decode cX4_lay 70 = .ok (.goto (-23), 3) := by decide +kernel
theorem dX4_lay_73 : decode cX4_lay 73 = .ok (.return_, 1) := by decide +kernel
set_option maxRecDepth 20000 in
theorem ggX4_layPairs_X7_hasBit : GoodIn wsX4_layPairs wsX7_hasBit := goodIn_r _ [7] (by decide +kernel) (by decide +kernel)
set_option maxRecDepth 20000 in
theorem gX4_layPairs_X7_hasBit_n76 : GoodIn wsX4_layPairs (wsX7_hasBit) := ggX4_layPairs_X7_hasBit
set_option maxRecDepth 20000 in
theorem ggX4_layPairs_X5_allBefore : GoodIn wsX4_layPairs wsX5_allBefore := goodIn_r _ [12, 13, 14, 5, 6, 7, 30, 31, 32, 33, 34, 35, 36, 37, 38] (by decide +kernel) (by decide +kernel)
set_option maxRecDepth 20000 in
theorem gX4_layPairs_X5_allBefore : GoodIn wsX4_layPairs (wsV RX4 80 RX5 yX5_allBefore wsX5_allBefore) := goodIn_app (goodIn_of _ (by decide +kernel)) ggX4_layPairs_X5_allBefore
theorem dX4_layPairs_0 : decode cX4_layPairs 0 = .ok (.iconst 0, 1) := by decide +kernel
theorem dX4_layPairs_1 : decode cX4_layPairs 1 = .ok (.istore_n 3, 1) := by decide +kernel
theorem dX4_layPairs_2 : decode cX4_layPairs 2 = .ok (.iconst 0, 1) := by decide +kernel
theorem dX4_layPairs_3 : decode cX4_layPairs 3 = .ok (.istore 4, 2) := by decide +kernel
theorem dX4_layPairs_5 : decode cX4_layPairs 5 = .ok (.iload 4, 2) := by decide +kernel
theorem dX4_layPairs_7 : decode cX4_layPairs 7 = .ok (.aload_n 0, 1) := by decide +kernel
theorem dX4_layPairs_8 : decode cX4_layPairs 8 = .ok (.getfield 54, 3) := by decide +kernel
theorem dX4_layPairs_11 : decode cX4_layPairs 11 = .ok (.if_icmp .ge 32, 3) := by decide +kernel
theorem dX4_layPairs_14 : decode cX4_layPairs 14 = .ok (.aload_n 1, 1) := by decide +kernel
theorem dX4_layPairs_15 : decode cX4_layPairs 15 = .ok (.getfield 75, 3) := by decide +kernel
theorem dX4_layPairs_18 : decode cX4_layPairs 18 = .ok (.iload_n 2, 1) := by decide +kernel
theorem dX4_layPairs_19 : decode cX4_layPairs 19 = .ok (.iaload, 1) := by decide +kernel
theorem dX4_layPairs_20 : decode cX4_layPairs 20 = .ok (.iload 4, 2) := by decide +kernel
theorem dX4_layPairs_22 : decode cX4_layPairs 22 = .ok (.invokestatic 76, 3) := by decide +kernel
theorem dX4_layPairs_25 : decode cX4_layPairs 25 = .ok (.ifCond .eq 12, 3) := by decide +kernel
theorem dX4_layPairs_28 : decode cX4_layPairs 28 = .ok (.iload_n 3, 1) := by decide +kernel
theorem dX4_layPairs_29 : decode cX4_layPairs 29 = .ok (.aload_n 1, 1) := by decide +kernel
theorem dX4_layPairs_30 : decode cX4_layPairs 30 = .ok (.iload 4, 2) := by decide +kernel
theorem dX4_layPairs_32 : decode cX4_layPairs 32 = .ok (.invokevirtual 80, 3) := by decide +kernel
theorem dX4_layPairs_35 : decode cX4_layPairs 35 = .ok (.ior, 1) := by decide +kernel
theorem dX4_layPairs_36 : decode cX4_layPairs 36 = .ok (.istore_n 3, 1) := by decide +kernel
theorem dX4_layPairs_37 : decode cX4_layPairs 37 = .ok (.iinc 4 1, 3) := by decide +kernel
theorem dX4_layPairs_40 : decode cX4_layPairs 40 = .ok (.goto (-35), 3) := by decide +kernel
theorem dX4_layPairs_43 : decode cX4_layPairs 43 = .ok (.aload_n 0, 1) := by decide +kernel
theorem dX4_layPairs_44 : decode cX4_layPairs 44 = .ok (.getfield 15, 3) := by decide +kernel
theorem dX4_layPairs_47 : decode cX4_layPairs 47 = .ok (.iload_n 2, 1) := by decide +kernel
theorem dX4_layPairs_48 : decode cX4_layPairs 48 = .ok (.aload_n 1, 1) := by decide +kernel
theorem dX4_layPairs_49 : decode cX4_layPairs 49 = .ok (.getfield 75, 3) := by decide +kernel
theorem dX4_layPairs_52 : decode cX4_layPairs 52 = .ok (.iload_n 2, 1) := by decide +kernel
theorem dX4_layPairs_53 : decode cX4_layPairs 53 = .ok (.iaload, 1) := by decide +kernel
theorem dX4_layPairs_54 : decode cX4_layPairs 54 = .ok (.iload_n 3, 1) := by decide +kernel
theorem dX4_layPairs_55 : decode cX4_layPairs 55 = .ok (.iconst (-1), 1) := by decide +kernel
theorem dX4_layPairs_56 : decode cX4_layPairs 56 = .ok (.ixor, 1) := by decide +kernel
theorem dX4_layPairs_57 : decode cX4_layPairs 57 = .ok (.iand, 1) := by decide +kernel
theorem dX4_layPairs_58 : decode cX4_layPairs 58 = .ok (.iastore, 1) := by decide +kernel
theorem dX4_layPairs_59 : decode cX4_layPairs 59 = .ok (.aload_n 0, 1) := by decide +kernel
theorem dX4_layPairs_60 : decode cX4_layPairs 60 = .ok (.dup, 1) := by decide +kernel
theorem dX4_layPairs_61 : decode cX4_layPairs 61 = .ok (.getfield 65, 3) := by decide +kernel
theorem dX4_layPairs_64 : decode cX4_layPairs 64 = .ok (.aload_n 0, 1) := by decide +kernel
theorem dX4_layPairs_65 : decode cX4_layPairs 65 = .ok (.getfield 15, 3) := by decide +kernel
theorem dX4_layPairs_68 : decode cX4_layPairs 68 = .ok (.iload_n 2, 1) := by decide +kernel
theorem dX4_layPairs_69 : decode cX4_layPairs 69 = .ok (.iaload, 1) := by decide +kernel
theorem dX4_layPairs_70 : decode cX4_layPairs 70 = .ok (.ior, 1) := by decide +kernel
theorem dX4_layPairs_71 : decode cX4_layPairs 71 = .ok (.putfield 65, 3) := by decide +kernel
theorem dX4_layPairs_74 : decode cX4_layPairs 74 = .ok (.return_, 1) := by decide +kernel
theorem dX4_layRoom_0 : decode cX4_layRoom 0 = .ok (.aload_n 0, 1) := by decide +kernel
theorem dX4_layRoom_1 : decode cX4_layRoom 1 = .ok (.getfield 18, 3) := by decide +kernel
theorem dX4_layRoom_4 : decode cX4_layRoom 4 = .ok (.iload_n 2, 1) := by decide +kernel
theorem dX4_layRoom_5 : decode cX4_layRoom 5 = .ok (.aload_n 1, 1) := by decide +kernel
theorem dX4_layRoom_6 : decode cX4_layRoom 6 = .ok (.getfield 84, 3) := by decide +kernel
theorem dX4_layRoom_9 : decode cX4_layRoom 9 = .ok (.iload_n 2, 1) := by decide +kernel
theorem dX4_layRoom_10 : decode cX4_layRoom 10 = .ok (.iaload, 1) := by decide +kernel
theorem dX4_layRoom_11 : decode cX4_layRoom 11 = .ok (.iastore, 1) := by decide +kernel
theorem dX4_layRoom_12 : decode cX4_layRoom 12 = .ok (.aload_n 0, 1) := by decide +kernel
theorem dX4_layRoom_13 : decode cX4_layRoom 13 = .ok (.getfield 24, 3) := by decide +kernel
theorem dX4_layRoom_16 : decode cX4_layRoom 16 = .ok (.iload_n 2, 1) := by decide +kernel
theorem dX4_layRoom_17 : decode cX4_layRoom 17 = .ok (.aload_n 1, 1) := by decide +kernel
theorem dX4_layRoom_18 : decode cX4_layRoom 18 = .ok (.getfield 85, 3) := by decide +kernel
theorem dX4_layRoom_21 : decode cX4_layRoom 21 = .ok (.iload_n 2, 1) := by decide +kernel
theorem dX4_layRoom_22 : decode cX4_layRoom 22 = .ok (.iaload, 1) := by decide +kernel
theorem dX4_layRoom_23 : decode cX4_layRoom 23 = .ok (.iastore, 1) := by decide +kernel
theorem dX4_layRoom_24 : decode cX4_layRoom 24 = .ok (.aload_n 1, 1) := by decide +kernel
theorem dX4_layRoom_25 : decode cX4_layRoom 25 = .ok (.getfield 86, 3) := by decide +kernel
theorem dX4_layRoom_28 : decode cX4_layRoom 28 = .ok (.iload_n 2, 1) := by decide +kernel
theorem dX4_layRoom_29 : decode cX4_layRoom 29 = .ok (.iaload, 1) := by decide +kernel
theorem dX4_layRoom_30 : decode cX4_layRoom 30 = .ok (.iconst 4, 1) := by decide +kernel
theorem dX4_layRoom_31 : decode cX4_layRoom 31 = .ok (.if_icmp .ne 12, 3) := by decide +kernel
theorem dX4_layRoom_34 : decode cX4_layRoom 34 = .ok (.aload_n 1, 1) := by decide +kernel
theorem dX4_layRoom_35 : decode cX4_layRoom 35 = .ok (.getfield 89, 3) := by decide +kernel
theorem dX4_layRoom_38 : decode cX4_layRoom 38 = .ok (.iload_n 2, 1) := by decide +kernel
theorem dX4_layRoom_39 : decode cX4_layRoom 39 = .ok (.iaload, 1) := by decide +kernel
theorem dX4_layRoom_40 : decode cX4_layRoom 40 = .ok (.goto 4, 3) := by decide +kernel
theorem dX4_layRoom_43 : decode cX4_layRoom 43 = .ok (.iconst 0, 1) := by decide +kernel
theorem dX4_layRoom_44 : decode cX4_layRoom 44 = .ok (.istore_n 3, 1) := by decide +kernel
theorem dX4_layRoom_45 : decode cX4_layRoom 45 = .ok (.aload_n 0, 1) := by decide +kernel
theorem dX4_layRoom_46 : decode cX4_layRoom 46 = .ok (.getfield 27, 3) := by decide +kernel
theorem dX4_layRoom_49 : decode cX4_layRoom 49 = .ok (.iload_n 2, 1) := by decide +kernel
theorem dX4_layRoom_50 : decode cX4_layRoom 50 = .ok (.aload_n 0, 1) := by decide +kernel
theorem dX4_layRoom_51 : decode cX4_layRoom 51 = .ok (.getfield 18, 3) := by decide +kernel
theorem dX4_layRoom_54 : decode cX4_layRoom 54 = .ok (.iload_n 2, 1) := by decide +kernel
theorem dX4_layRoom_55 : decode cX4_layRoom 55 = .ok (.iaload, 1) := by decide +kernel
theorem dX4_layRoom_56 : decode cX4_layRoom 56 = .ok (.aload_n 0, 1) := by decide +kernel
theorem dX4_layRoom_57 : decode cX4_layRoom 57 = .ok (.getfield 24, 3) := by decide +kernel
theorem dX4_layRoom_60 : decode cX4_layRoom 60 = .ok (.iload_n 2, 1) := by decide +kernel
theorem dX4_layRoom_61 : decode cX4_layRoom 61 = .ok (.iaload, 1) := by decide +kernel
theorem dX4_layRoom_62 : decode cX4_layRoom 62 = .ok (.if_icmp .le 18, 3) := by decide +kernel
theorem dX4_layRoom_65 : decode cX4_layRoom 65 = .ok (.iconst 0, 1) := by decide +kernel
theorem dX4_layRoom_66 : decode cX4_layRoom 66 = .ok (.aload_n 1, 1) := by decide +kernel
theorem dX4_layRoom_67 : decode cX4_layRoom 67 = .ok (.getfield 92, 3) := by decide +kernel
theorem dX4_layRoom_70 : decode cX4_layRoom 70 = .ok (.iload_n 2, 1) := by decide +kernel
theorem dX4_layRoom_71 : decode cX4_layRoom 71 = .ok (.iaload, 1) := by decide +kernel
theorem dX4_layRoom_72 : decode cX4_layRoom 72 = .ok (.iload_n 3, 1) := by decide +kernel
theorem dX4_layRoom_73 : decode cX4_layRoom 73 = .ok (.isub, 1) := by decide +kernel
theorem dX4_layRoom_74 : decode cX4_layRoom 74 = .ok (.invokestatic 95, 3) := by decide +kernel
theorem dX4_layRoom_77 : decode cX4_layRoom 77 = .ok (.goto 4, 3) := by decide +kernel
theorem dX4_layRoom_80 : decode cX4_layRoom 80 = .ok (.iconst 0, 1) := by decide +kernel
theorem dX4_layRoom_81 : decode cX4_layRoom 81 = .ok (.iastore, 1) := by decide +kernel
theorem dX4_layRoom_82 : decode cX4_layRoom 82 = .ok (.aload_n 0, 1) := by decide +kernel
theorem dX4_layRoom_83 : decode cX4_layRoom 83 = .ok (.getfield 18, 3) := by decide +kernel
theorem dX4_layRoom_86 : decode cX4_layRoom 86 = .ok (.iload_n 2, 1) := by decide +kernel
theorem dX4_layRoom_87 : decode cX4_layRoom 87 = .ok (.iaload, 1) := by decide +kernel
theorem dX4_layRoom_88 : decode cX4_layRoom 88 = .ok (.aload_n 1, 1) := by decide +kernel
theorem dX4_layRoom_89 : decode cX4_layRoom 89 = .ok (.getfield 89, 3) := by decide +kernel
theorem dX4_layRoom_92 : decode cX4_layRoom 92 = .ok (.iload_n 2, 1) := by decide +kernel
theorem dX4_layRoom_93 : decode cX4_layRoom 93 = .ok (.iaload, 1) := by decide +kernel
theorem dX4_layRoom_94 : decode cX4_layRoom 94 = .ok (.isub, 1) := by decide +kernel
theorem dX4_layRoom_95 : decode cX4_layRoom 95 = .ok (.istore 4, 2) := by decide +kernel
theorem dX4_layRoom_97 : decode cX4_layRoom 97 = .ok (.aload_n 1, 1) := by decide +kernel
theorem dX4_layRoom_98 : decode cX4_layRoom 98 = .ok (.getfield 86, 3) := by decide +kernel
theorem dX4_layRoom_101 : decode cX4_layRoom 101 = .ok (.iload_n 2, 1) := by decide +kernel
theorem dX4_layRoom_102 : decode cX4_layRoom 102 = .ok (.iaload, 1) := by decide +kernel
theorem dX4_layRoom_103 : decode cX4_layRoom 103 = .ok (.iconst 2, 1) := by decide +kernel
theorem dX4_layRoom_104 : decode cX4_layRoom 104 = .ok (.if_icmp .ne 18, 3) := by decide +kernel
theorem dX4_layRoom_107 : decode cX4_layRoom 107 = .ok (.iload 4, 2) := by decide +kernel
theorem dX4_layRoom_109 : decode cX4_layRoom 109 = .ok (.aload_n 0, 1) := by decide +kernel
theorem dX4_layRoom_110 : decode cX4_layRoom 110 = .ok (.getfield 24, 3) := by decide +kernel
theorem dX4_layRoom_113 : decode cX4_layRoom 113 = .ok (.iload_n 2, 1) := by decide +kernel
theorem dX4_layRoom_114 : decode cX4_layRoom 114 = .ok (.iaload, 1) := by decide +kernel
theorem dX4_layRoom_115 : decode cX4_layRoom 115 = .ok (.if_icmp .le 7, 3) := by decide +kernel
theorem dX4_layRoom_118 : decode cX4_layRoom 118 = .ok (.iconst 1, 1) := by decide +kernel
theorem dX4_layRoom_119 : decode cX4_layRoom 119 = .ok (.goto 4, 3) := by decide +kernel
theorem dX4_layRoom_122 : decode cX4_layRoom 122 = .ok (.iconst 0, 1) := by decide +kernel
theorem dX4_layRoom_123 : decode cX4_layRoom 123 = .ok (.istore 5, 2) := by decide +kernel
theorem dX4_layRoom_125 : decode cX4_layRoom 125 = .ok (.aload_n 0, 1) := by decide +kernel
theorem dX4_layRoom_126 : decode cX4_layRoom 126 = .ok (.getfield 21, 3) := by decide +kernel
theorem dX4_layRoom_129 : decode cX4_layRoom 129 = .ok (.iload_n 2, 1) := by decide +kernel
theorem dX4_layRoom_130 : decode cX4_layRoom 130 = .ok (.iload 5, 2) := by decide +kernel
theorem dX4_layRoom_132 : decode cX4_layRoom 132 = .ok (.ifCond .eq 8, 3) := by decide +kernel
theorem dX4_layRoom_135 : decode cX4_layRoom 135 = .ok (.iload 4, 2) := by decide +kernel
theorem dX4_layRoom_137 : decode cX4_layRoom 137 = .ok (.goto 9, 3) := by decide +kernel
theorem dX4_layRoom_140 : decode cX4_layRoom 140 = .ok (.aload_n 0, 1) := by decide +kernel
theorem dX4_layRoom_141 : decode cX4_layRoom 141 = .ok (.getfield 24, 3) := by decide +kernel
theorem dX4_layRoom_144 : decode cX4_layRoom 144 = .ok (.iload_n 2, 1) := by decide +kernel
theorem dX4_layRoom_145 : decode cX4_layRoom 145 = .ok (.iaload, 1) := by decide +kernel
theorem dX4_layRoom_146 : decode cX4_layRoom 146 = .ok (.iastore, 1) := by decide +kernel
theorem dX4_layRoom_147 : decode cX4_layRoom 147 = .ok (.aload_n 0, 1) := by decide +kernel
theorem dX4_layRoom_148 : decode cX4_layRoom 148 = .ok (.getfield 30, 3) := by decide +kernel
theorem dX4_layRoom_151 : decode cX4_layRoom 151 = .ok (.iload_n 2, 1) := by decide +kernel
theorem dX4_layRoom_152 : decode cX4_layRoom 152 = .ok (.aload_n 0, 1) := by decide +kernel
theorem dX4_layRoom_153 : decode cX4_layRoom 153 = .ok (.getfield 27, 3) := by decide +kernel
theorem dX4_layRoom_156 : decode cX4_layRoom 156 = .ok (.iload_n 2, 1) := by decide +kernel
theorem dX4_layRoom_157 : decode cX4_layRoom 157 = .ok (.iaload, 1) := by decide +kernel
theorem dX4_layRoom_158 : decode cX4_layRoom 158 = .ok (.iload 5, 2) := by decide +kernel
theorem dX4_layRoom_160 : decode cX4_layRoom 160 = .ok (.ifCond .eq 12, 3) := by decide +kernel
theorem dX4_layRoom_163 : decode cX4_layRoom 163 = .ok (.aload_n 1, 1) := by decide +kernel
theorem dX4_layRoom_164 : decode cX4_layRoom 164 = .ok (.getfield 101, 3) := by decide +kernel
theorem dX4_layRoom_167 : decode cX4_layRoom 167 = .ok (.iload_n 2, 1) := by decide +kernel
theorem dX4_layRoom_168 : decode cX4_layRoom 168 = .ok (.iaload, 1) := by decide +kernel
theorem dX4_layRoom_169 : decode cX4_layRoom 169 = .ok (.goto 4, 3) := by decide +kernel
theorem dX4_layRoom_172 : decode cX4_layRoom 172 = .ok (.iconst 0, 1) := by decide +kernel
theorem dX4_layRoom_173 : decode cX4_layRoom 173 = .ok (.iadd, 1) := by decide +kernel
theorem dX4_layRoom_174 : decode cX4_layRoom 174 = .ok (.iastore, 1) := by decide +kernel
theorem dX4_layRoom_175 : decode cX4_layRoom 175 = .ok (.return_, 1) := by decide +kernel
theorem dX4_spanOn_0 : decode cX4_spanOn 0 = .ok (.aload_n 0, 1) := by decide +kernel
theorem dX4_spanOn_1 : decode cX4_spanOn 1 = .ok (.getfield 33, 3) := by decide +kernel
theorem dX4_spanOn_4 : decode cX4_spanOn 4 = .ok (.iload_n 1, 1) := by decide +kernel
theorem dX4_spanOn_5 : decode cX4_spanOn 5 = .ok (.iaload, 1) := by decide +kernel
theorem dX4_spanOn_6 : decode cX4_spanOn 6 = .ok (.aload_n 0, 1) := by decide +kernel
theorem dX4_spanOn_7 : decode cX4_spanOn 7 = .ok (.getfield 27, 3) := by decide +kernel
theorem dX4_spanOn_10 : decode cX4_spanOn 10 = .ok (.iload_n 1, 1) := by decide +kernel
theorem dX4_spanOn_11 : decode cX4_spanOn 11 = .ok (.iaload, 1) := by decide +kernel
theorem dX4_spanOn_12 : decode cX4_spanOn 12 = .ok (.if_icmp .ge 10, 3) := by decide +kernel
theorem dX4_spanOn_15 : decode cX4_spanOn 15 = .ok (.aload_n 0, 1) := by decide +kernel
theorem dX4_spanOn_16 : decode cX4_spanOn 16 = .ok (.getfield 18, 3) := by decide +kernel
theorem dX4_spanOn_19 : decode cX4_spanOn 19 = .ok (.iload_n 1, 1) := by decide +kernel
theorem dX4_spanOn_20 : decode cX4_spanOn 20 = .ok (.iaload, 1) := by decide +kernel
theorem dX4_spanOn_21 : decode cX4_spanOn 21 = .ok (.ireturn, 1) := by decide +kernel
theorem dX4_spanOn_22 : decode cX4_spanOn 22 = .ok (.aload_n 0, 1) := by decide +kernel
theorem dX4_spanOn_23 : decode cX4_spanOn 23 = .ok (.getfield 33, 3) := by decide +kernel
theorem dX4_spanOn_26 : decode cX4_spanOn 26 = .ok (.iload_n 1, 1) := by decide +kernel
theorem dX4_spanOn_27 : decode cX4_spanOn 27 = .ok (.iaload, 1) := by decide +kernel
theorem dX4_spanOn_28 : decode cX4_spanOn 28 = .ok (.aload_n 0, 1) := by decide +kernel
theorem dX4_spanOn_29 : decode cX4_spanOn 29 = .ok (.getfield 30, 3) := by decide +kernel
theorem dX4_spanOn_32 : decode cX4_spanOn 32 = .ok (.iload_n 1, 1) := by decide +kernel
theorem dX4_spanOn_33 : decode cX4_spanOn 33 = .ok (.iaload, 1) := by decide +kernel
theorem dX4_spanOn_34 : decode cX4_spanOn 34 = .ok (.if_icmp .ge 12, 3) := by decide +kernel
theorem dX4_spanOn_37 : decode cX4_spanOn 37 = .ok (.aload_n 0, 1) := by decide +kernel
theorem dX4_spanOn_38 : decode cX4_spanOn 38 = .ok (.getfield 21, 3) := by decide +kernel
theorem dX4_spanOn_41 : decode cX4_spanOn 41 = .ok (.iload_n 1, 1) := by decide +kernel
theorem dX4_spanOn_42 : decode cX4_spanOn 42 = .ok (.iaload, 1) := by decide +kernel
theorem dX4_spanOn_43 : decode cX4_spanOn 43 = .ok (.goto 9, 3) := by decide +kernel
theorem dX4_spanOn_46 : decode cX4_spanOn 46 = .ok (.aload_n 0, 1) := by decide +kernel
theorem dX4_spanOn_47 : decode cX4_spanOn 47 = .ok (.getfield 24, 3) := by decide +kernel
theorem dX4_spanOn_50 : decode cX4_spanOn 50 = .ok (.iload_n 1, 1) := by decide +kernel
theorem dX4_spanOn_51 : decode cX4_spanOn 51 = .ok (.iaload, 1) := by decide +kernel
theorem dX4_spanOn_52 : decode cX4_spanOn 52 = .ok (.ireturn, 1) := by decide +kernel
theorem dX4_roomOn_0 : decode cX4_roomOn 0 = .ok (.aload_n 0, 1) := by decide +kernel
theorem dX4_roomOn_1 : decode cX4_roomOn 1 = .ok (.getfield 33, 3) := by decide +kernel
theorem dX4_roomOn_4 : decode cX4_roomOn 4 = .ok (.iload_n 1, 1) := by decide +kernel
theorem dX4_roomOn_5 : decode cX4_roomOn 5 = .ok (.iaload, 1) := by decide +kernel
theorem dX4_roomOn_6 : decode cX4_roomOn 6 = .ok (.aload_n 0, 1) := by decide +kernel
theorem dX4_roomOn_7 : decode cX4_roomOn 7 = .ok (.getfield 27, 3) := by decide +kernel
theorem dX4_roomOn_10 : decode cX4_roomOn 10 = .ok (.iload_n 1, 1) := by decide +kernel
theorem dX4_roomOn_11 : decode cX4_roomOn 11 = .ok (.iaload, 1) := by decide +kernel
theorem dX4_roomOn_12 : decode cX4_roomOn 12 = .ok (.if_icmp .ge 17, 3) := by decide +kernel
theorem dX4_roomOn_15 : decode cX4_roomOn 15 = .ok (.aload_n 0, 1) := by decide +kernel
theorem dX4_roomOn_16 : decode cX4_roomOn 16 = .ok (.getfield 27, 3) := by decide +kernel
theorem dX4_roomOn_19 : decode cX4_roomOn 19 = .ok (.iload_n 1, 1) := by decide +kernel
theorem dX4_roomOn_20 : decode cX4_roomOn 20 = .ok (.iaload, 1) := by decide +kernel
theorem dX4_roomOn_21 : decode cX4_roomOn 21 = .ok (.aload_n 0, 1) := by decide +kernel
theorem dX4_roomOn_22 : decode cX4_roomOn 22 = .ok (.getfield 33, 3) := by decide +kernel
theorem dX4_roomOn_25 : decode cX4_roomOn 25 = .ok (.iload_n 1, 1) := by decide +kernel
theorem dX4_roomOn_26 : decode cX4_roomOn 26 = .ok (.iaload, 1) := by decide +kernel
theorem dX4_roomOn_27 : decode cX4_roomOn 27 = .ok (.isub, 1) := by decide +kernel
theorem dX4_roomOn_28 : decode cX4_roomOn 28 = .ok (.ireturn, 1) := by decide +kernel
theorem dX4_roomOn_29 : decode cX4_roomOn 29 = .ok (.aload_n 0, 1) := by decide +kernel
theorem dX4_roomOn_30 : decode cX4_roomOn 30 = .ok (.getfield 33, 3) := by decide +kernel
theorem dX4_roomOn_33 : decode cX4_roomOn 33 = .ok (.iload_n 1, 1) := by decide +kernel
theorem dX4_roomOn_34 : decode cX4_roomOn 34 = .ok (.iaload, 1) := by decide +kernel
theorem dX4_roomOn_35 : decode cX4_roomOn 35 = .ok (.aload_n 0, 1) := by decide +kernel
theorem dX4_roomOn_36 : decode cX4_roomOn 36 = .ok (.getfield 30, 3) := by decide +kernel
theorem dX4_roomOn_39 : decode cX4_roomOn 39 = .ok (.iload_n 1, 1) := by decide +kernel
theorem dX4_roomOn_40 : decode cX4_roomOn 40 = .ok (.iaload, 1) := by decide +kernel
theorem dX4_roomOn_41 : decode cX4_roomOn 41 = .ok (.if_icmp .ge 19, 3) := by decide +kernel
theorem dX4_roomOn_44 : decode cX4_roomOn 44 = .ok (.aload_n 0, 1) := by decide +kernel
theorem dX4_roomOn_45 : decode cX4_roomOn 45 = .ok (.getfield 30, 3) := by decide +kernel
theorem dX4_roomOn_48 : decode cX4_roomOn 48 = .ok (.iload_n 1, 1) := by decide +kernel
theorem dX4_roomOn_49 : decode cX4_roomOn 49 = .ok (.iaload, 1) := by decide +kernel
theorem dX4_roomOn_50 : decode cX4_roomOn 50 = .ok (.aload_n 0, 1) := by decide +kernel
theorem dX4_roomOn_51 : decode cX4_roomOn 51 = .ok (.getfield 33, 3) := by decide +kernel
theorem dX4_roomOn_54 : decode cX4_roomOn 54 = .ok (.iload_n 1, 1) := by decide +kernel
theorem dX4_roomOn_55 : decode cX4_roomOn 55 = .ok (.iaload, 1) := by decide +kernel
theorem dX4_roomOn_56 : decode cX4_roomOn 56 = .ok (.isub, 1) := by decide +kernel
theorem dX4_roomOn_57 : decode cX4_roomOn 57 = .ok (.goto 5, 3) := by decide +kernel
theorem dX4_roomOn_60 : decode cX4_roomOn 60 = .ok (.ldc 104, 2) := by decide +kernel
theorem dX4_roomOn_62 : decode cX4_roomOn 62 = .ok (.ireturn, 1) := by decide +kernel
theorem dX4_spanOff_0 : decode cX4_spanOff 0 = .ok (.aload_n 0, 1) := by decide +kernel
theorem dX4_spanOff_1 : decode cX4_spanOff 1 = .ok (.getfield 33, 3) := by decide +kernel
theorem dX4_spanOff_4 : decode cX4_spanOff 4 = .ok (.iload_n 1, 1) := by decide +kernel
theorem dX4_spanOff_5 : decode cX4_spanOff 5 = .ok (.iaload, 1) := by decide +kernel
theorem dX4_spanOff_6 : decode cX4_spanOff 6 = .ok (.aload_n 0, 1) := by decide +kernel
theorem dX4_spanOff_7 : decode cX4_spanOff 7 = .ok (.getfield 27, 3) := by decide +kernel
theorem dX4_spanOff_10 : decode cX4_spanOff 10 = .ok (.iload_n 1, 1) := by decide +kernel
theorem dX4_spanOff_11 : decode cX4_spanOff 11 = .ok (.iaload, 1) := by decide +kernel
theorem dX4_spanOff_12 : decode cX4_spanOff 12 = .ok (.if_icmp .gt 10, 3) := by decide +kernel
theorem dX4_spanOff_15 : decode cX4_spanOff 15 = .ok (.aload_n 0, 1) := by decide +kernel
theorem dX4_spanOff_16 : decode cX4_spanOff 16 = .ok (.getfield 18, 3) := by decide +kernel
theorem dX4_spanOff_19 : decode cX4_spanOff 19 = .ok (.iload_n 1, 1) := by decide +kernel
theorem dX4_spanOff_20 : decode cX4_spanOff 20 = .ok (.iaload, 1) := by decide +kernel
theorem dX4_spanOff_21 : decode cX4_spanOff 21 = .ok (.ireturn, 1) := by decide +kernel
theorem dX4_spanOff_22 : decode cX4_spanOff 22 = .ok (.aload_n 0, 1) := by decide +kernel
theorem dX4_spanOff_23 : decode cX4_spanOff 23 = .ok (.getfield 33, 3) := by decide +kernel
theorem dX4_spanOff_26 : decode cX4_spanOff 26 = .ok (.iload_n 1, 1) := by decide +kernel
theorem dX4_spanOff_27 : decode cX4_spanOff 27 = .ok (.iaload, 1) := by decide +kernel
theorem dX4_spanOff_28 : decode cX4_spanOff 28 = .ok (.aload_n 0, 1) := by decide +kernel
theorem dX4_spanOff_29 : decode cX4_spanOff 29 = .ok (.getfield 30, 3) := by decide +kernel
theorem dX4_spanOff_32 : decode cX4_spanOff 32 = .ok (.iload_n 1, 1) := by decide +kernel
theorem dX4_spanOff_33 : decode cX4_spanOff 33 = .ok (.iaload, 1) := by decide +kernel
theorem dX4_spanOff_34 : decode cX4_spanOff 34 = .ok (.if_icmp .gt 12, 3) := by decide +kernel
theorem dX4_spanOff_37 : decode cX4_spanOff 37 = .ok (.aload_n 0, 1) := by decide +kernel
theorem dX4_spanOff_38 : decode cX4_spanOff 38 = .ok (.getfield 21, 3) := by decide +kernel
theorem dX4_spanOff_41 : decode cX4_spanOff 41 = .ok (.iload_n 1, 1) := by decide +kernel
theorem dX4_spanOff_42 : decode cX4_spanOff 42 = .ok (.iaload, 1) := by decide +kernel
theorem dX4_spanOff_43 : decode cX4_spanOff 43 = .ok (.goto 9, 3) := by decide +kernel
theorem dX4_spanOff_46 : decode cX4_spanOff 46 = .ok (.aload_n 0, 1) := by decide +kernel
theorem dX4_spanOff_47 : decode cX4_spanOff 47 = .ok (.getfield 24, 3) := by decide +kernel
theorem dX4_spanOff_50 : decode cX4_spanOff 50 = .ok (.iload_n 1, 1) := by decide +kernel
theorem dX4_spanOff_51 : decode cX4_spanOff 51 = .ok (.iaload, 1) := by decide +kernel
theorem dX4_spanOff_52 : decode cX4_spanOff 52 = .ok (.ireturn, 1) := by decide +kernel
theorem dX4_roomOff_0 : decode cX4_roomOff 0 = .ok (.aload_n 0, 1) := by decide +kernel
theorem dX4_roomOff_1 : decode cX4_roomOff 1 = .ok (.getfield 33, 3) := by decide +kernel
theorem dX4_roomOff_4 : decode cX4_roomOff 4 = .ok (.iload_n 1, 1) := by decide +kernel
theorem dX4_roomOff_5 : decode cX4_roomOff 5 = .ok (.iaload, 1) := by decide +kernel
theorem dX4_roomOff_6 : decode cX4_roomOff 6 = .ok (.aload_n 0, 1) := by decide +kernel
theorem dX4_roomOff_7 : decode cX4_roomOff 7 = .ok (.getfield 27, 3) := by decide +kernel
theorem dX4_roomOff_10 : decode cX4_roomOff 10 = .ok (.iload_n 1, 1) := by decide +kernel
theorem dX4_roomOff_11 : decode cX4_roomOff 11 = .ok (.iaload, 1) := by decide +kernel
theorem dX4_roomOff_12 : decode cX4_roomOff 12 = .ok (.if_icmp .gt 10, 3) := by decide +kernel
theorem dX4_roomOff_15 : decode cX4_roomOff 15 = .ok (.aload_n 0, 1) := by decide +kernel
theorem dX4_roomOff_16 : decode cX4_roomOff 16 = .ok (.getfield 33, 3) := by decide +kernel
theorem dX4_roomOff_19 : decode cX4_roomOff 19 = .ok (.iload_n 1, 1) := by decide +kernel
theorem dX4_roomOff_20 : decode cX4_roomOff 20 = .ok (.iaload, 1) := by decide +kernel
theorem dX4_roomOff_21 : decode cX4_roomOff 21 = .ok (.ireturn, 1) := by decide +kernel
theorem dX4_roomOff_22 : decode cX4_roomOff 22 = .ok (.aload_n 0, 1) := by decide +kernel
theorem dX4_roomOff_23 : decode cX4_roomOff 23 = .ok (.getfield 33, 3) := by decide +kernel
theorem dX4_roomOff_26 : decode cX4_roomOff 26 = .ok (.iload_n 1, 1) := by decide +kernel
theorem dX4_roomOff_27 : decode cX4_roomOff 27 = .ok (.iaload, 1) := by decide +kernel
theorem dX4_roomOff_28 : decode cX4_roomOff 28 = .ok (.aload_n 0, 1) := by decide +kernel
theorem dX4_roomOff_29 : decode cX4_roomOff 29 = .ok (.getfield 33, 3) := by decide +kernel
theorem dX4_roomOff_32 : decode cX4_roomOff 32 = .ok (.iload_n 1, 1) := by decide +kernel
theorem dX4_roomOff_33 : decode cX4_roomOff 33 = .ok (.iaload, 1) := by decide +kernel
theorem dX4_roomOff_34 : decode cX4_roomOff 34 = .ok (.aload_n 0, 1) := by decide +kernel
theorem dX4_roomOff_35 : decode cX4_roomOff 35 = .ok (.getfield 30, 3) := by decide +kernel
theorem dX4_roomOff_38 : decode cX4_roomOff 38 = .ok (.iload_n 1, 1) := by decide +kernel
theorem dX4_roomOff_39 : decode cX4_roomOff 39 = .ok (.iaload, 1) := by decide +kernel
theorem dX4_roomOff_40 : decode cX4_roomOff 40 = .ok (.if_icmp .gt 12, 3) := by decide +kernel
theorem dX4_roomOff_43 : decode cX4_roomOff 43 = .ok (.aload_n 0, 1) := by decide +kernel
theorem dX4_roomOff_44 : decode cX4_roomOff 44 = .ok (.getfield 27, 3) := by decide +kernel
theorem dX4_roomOff_47 : decode cX4_roomOff 47 = .ok (.iload_n 1, 1) := by decide +kernel
theorem dX4_roomOff_48 : decode cX4_roomOff 48 = .ok (.iaload, 1) := by decide +kernel
theorem dX4_roomOff_49 : decode cX4_roomOff 49 = .ok (.goto 9, 3) := by decide +kernel
theorem dX4_roomOff_52 : decode cX4_roomOff 52 = .ok (.aload_n 0, 1) := by decide +kernel
theorem dX4_roomOff_53 : decode cX4_roomOff 53 = .ok (.getfield 30, 3) := by decide +kernel
theorem dX4_roomOff_56 : decode cX4_roomOff 56 = .ok (.iload_n 1, 1) := by decide +kernel
theorem dX4_roomOff_57 : decode cX4_roomOff 57 = .ok (.iaload, 1) := by decide +kernel
theorem dX4_roomOff_58 : decode cX4_roomOff 58 = .ok (.isub, 1) := by decide +kernel
theorem dX4_roomOff_59 : decode cX4_roomOff 59 = .ok (.ireturn, 1) := by decide +kernel
set_option maxRecDepth 20000 in
theorem ggX4_riseFromStart_J7_fill_53178 : GoodIn wsX4_riseFromStart wsJ7_fill_53178 := goodIn_r _ [9] (by decide +kernel) (by decide +kernel)
set_option maxRecDepth 20000 in
theorem gX4_riseFromStart_J7_fill_53178 : GoodIn wsX4_riseFromStart (va_wsS RX4 59 yJ7_fill_53178 wsJ7_fill_53178) := goodIn_app (goodIn_of _ (by decide +kernel)) ggX4_riseFromStart_J7_fill_53178
set_option maxRecDepth 20000 in
theorem ggX4_riseFromStart_X4_rise : GoodIn wsX4_riseFromStart wsX4_rise := goodIn_r _ [14, 15, 16, 17, 13, 18, 1, 19, 20, 2, 3, 4, 5, 21, 22, 23, 24, 25, 26, 27, 28, 29, 30, 31, 32, 33, 34, 35, 36, 37, 38, 39, 40, 41, 42, 43, 44, 45, 46, 47, 48, 49, 50, 51, 52, 53, 54, 55, 56, 57] (by decide +kernel) (by decide +kernel)
set_option maxRecDepth 20000 in
theorem gX4_riseFromStart_X4_rise : GoodIn wsX4_riseFromStart (wsV RX4 105 RX4 yX4_rise wsX4_rise) := goodIn_app (goodIn_of _ (by decide +kernel)) ggX4_riseFromStart_X4_rise
theorem dX4_riseFromStart_0 : decode cX4_riseFromStart 0 = .ok (.aload_n 1, 1) := by decide +kernel
theorem dX4_riseFromStart_1 : decode cX4_riseFromStart 1 = .ok (.iconst 0, 1) := by decide +kernel
theorem dX4_riseFromStart_2 : decode cX4_riseFromStart 2 = .ok (.invokestatic 59, 3) := by decide +kernel
theorem dX4_riseFromStart_5 : decode cX4_riseFromStart 5 = .ok (.aload_n 2, 1) := by decide +kernel
theorem dX4_riseFromStart_6 : decode cX4_riseFromStart 6 = .ok (.iconst 0, 1) := by decide +kernel
theorem dX4_riseFromStart_7 : decode cX4_riseFromStart 7 = .ok (.invokestatic 59, 3) := by decide +kernel
theorem dX4_riseFromStart_10 : decode cX4_riseFromStart 10 = .ok (.aload_n 0, 1) := by decide +kernel
theorem dX4_riseFromStart_11 : decode cX4_riseFromStart 11 = .ok (.aload_n 1, 1) := by decide +kernel
theorem dX4_riseFromStart_12 : decode cX4_riseFromStart 12 = .ok (.aload_n 2, 1) := by decide +kernel
theorem dX4_riseFromStart_13 : decode cX4_riseFromStart 13 = .ok (.invokevirtual 105, 3) := by decide +kernel
theorem dX4_riseFromStart_16 : decode cX4_riseFromStart 16 = .ok (.iconst 0, 1) := by decide +kernel
theorem dX4_riseFromStart_17 : decode cX4_riseFromStart 17 = .ok (.istore_n 3, 1) := by decide +kernel
theorem dX4_riseFromStart_18 : decode cX4_riseFromStart 18 = .ok (.iconst 0, 1) := by decide +kernel
theorem dX4_riseFromStart_19 : decode cX4_riseFromStart 19 = .ok (.istore 4, 2) := by decide +kernel
theorem dX4_riseFromStart_21 : decode cX4_riseFromStart 21 = .ok (.iload 4, 2) := by decide +kernel
theorem dX4_riseFromStart_23 : decode cX4_riseFromStart 23 = .ok (.aload_n 0, 1) := by decide +kernel
theorem dX4_riseFromStart_24 : decode cX4_riseFromStart 24 = .ok (.getfield 54, 3) := by decide +kernel
theorem dX4_riseFromStart_27 : decode cX4_riseFromStart 27 = .ok (.if_icmp .ge 18, 3) := by decide +kernel
theorem dX4_riseFromStart_30 : decode cX4_riseFromStart 30 = .ok (.iload_n 3, 1) := by decide +kernel
theorem dX4_riseFromStart_31 : decode cX4_riseFromStart 31 = .ok (.aload_n 2, 1) := by decide +kernel
theorem dX4_riseFromStart_32 : decode cX4_riseFromStart 32 = .ok (.iload 4, 2) := by decide +kernel
theorem dX4_riseFromStart_34 : decode cX4_riseFromStart 34 = .ok (.iaload, 1) := by decide +kernel
theorem dX4_riseFromStart_35 : decode cX4_riseFromStart 35 = .ok (.invokestatic 95, 3) := by decide +kernel
theorem dX4_riseFromStart_38 : decode cX4_riseFromStart 38 = .ok (.istore_n 3, 1) := by decide +kernel
theorem dX4_riseFromStart_39 : decode cX4_riseFromStart 39 = .ok (.iinc 4 1, 3) := by decide +kernel
theorem dX4_riseFromStart_42 : decode cX4_riseFromStart 42 = .ok (.goto (-21), 3) := by decide +kernel
theorem dX4_riseFromStart_45 : decode cX4_riseFromStart 45 = .ok (.iload_n 3, 1) := by decide +kernel
theorem dX4_riseFromStart_46 : decode cX4_riseFromStart 46 = .ok (.ireturn, 1) := by decide +kernel
set_option maxRecDepth 20000 in
theorem ggX4_riseFromEnd_J7_fill_53178 : GoodIn wsX4_riseFromEnd wsJ7_fill_53178 := goodIn_r _ [7] (by decide +kernel) (by decide +kernel)
set_option maxRecDepth 20000 in
theorem gX4_riseFromEnd_J7_fill_53178 : GoodIn wsX4_riseFromEnd (va_wsS RX4 59 yJ7_fill_53178 wsJ7_fill_53178) := goodIn_app (goodIn_of _ (by decide +kernel)) ggX4_riseFromEnd_J7_fill_53178
set_option maxRecDepth 20000 in
theorem ggX4_riseFromEnd_X4_rise : GoodIn wsX4_riseFromEnd wsX4_rise := goodIn_r _ [12, 13, 14, 15, 11, 16, 2, 17, 18, 19, 20, 21, 22, 23, 24, 25, 26, 27, 28, 29, 30, 31, 32, 33, 34, 35, 36, 37, 38, 39, 40, 41, 42, 43, 44, 45, 46, 47, 48, 49, 50, 51, 52, 53, 54, 55, 56, 57, 58, 59] (by decide +kernel) (by decide +kernel)
set_option maxRecDepth 20000 in
theorem gX4_riseFromEnd_X4_rise : GoodIn wsX4_riseFromEnd (wsV RX4 105 RX4 yX4_rise wsX4_rise) := goodIn_app (goodIn_of _ (by decide +kernel)) ggX4_riseFromEnd_X4_rise
theorem dX4_riseFromEnd_0 : decode cX4_riseFromEnd 0 = .ok (.aload_n 1, 1) := by decide +kernel
theorem dX4_riseFromEnd_1 : decode cX4_riseFromEnd 1 = .ok (.ldc 109, 2) := by decide +kernel
theorem dX4_riseFromEnd_3 : decode cX4_riseFromEnd 3 = .ok (.invokestatic 59, 3) := by decide +kernel
theorem dX4_riseFromEnd_6 : decode cX4_riseFromEnd 6 = .ok (.aload_n 2, 1) := by decide +kernel
theorem dX4_riseFromEnd_7 : decode cX4_riseFromEnd 7 = .ok (.ldc 109, 2) := by decide +kernel
theorem dX4_riseFromEnd_9 : decode cX4_riseFromEnd 9 = .ok (.invokestatic 59, 3) := by decide +kernel
theorem dX4_riseFromEnd_12 : decode cX4_riseFromEnd 12 = .ok (.iconst 0, 1) := by decide +kernel
theorem dX4_riseFromEnd_13 : decode cX4_riseFromEnd 13 = .ok (.istore_n 3, 1) := by decide +kernel
theorem dX4_riseFromEnd_14 : decode cX4_riseFromEnd 14 = .ok (.iconst 0, 1) := by decide +kernel
theorem dX4_riseFromEnd_15 : decode cX4_riseFromEnd 15 = .ok (.istore 4, 2) := by decide +kernel
theorem dX4_riseFromEnd_17 : decode cX4_riseFromEnd 17 = .ok (.iload 4, 2) := by decide +kernel
theorem dX4_riseFromEnd_19 : decode cX4_riseFromEnd 19 = .ok (.aload_n 0, 1) := by decide +kernel
theorem dX4_riseFromEnd_20 : decode cX4_riseFromEnd 20 = .ok (.getfield 54, 3) := by decide +kernel
theorem dX4_riseFromEnd_23 : decode cX4_riseFromEnd 23 = .ok (.if_icmp .ge 26, 3) := by decide +kernel
theorem dX4_riseFromEnd_26 : decode cX4_riseFromEnd 26 = .ok (.aload_n 0, 1) := by decide +kernel
theorem dX4_riseFromEnd_27 : decode cX4_riseFromEnd 27 = .ok (.getfield 39, 3) := by decide +kernel
theorem dX4_riseFromEnd_30 : decode cX4_riseFromEnd 30 = .ok (.iload 4, 2) := by decide +kernel
theorem dX4_riseFromEnd_32 : decode cX4_riseFromEnd 32 = .ok (.iaload, 1) := by decide +kernel
theorem dX4_riseFromEnd_33 : decode cX4_riseFromEnd 33 = .ok (.ifCond .le 10, 3) := by decide +kernel
theorem dX4_riseFromEnd_36 : decode cX4_riseFromEnd 36 = .ok (.aload_n 2, 1) := by decide +kernel
theorem dX4_riseFromEnd_37 : decode cX4_riseFromEnd 37 = .ok (.iload 4, 2) := by decide +kernel
theorem dX4_riseFromEnd_39 : decode cX4_riseFromEnd 39 = .ok (.iconst 0, 1) := by decide +kernel
theorem dX4_riseFromEnd_40 : decode cX4_riseFromEnd 40 = .ok (.iastore, 1) := by decide +kernel
theorem dX4_riseFromEnd_41 : decode cX4_riseFromEnd 41 = .ok (.iconst 1, 1) := by decide +kernel
theorem dX4_riseFromEnd_42 : decode cX4_riseFromEnd 42 = .ok (.istore_n 3, 1) := by decide +kernel
theorem dX4_riseFromEnd_43 : decode cX4_riseFromEnd 43 = .ok (.iinc 4 1, 3) := by decide +kernel
theorem dX4_riseFromEnd_46 : decode cX4_riseFromEnd 46 = .ok (.goto (-29), 3) := by decide +kernel
theorem dX4_riseFromEnd_49 : decode cX4_riseFromEnd 49 = .ok (.iload_n 3, 1) := by decide +kernel
theorem dX4_riseFromEnd_50 : decode cX4_riseFromEnd 50 = .ok (.ifCond .eq 9, 3) := by decide +kernel
theorem dX4_riseFromEnd_53 : decode cX4_riseFromEnd 53 = .ok (.aload_n 0, 1) := by decide +kernel
theorem dX4_riseFromEnd_54 : decode cX4_riseFromEnd 54 = .ok (.aload_n 1, 1) := by decide +kernel
theorem dX4_riseFromEnd_55 : decode cX4_riseFromEnd 55 = .ok (.aload_n 2, 1) := by decide +kernel
theorem dX4_riseFromEnd_56 : decode cX4_riseFromEnd 56 = .ok (.invokevirtual 105, 3) := by decide +kernel
theorem dX4_riseFromEnd_59 : decode cX4_riseFromEnd 59 = .ok (.return_, 1) := by decide +kernel
set_option maxRecDepth 20000 in
theorem ggX4_rise_X4_riseOn : GoodIn wsX4_rise wsX4_riseOn := goodIn_r _ [5, 6, 7, 8, 9, 10, 11, 12, 13, 14, 15, 16, 17, 18, 4, 19, 20, 21, 22, 23, 24, 25, 35, 36, 37, 38, 39, 40, 41, 42, 43, 44, 45, 46, 47, 48, 49] (by decide +kernel) (by decide +kernel)
set_option maxRecDepth 20000 in
theorem gX4_rise_X4_riseOn : GoodIn wsX4_rise (wsV RX4 110 RX4 yX4_riseOn wsX4_riseOn) := goodIn_app (goodIn_of _ (by decide +kernel)) ggX4_rise_X4_riseOn
set_option maxRecDepth 20000 in
theorem ggX4_rise_X4_riseOff : GoodIn wsX4_rise wsX4_riseOff := goodIn_r _ [29, 6, 7, 20, 9, 10, 11, 12, 30, 31, 32, 33, 4, 34, 21, 22, 23, 24, 25, 35, 36, 37, 38, 39, 40, 41, 42, 43, 44, 45, 46, 47, 48, 49] (by decide +kernel) (by decide +kernel)
set_option maxRecDepth 20000 in
theorem gX4_rise_X4_riseOff : GoodIn wsX4_rise (wsV RX4 114 RX4 yX4_riseOff wsX4_riseOff) := goodIn_app (goodIn_of _ (by decide +kernel)) ggX4_rise_X4_riseOff
theorem dX4_rise_0 : decode cX4_rise 0 = .ok (.iconst 1, 1) := by decide +kernel
theorem dX4_rise_1 : decode cX4_rise 1 = .ok (.istore_n 3, 1) := by decide +kernel
theorem dX4_rise_2 : decode cX4_rise 2 = .ok (.iconst 0, 1) := by decide +kernel
theorem dX4_rise_3 : decode cX4_rise 3 = .ok (.istore 4, 2) := by decide +kernel
theorem dX4_rise_5 : decode cX4_rise 5 = .ok (.iload_n 3, 1) := by decide +kernel
theorem dX4_rise_6 : decode cX4_rise 6 = .ok (.ifCond .eq 34, 3) := by decide +kernel
theorem dX4_rise_9 : decode cX4_rise 9 = .ok (.iload 4, 2) := by decide +kernel
theorem dX4_rise_11 : decode cX4_rise 11 = .ok (.bipush 48, 2) := by decide +kernel
theorem dX4_rise_13 : decode cX4_rise 13 = .ok (.if_icmp .ge 27, 3) := by decide +kernel
theorem dX4_rise_16 : decode cX4_rise 16 = .ok (.aload_n 0, 1) := by decide +kernel
theorem dX4_rise_17 : decode cX4_rise 17 = .ok (.aload_n 1, 1) := by decide +kernel
theorem dX4_rise_18 : decode cX4_rise 18 = .ok (.aload_n 2, 1) := by decide +kernel
theorem dX4_rise_19 : decode cX4_rise 19 = .ok (.invokevirtual 110, 3) := by decide +kernel
theorem dX4_rise_22 : decode cX4_rise 22 = .ok (.istore_n 3, 1) := by decide +kernel
theorem dX4_rise_23 : decode cX4_rise 23 = .ok (.aload_n 0, 1) := by decide +kernel
theorem dX4_rise_24 : decode cX4_rise 24 = .ok (.aload_n 1, 1) := by decide +kernel
theorem dX4_rise_25 : decode cX4_rise 25 = .ok (.aload_n 2, 1) := by decide +kernel
theorem dX4_rise_26 : decode cX4_rise 26 = .ok (.invokevirtual 114, 3) := by decide +kernel
theorem dX4_rise_29 : decode cX4_rise 29 = .ok (.ifCond .eq 5, 3) := by decide +kernel
theorem dX4_rise_32 : decode cX4_rise 32 = .ok (.iconst 1, 1) := by decide +kernel
theorem dX4_rise_33 : decode cX4_rise 33 = .ok (.istore_n 3, 1) := by decide +kernel
theorem dX4_rise_34 : decode cX4_rise 34 = .ok (.iinc 4 1, 3) := by decide +kernel
theorem dX4_rise_37 : decode cX4_rise 37 = .ok (.goto (-32), 3) := by decide +kernel
theorem dX4_rise_40 : decode cX4_rise 40 = .ok (.return_, 1) := by decide +kernel
set_option maxRecDepth 20000 in
theorem ggX4_riseOn_X7_hasBit : GoodIn wsX4_riseOn wsX7_hasBit := goodIn_r _ [10] (by decide +kernel) (by decide +kernel)
set_option maxRecDepth 20000 in
theorem gX4_riseOn_X7_hasBit_n76 : GoodIn wsX4_riseOn (wsX7_hasBit) := ggX4_riseOn_X7_hasBit
set_option maxRecDepth 20000 in
theorem ggX4_riseOn_X4_spanOn : GoodIn wsX4_riseOn wsX4_spanOn := goodIn_r _ [15, 16, 17, 18, 19, 20, 21, 22, 23, 24, 25, 26, 27, 28, 29, 30, 31, 32, 33, 34, 35, 36] (by decide +kernel) (by decide +kernel)
set_option maxRecDepth 20000 in
theorem gX4_riseOn_X4_spanOn : GoodIn wsX4_riseOn (wsV RX4 117 RX4 yX4_spanOn wsX4_spanOn) := goodIn_app (goodIn_of _ (by decide +kernel)) ggX4_riseOn_X4_spanOn
theorem dX4_riseOn_0 : decode cX4_riseOn 0 = .ok (.iconst 0, 1) := by decide +kernel
theorem dX4_riseOn_1 : decode cX4_riseOn 1 = .ok (.istore_n 3, 1) := by decide +kernel
theorem dX4_riseOn_2 : decode cX4_riseOn 2 = .ok (.iconst 0, 1) := by decide +kernel
theorem dX4_riseOn_3 : decode cX4_riseOn 3 = .ok (.istore 4, 2) := by decide +kernel
theorem dX4_riseOn_5 : decode cX4_riseOn 5 = .ok (.iload 4, 2) := by decide +kernel
theorem dX4_riseOn_7 : decode cX4_riseOn 7 = .ok (.aload_n 0, 1) := by decide +kernel
theorem dX4_riseOn_8 : decode cX4_riseOn 8 = .ok (.getfield 54, 3) := by decide +kernel
theorem dX4_riseOn_11 : decode cX4_riseOn 11 = .ok (.if_icmp .ge 133, 3) := by decide +kernel
theorem dX4_riseOn_14 : decode cX4_riseOn 14 = .ok (.aload_n 0, 1) := by decide +kernel
theorem dX4_riseOn_15 : decode cX4_riseOn 15 = .ok (.getfield 9, 3) := by decide +kernel
theorem dX4_riseOn_18 : decode cX4_riseOn 18 = .ok (.iload 4, 2) := by decide +kernel
theorem dX4_riseOn_20 : decode cX4_riseOn 20 = .ok (.iaload, 1) := by decide +kernel
theorem dX4_riseOn_21 : decode cX4_riseOn 21 = .ok (.istore 5, 2) := by decide +kernel
theorem dX4_riseOn_23 : decode cX4_riseOn 23 = .ok (.aload_n 1, 1) := by decide +kernel
theorem dX4_riseOn_24 : decode cX4_riseOn 24 = .ok (.iload 5, 2) := by decide +kernel
theorem dX4_riseOn_26 : decode cX4_riseOn 26 = .ok (.iaload, 1) := by decide +kernel
theorem dX4_riseOn_27 : decode cX4_riseOn 27 = .ok (.istore 6, 2) := by decide +kernel
theorem dX4_riseOn_29 : decode cX4_riseOn 29 = .ok (.iconst 0, 1) := by decide +kernel
theorem dX4_riseOn_30 : decode cX4_riseOn 30 = .ok (.istore 7, 2) := by decide +kernel
theorem dX4_riseOn_32 : decode cX4_riseOn 32 = .ok (.iload 7, 2) := by decide +kernel
theorem dX4_riseOn_34 : decode cX4_riseOn 34 = .ok (.iload 4, 2) := by decide +kernel
theorem dX4_riseOn_36 : decode cX4_riseOn 36 = .ok (.if_icmp .ge 44, 3) := by decide +kernel
theorem dX4_riseOn_39 : decode cX4_riseOn 39 = .ok (.aload_n 0, 1) := by decide +kernel
theorem dX4_riseOn_40 : decode cX4_riseOn 40 = .ok (.getfield 9, 3) := by decide +kernel
theorem dX4_riseOn_43 : decode cX4_riseOn 43 = .ok (.iload 7, 2) := by decide +kernel
theorem dX4_riseOn_45 : decode cX4_riseOn 45 = .ok (.iaload, 1) := by decide +kernel
theorem dX4_riseOn_46 : decode cX4_riseOn 46 = .ok (.istore 8, 2) := by decide +kernel
theorem dX4_riseOn_48 : decode cX4_riseOn 48 = .ok (.aload_n 0, 1) := by decide +kernel
theorem dX4_riseOn_49 : decode cX4_riseOn 49 = .ok (.getfield 15, 3) := by decide +kernel
theorem dX4_riseOn_52 : decode cX4_riseOn 52 = .ok (.iload 5, 2) := by decide +kernel
theorem dX4_riseOn_54 : decode cX4_riseOn 54 = .ok (.iaload, 1) := by decide +kernel
theorem dX4_riseOn_55 : decode cX4_riseOn 55 = .ok (.iload 8, 2) := by decide +kernel
theorem dX4_riseOn_57 : decode cX4_riseOn 57 = .ok (.invokestatic 76, 3) := by decide +kernel
theorem dX4_riseOn_60 : decode cX4_riseOn 60 = .ok (.ifCond .eq 14, 3) := by decide +kernel
theorem dX4_riseOn_63 : decode cX4_riseOn 63 = .ok (.iload 6, 2) := by decide +kernel
theorem dX4_riseOn_65 : decode cX4_riseOn 65 = .ok (.aload_n 2, 1) := by decide +kernel
theorem dX4_riseOn_66 : decode cX4_riseOn 66 = .ok (.iload 8, 2) := by decide +kernel
theorem dX4_riseOn_68 : decode cX4_riseOn 68 = .ok (.iaload, 1) := by decide +kernel
theorem dX4_riseOn_69 : decode cX4_riseOn 69 = .ok (.invokestatic 95, 3) := by decide +kernel
theorem dX4_riseOn_72 : decode cX4_riseOn 72 = .ok (.istore 6, 2) := by decide +kernel
theorem dX4_riseOn_74 : decode cX4_riseOn 74 = .ok (.iinc 7 1, 3) := by decide +kernel
theorem dX4_riseOn_77 : decode cX4_riseOn 77 = .ok (.goto (-45), 3) := by decide +kernel
theorem dX4_riseOn_80 : decode cX4_riseOn 80 = .ok (.aload_n 2, 1) := by decide +kernel
theorem dX4_riseOn_81 : decode cX4_riseOn 81 = .ok (.iload 5, 2) := by decide +kernel
theorem dX4_riseOn_83 : decode cX4_riseOn 83 = .ok (.iaload, 1) := by decide +kernel
theorem dX4_riseOn_84 : decode cX4_riseOn 84 = .ok (.iload 6, 2) := by decide +kernel
theorem dX4_riseOn_86 : decode cX4_riseOn 86 = .ok (.aload_n 0, 1) := by decide +kernel
theorem dX4_riseOn_87 : decode cX4_riseOn 87 = .ok (.iload 5, 2) := by decide +kernel
theorem dX4_riseOn_89 : decode cX4_riseOn 89 = .ok (.invokevirtual 117, 3) := by decide +kernel
theorem dX4_riseOn_92 : decode cX4_riseOn 92 = .ok (.iadd, 1) := by decide +kernel
theorem dX4_riseOn_93 : decode cX4_riseOn 93 = .ok (.invokestatic 95, 3) := by decide +kernel
theorem dX4_riseOn_96 : decode cX4_riseOn 96 = .ok (.istore 7, 2) := by decide +kernel
theorem dX4_riseOn_98 : decode cX4_riseOn 98 = .ok (.iload_n 3, 1) := by decide +kernel
theorem dX4_riseOn_99 : decode cX4_riseOn 99 = .ok (.ifCond .ne 21, 3) := by decide +kernel
theorem dX4_riseOn_102 : decode cX4_riseOn 102 = .ok (.iload 6, 2) := by decide +kernel
theorem dX4_riseOn_104 : decode cX4_riseOn 104 = .ok (.aload_n 1, 1) := by decide +kernel
theorem dX4_riseOn_105 : decode cX4_riseOn 105 = .ok (.iload 5, 2) := by decide +kernel
theorem dX4_riseOn_107 : decode cX4_riseOn 107 = .ok (.iaload, 1) := by decide +kernel
theorem dX4_riseOn_108 : decode cX4_riseOn 108 = .ok (.if_icmp .gt 12, 3) := by decide +kernel
theorem dX4_riseOn_111 : decode cX4_riseOn 111 = .ok (.iload 7, 2) := by decide +kernel
theorem dX4_riseOn_113 : decode cX4_riseOn 113 = .ok (.aload_n 2, 1) := by decide +kernel
theorem dX4_riseOn_114 : decode cX4_riseOn 114 = .ok (.iload 5, 2) := by decide +kernel
theorem dX4_riseOn_116 : decode cX4_riseOn 116 = .ok (.iaload, 1) := by decide +kernel
theorem dX4_riseOn_117 : decode cX4_riseOn 117 = .ok (.if_icmp .le 7, 3) := by decide +kernel
theorem dX4_riseOn_120 : decode cX4_riseOn 120 = .ok (.iconst 1, 1) := by decide +kernel
theorem dX4_riseOn_121 : decode cX4_riseOn 121 = .ok (.goto 4, 3) := by decide +kernel
theorem dX4_riseOn_124 : decode cX4_riseOn 124 = .ok (.iconst 0, 1) := by decide +kernel
theorem dX4_riseOn_125 : decode cX4_riseOn 125 = .ok (.istore_n 3, 1) := by decide +kernel
theorem dX4_riseOn_126 : decode cX4_riseOn 126 = .ok (.aload_n 1, 1) := by decide +kernel
theorem dX4_riseOn_127 : decode cX4_riseOn 127 = .ok (.iload 5, 2) := by decide +kernel
theorem dX4_riseOn_129 : decode cX4_riseOn 129 = .ok (.iload 6, 2) := by decide +kernel
theorem dX4_riseOn_131 : decode cX4_riseOn 131 = .ok (.iastore, 1) := by decide +kernel
theorem dX4_riseOn_132 : decode cX4_riseOn 132 = .ok (.aload_n 2, 1) := by decide +kernel
theorem dX4_riseOn_133 : decode cX4_riseOn 133 = .ok (.iload 5, 2) := by decide +kernel
theorem dX4_riseOn_135 : decode cX4_riseOn 135 = .ok (.iload 7, 2) := by decide +kernel
theorem dX4_riseOn_137 : decode cX4_riseOn 137 = .ok (.iastore, 1) := by decide +kernel
theorem dX4_riseOn_138 : decode cX4_riseOn 138 = .ok (.iinc 4 1, 3) := by decide +kernel
theorem dX4_riseOn_141 : decode cX4_riseOn 141 = .ok (.goto (-136), 3) := by decide +kernel
theorem dX4_riseOn_144 : decode cX4_riseOn 144 = .ok (.iload_n 3, 1) := by decide +kernel
theorem dX4_riseOn_145 : decode cX4_riseOn 145 = .ok (.ireturn, 1) := by decide +kernel
set_option maxRecDepth 20000 in
theorem ggX4_riseOff_X4_spanOff : GoodIn wsX4_riseOff wsX4_spanOff := goodIn_r _ [13, 3, 14, 15, 16, 17, 18, 19, 20, 21, 22, 23, 24, 25, 26, 27, 28, 29, 30, 31, 32, 33] (by decide +kernel) (by decide +kernel)
set_option maxRecDepth 20000 in
theorem gX4_riseOff_X4_spanOff : GoodIn wsX4_riseOff (wsV RX4 120 RX4 yX4_spanOff wsX4_spanOff) := goodIn_app (goodIn_of _ (by decide +kernel)) ggX4_riseOff_X4_spanOff
theorem dX4_riseOff_0 : decode cX4_riseOff 0 = .ok (.iconst 0, 1) := by decide +kernel
theorem dX4_riseOff_1 : decode cX4_riseOff 1 = .ok (.istore_n 3, 1) := by decide +kernel
theorem dX4_riseOff_2 : decode cX4_riseOff 2 = .ok (.aload_n 0, 1) := by decide +kernel
theorem dX4_riseOff_3 : decode cX4_riseOff 3 = .ok (.getfield 54, 3) := by decide +kernel
theorem dX4_riseOff_6 : decode cX4_riseOff 6 = .ok (.iconst 1, 1) := by decide +kernel
theorem dX4_riseOff_7 : decode cX4_riseOff 7 = .ok (.isub, 1) := by decide +kernel
theorem dX4_riseOff_8 : decode cX4_riseOff 8 = .ok (.istore 4, 2) := by decide +kernel
theorem dX4_riseOff_10 : decode cX4_riseOff 10 = .ok (.iload 4, 2) := by decide +kernel
theorem dX4_riseOff_12 : decode cX4_riseOff 12 = .ok (.ifCond .lt 131, 3) := by decide +kernel
theorem dX4_riseOff_15 : decode cX4_riseOff 15 = .ok (.aload_n 0, 1) := by decide +kernel
theorem dX4_riseOff_16 : decode cX4_riseOff 16 = .ok (.getfield 9, 3) := by decide +kernel
theorem dX4_riseOff_19 : decode cX4_riseOff 19 = .ok (.iload 4, 2) := by decide +kernel
theorem dX4_riseOff_21 : decode cX4_riseOff 21 = .ok (.iaload, 1) := by decide +kernel
theorem dX4_riseOff_22 : decode cX4_riseOff 22 = .ok (.istore 5, 2) := by decide +kernel
theorem dX4_riseOff_24 : decode cX4_riseOff 24 = .ok (.aload_n 0, 1) := by decide +kernel
theorem dX4_riseOff_25 : decode cX4_riseOff 25 = .ok (.getfield 33, 3) := by decide +kernel
theorem dX4_riseOff_28 : decode cX4_riseOff 28 = .ok (.iload 5, 2) := by decide +kernel
theorem dX4_riseOff_30 : decode cX4_riseOff 30 = .ok (.iaload, 1) := by decide +kernel
theorem dX4_riseOff_31 : decode cX4_riseOff 31 = .ok (.ifCond .le 106, 3) := by decide +kernel
theorem dX4_riseOff_34 : decode cX4_riseOff 34 = .ok (.aload_n 1, 1) := by decide +kernel
theorem dX4_riseOff_35 : decode cX4_riseOff 35 = .ok (.iload 5, 2) := by decide +kernel
theorem dX4_riseOff_37 : decode cX4_riseOff 37 = .ok (.iaload, 1) := by decide +kernel
theorem dX4_riseOff_38 : decode cX4_riseOff 38 = .ok (.aload_n 2, 1) := by decide +kernel
theorem dX4_riseOff_39 : decode cX4_riseOff 39 = .ok (.iload 5, 2) := by decide +kernel
theorem dX4_riseOff_41 : decode cX4_riseOff 41 = .ok (.iaload, 1) := by decide +kernel
theorem dX4_riseOff_42 : decode cX4_riseOff 42 = .ok (.aload_n 0, 1) := by decide +kernel
theorem dX4_riseOff_43 : decode cX4_riseOff 43 = .ok (.iload 5, 2) := by decide +kernel
theorem dX4_riseOff_45 : decode cX4_riseOff 45 = .ok (.invokevirtual 120, 3) := by decide +kernel
theorem dX4_riseOff_48 : decode cX4_riseOff 48 = .ok (.isub, 1) := by decide +kernel
theorem dX4_riseOff_49 : decode cX4_riseOff 49 = .ok (.invokestatic 95, 3) := by decide +kernel
theorem dX4_riseOff_52 : decode cX4_riseOff 52 = .ok (.istore 6, 2) := by decide +kernel
theorem dX4_riseOff_54 : decode cX4_riseOff 54 = .ok (.iload_n 3, 1) := by decide +kernel
theorem dX4_riseOff_55 : decode cX4_riseOff 55 = .ok (.ifCond .ne 12, 3) := by decide +kernel
theorem dX4_riseOff_58 : decode cX4_riseOff 58 = .ok (.iload 6, 2) := by decide +kernel
theorem dX4_riseOff_60 : decode cX4_riseOff 60 = .ok (.aload_n 1, 1) := by decide +kernel
theorem dX4_riseOff_61 : decode cX4_riseOff 61 = .ok (.iload 5, 2) := by decide +kernel
theorem dX4_riseOff_63 : decode cX4_riseOff 63 = .ok (.iaload, 1) := by decide +kernel
theorem dX4_riseOff_64 : decode cX4_riseOff 64 = .ok (.if_icmp .le 7, 3) := by decide +kernel
theorem dX4_riseOff_67 : decode cX4_riseOff 67 = .ok (.iconst 1, 1) := by decide +kernel
theorem dX4_riseOff_68 : decode cX4_riseOff 68 = .ok (.goto 4, 3) := by decide +kernel
theorem dX4_riseOff_71 : decode cX4_riseOff 71 = .ok (.iconst 0, 1) := by decide +kernel
theorem dX4_riseOff_72 : decode cX4_riseOff 72 = .ok (.istore_n 3, 1) := by decide +kernel
theorem dX4_riseOff_73 : decode cX4_riseOff 73 = .ok (.aload_n 1, 1) := by decide +kernel
theorem dX4_riseOff_74 : decode cX4_riseOff 74 = .ok (.iload 5, 2) := by decide +kernel
theorem dX4_riseOff_76 : decode cX4_riseOff 76 = .ok (.iload 6, 2) := by decide +kernel
theorem dX4_riseOff_78 : decode cX4_riseOff 78 = .ok (.iastore, 1) := by decide +kernel
theorem dX4_riseOff_79 : decode cX4_riseOff 79 = .ok (.iconst 0, 1) := by decide +kernel
theorem dX4_riseOff_80 : decode cX4_riseOff 80 = .ok (.istore 7, 2) := by decide +kernel
theorem dX4_riseOff_82 : decode cX4_riseOff 82 = .ok (.iload 7, 2) := by decide +kernel
theorem dX4_riseOff_84 : decode cX4_riseOff 84 = .ok (.iload 4, 2) := by decide +kernel
theorem dX4_riseOff_86 : decode cX4_riseOff 86 = .ok (.if_icmp .ge 51, 3) := by decide +kernel
theorem dX4_riseOff_89 : decode cX4_riseOff 89 = .ok (.aload_n 0, 1) := by decide +kernel
theorem dX4_riseOff_90 : decode cX4_riseOff 90 = .ok (.getfield 9, 3) := by decide +kernel
theorem dX4_riseOff_93 : decode cX4_riseOff 93 = .ok (.iload 7, 2) := by decide +kernel
theorem dX4_riseOff_95 : decode cX4_riseOff 95 = .ok (.iaload, 1) := by decide +kernel
theorem dX4_riseOff_96 : decode cX4_riseOff 96 = .ok (.istore 8, 2) := by decide +kernel
theorem dX4_riseOff_98 : decode cX4_riseOff 98 = .ok (.aload_n 0, 1) := by decide +kernel
theorem dX4_riseOff_99 : decode cX4_riseOff 99 = .ok (.getfield 36, 3) := by decide +kernel
theorem dX4_riseOff_102 : decode cX4_riseOff 102 = .ok (.iload 8, 2) := by decide +kernel
theorem dX4_riseOff_104 : decode cX4_riseOff 104 = .ok (.bipush 12, 2) := by decide +kernel
theorem dX4_riseOff_106 : decode cX4_riseOff 106 = .ok (.imul, 1) := by decide +kernel
theorem dX4_riseOff_107 : decode cX4_riseOff 107 = .ok (.iload 5, 2) := by decide +kernel
theorem dX4_riseOff_109 : decode cX4_riseOff 109 = .ok (.iadd, 1) := by decide +kernel
theorem dX4_riseOff_110 : decode cX4_riseOff 110 = .ok (.iaload, 1) := by decide +kernel
theorem dX4_riseOff_111 : decode cX4_riseOff 111 = .ok (.ifCond .le 20, 3) := by decide +kernel
theorem dX4_riseOff_114 : decode cX4_riseOff 114 = .ok (.aload_n 2, 1) := by decide +kernel
theorem dX4_riseOff_115 : decode cX4_riseOff 115 = .ok (.iload 8, 2) := by decide +kernel
theorem dX4_riseOff_117 : decode cX4_riseOff 117 = .ok (.iaload, 1) := by decide +kernel
theorem dX4_riseOff_118 : decode cX4_riseOff 118 = .ok (.iload 6, 2) := by decide +kernel
theorem dX4_riseOff_120 : decode cX4_riseOff 120 = .ok (.if_icmp .ge 11, 3) := by decide +kernel
theorem dX4_riseOff_123 : decode cX4_riseOff 123 = .ok (.aload_n 2, 1) := by decide +kernel
theorem dX4_riseOff_124 : decode cX4_riseOff 124 = .ok (.iload 8, 2) := by decide +kernel
theorem dX4_riseOff_126 : decode cX4_riseOff 126 = .ok (.iload 6, 2) := by decide +kernel
theorem dX4_riseOff_128 : decode cX4_riseOff 128 = .ok (.iastore, 1) := by decide +kernel
theorem dX4_riseOff_129 : decode cX4_riseOff 129 = .ok (.iconst 1, 1) := by decide +kernel
theorem dX4_riseOff_130 : decode cX4_riseOff 130 = .ok (.istore_n 3, 1) := by decide +kernel
theorem dX4_riseOff_131 : decode cX4_riseOff 131 = .ok (.iinc 7 1, 3) := by decide +kernel
theorem dX4_riseOff_134 : decode cX4_riseOff 134 = .ok (.goto (-52), 3) := by decide +kernel
theorem dX4_riseOff_137 : decode cX4_riseOff 137 = .ok (.iinc 4 (-1), 3) := by decide +kernel
theorem dX4_riseOff_140 : decode cX4_riseOff 140 = .ok (.goto (-130), 3) := by decide +kernel
theorem dX4_riseOff_143 : decode cX4_riseOff 143 = .ok (.iload_n 3, 1) := by decide +kernel
theorem dX4_riseOff_144 : decode cX4_riseOff 144 = .ok (.ireturn, 1) := by decide +kernel
set_option maxRecDepth 20000 in
theorem ggX4_push_X4_findWay : GoodIn wsX4_push wsX4_findWay := goodIn_r _ [6, 7, 8, 9, 10, 11, 12, 13, 14, 15, 16, 17, 18, 19, 5, 20, 21, 22, 23, 24, 25, 26, 27, 28, 29, 30, 31, 32, 33, 34, 35, 36, 37, 38, 39, 40, 41, 42, 43, 44, 45, 46, 77, 78, 79, 80, 81, 82, 83, 84, 85, 86, 87, 88, 89, 90, 91] (by decide +kernel) (by decide +kernel)
set_option maxRecDepth 20000 in
theorem gX4_push_X4_findWay : GoodIn wsX4_push (wsV RX4 123 RX4 yX4_findWay wsX4_findWay) := goodIn_app (goodIn_of _ (by decide +kernel)) ggX4_push_X4_findWay
set_option maxRecDepth 20000 in
theorem ggX4_push_X4_roomOfWay : GoodIn wsX4_push wsX4_roomOfWay := goodIn_r _ [50, 51, 7, 52, 53, 54, 55, 56, 57, 58, 5, 59, 25, 60, 61, 62, 63, 30, 31, 33, 64, 65, 66, 67, 77, 78, 79, 80, 81, 82, 83, 84, 85, 86, 87, 88, 89, 90, 91] (by decide +kernel) (by decide +kernel)
set_option maxRecDepth 20000 in
theorem gX4_push_X4_roomOfWay : GoodIn wsX4_push (wsV RX4 128 RX4 yX4_roomOfWay wsX4_roomOfWay) := goodIn_app (goodIn_of _ (by decide +kernel)) ggX4_push_X4_roomOfWay
set_option maxRecDepth 20000 in
theorem ggX4_push_X4_flowAlong : GoodIn wsX4_push wsX4_flowAlong := goodIn_r _ [71, 7, 72, 73, 74, 75, 5, 76, 30, 25, 77, 78, 79, 80, 81, 82, 83, 84, 85, 86, 87, 88, 89, 90, 91] (by decide +kernel) (by decide +kernel)
set_option maxRecDepth 20000 in
theorem gX4_push_X4_flowAlong : GoodIn wsX4_push (wsV RX4 131 RX4 yX4_flowAlong wsX4_flowAlong) := goodIn_app (goodIn_of _ (by decide +kernel)) ggX4_push_X4_flowAlong
theorem dX4_push_0 : decode cX4_push 0 = .ok (.iconst 0, 1) := by decide +kernel
theorem dX4_push_1 : decode cX4_push 1 = .ok (.istore 4, 2) := by decide +kernel
theorem dX4_push_3 : decode cX4_push 3 = .ok (.aload_n 0, 1) := by decide +kernel
theorem dX4_push_4 : decode cX4_push 4 = .ok (.aload_n 1, 1) := by decide +kernel
theorem dX4_push_5 : decode cX4_push 5 = .ok (.aload_n 2, 1) := by decide +kernel
theorem dX4_push_6 : decode cX4_push 6 = .ok (.iload_n 3, 1) := by decide +kernel
theorem dX4_push_7 : decode cX4_push 7 = .ok (.invokevirtual 123, 3) := by decide +kernel
theorem dX4_push_10 : decode cX4_push 10 = .ok (.istore 5, 2) := by decide +kernel
theorem dX4_push_12 : decode cX4_push 12 = .ok (.iconst 0, 1) := by decide +kernel
theorem dX4_push_13 : decode cX4_push 13 = .ok (.istore 6, 2) := by decide +kernel
theorem dX4_push_15 : decode cX4_push 15 = .ok (.iload 6, 2) := by decide +kernel
theorem dX4_push_17 : decode cX4_push 17 = .ok (.ldc 127, 2) := by decide +kernel
theorem dX4_push_19 : decode cX4_push 19 = .ok (.if_icmp .ge 46, 3) := by decide +kernel
theorem dX4_push_22 : decode cX4_push 22 = .ok (.iload 5, 2) := by decide +kernel
theorem dX4_push_24 : decode cX4_push 24 = .ok (.ifCond .lt 41, 3) := by decide +kernel
theorem dX4_push_27 : decode cX4_push 27 = .ok (.aload_n 0, 1) := by decide +kernel
theorem dX4_push_28 : decode cX4_push 28 = .ok (.iload 5, 2) := by decide +kernel
theorem dX4_push_30 : decode cX4_push 30 = .ok (.invokevirtual 128, 3) := by decide +kernel
theorem dX4_push_33 : decode cX4_push 33 = .ok (.istore 7, 2) := by decide +kernel
theorem dX4_push_35 : decode cX4_push 35 = .ok (.aload_n 0, 1) := by decide +kernel
theorem dX4_push_36 : decode cX4_push 36 = .ok (.iload 5, 2) := by decide +kernel
theorem dX4_push_38 : decode cX4_push 38 = .ok (.iload 7, 2) := by decide +kernel
theorem dX4_push_40 : decode cX4_push 40 = .ok (.invokevirtual 131, 3) := by decide +kernel
theorem dX4_push_43 : decode cX4_push 43 = .ok (.iload 4, 2) := by decide +kernel
theorem dX4_push_45 : decode cX4_push 45 = .ok (.iload 7, 2) := by decide +kernel
theorem dX4_push_47 : decode cX4_push 47 = .ok (.iadd, 1) := by decide +kernel
theorem dX4_push_48 : decode cX4_push 48 = .ok (.istore 4, 2) := by decide +kernel
theorem dX4_push_50 : decode cX4_push 50 = .ok (.aload_n 0, 1) := by decide +kernel
theorem dX4_push_51 : decode cX4_push 51 = .ok (.aload_n 1, 1) := by decide +kernel
theorem dX4_push_52 : decode cX4_push 52 = .ok (.aload_n 2, 1) := by decide +kernel
theorem dX4_push_53 : decode cX4_push 53 = .ok (.iload_n 3, 1) := by decide +kernel
theorem dX4_push_54 : decode cX4_push 54 = .ok (.invokevirtual 123, 3) := by decide +kernel
theorem dX4_push_57 : decode cX4_push 57 = .ok (.istore 5, 2) := by decide +kernel
theorem dX4_push_59 : decode cX4_push 59 = .ok (.iinc 6 1, 3) := by decide +kernel
theorem dX4_push_62 : decode cX4_push 62 = .ok (.goto (-47), 3) := by decide +kernel
theorem dX4_push_65 : decode cX4_push 65 = .ok (.iload 4, 2) := by decide +kernel
theorem dX4_push_67 : decode cX4_push 67 = .ok (.ireturn, 1) := by decide +kernel
set_option maxRecDepth 20000 in
theorem ggX4_findWay_J7_fill_53178 : GoodIn wsX4_findWay wsJ7_fill_53178 := goodIn_r _ [10] (by decide +kernel) (by decide +kernel)
set_option maxRecDepth 20000 in
theorem gX4_findWay_J7_fill_53178 : GoodIn wsX4_findWay (va_wsS RX4 59 yJ7_fill_53178 wsJ7_fill_53178) := goodIn_app (goodIn_of _ (by decide +kernel)) ggX4_findWay_J7_fill_53178
set_option maxRecDepth 20000 in
theorem ggX4_findWay_X4_reach : GoodIn wsX4_findWay wsX4_reach := goodIn_r _ [15, 1, 2, 5, 42, 43, 44, 45, 46, 47, 48, 49, 50, 51, 52, 53, 54, 55, 56] (by decide +kernel) (by decide +kernel)
set_option maxRecDepth 20000 in
theorem gX4_findWay_X4_reach : GoodIn wsX4_findWay (wsV RX4 138 RX4 yX4_reach wsX4_reach) := goodIn_app (goodIn_of _ (by decide +kernel)) ggX4_findWay_X4_reach
set_option maxRecDepth 20000 in
theorem ggX4_findWay_X4_leaveBegin : GoodIn wsX4_findWay wsX4_leaveBegin := goodIn_r _ [19, 3, 20, 21, 22, 23, 14, 24, 25, 26, 27, 28, 29, 30, 11, 12, 13, 15, 1, 2, 5, 42, 43, 44, 45, 46, 47, 48, 49, 50, 51, 52, 53, 54, 55, 56] (by decide +kernel) (by decide +kernel)
set_option maxRecDepth 20000 in
theorem gX4_findWay_X4_leaveBegin : GoodIn wsX4_findWay (wsV RX4 141 RX4 yX4_leaveBegin wsX4_leaveBegin) := goodIn_app (goodIn_of _ (by decide +kernel)) ggX4_findWay_X4_leaveBegin
set_option maxRecDepth 20000 in
theorem ggX4_findWay_X7_hasBit : GoodIn wsX4_findWay wsX7_hasBit := goodIn_r _ [33] (by decide +kernel) (by decide +kernel)
set_option maxRecDepth 20000 in
theorem gX4_findWay_X7_hasBit_n76 : GoodIn wsX4_findWay (wsX7_hasBit) := ggX4_findWay_X7_hasBit
set_option maxRecDepth 20000 in
theorem ggX4_findWay_X4_leaveEnd : GoodIn wsX4_findWay wsX4_leaveEnd := goodIn_r _ [37, 25, 3, 4, 38, 39, 40, 14, 41, 26, 27, 28, 29, 30, 11, 12, 13, 15, 1, 2, 5, 31, 32, 33, 42, 43, 44, 45, 46, 47, 48, 49, 50, 51, 52, 53, 54, 55, 56] (by decide +kernel) (by decide +kernel)
set_option maxRecDepth 20000 in
theorem gX4_findWay_X4_leaveEnd : GoodIn wsX4_findWay (wsV RX4 145 RX4 yX4_leaveEnd wsX4_leaveEnd) := goodIn_app (goodIn_of _ (by decide +kernel)) ggX4_findWay_X4_leaveEnd
theorem dX4_findWay_0 : decode cX4_findWay 0 = .ok (.aload_n 0, 1) := by decide +kernel
theorem dX4_findWay_1 : decode cX4_findWay 1 = .ok (.getfield 42, 3) := by decide +kernel
theorem dX4_findWay_4 : decode cX4_findWay 4 = .ok (.iconst (-1), 1) := by decide +kernel
theorem dX4_findWay_5 : decode cX4_findWay 5 = .ok (.invokestatic 59, 3) := by decide +kernel
theorem dX4_findWay_8 : decode cX4_findWay 8 = .ok (.aload_n 0, 1) := by decide +kernel
theorem dX4_findWay_9 : decode cX4_findWay 9 = .ok (.iconst 0, 1) := by decide +kernel
theorem dX4_findWay_10 : decode cX4_findWay 10 = .ok (.putfield 135, 3) := by decide +kernel
theorem dX4_findWay_13 : decode cX4_findWay 13 = .ok (.iconst 0, 1) := by decide +kernel
theorem dX4_findWay_14 : decode cX4_findWay 14 = .ok (.istore 4, 2) := by decide +kernel
theorem dX4_findWay_16 : decode cX4_findWay 16 = .ok (.iload 4, 2) := by decide +kernel
theorem dX4_findWay_18 : decode cX4_findWay 18 = .ok (.aload_n 0, 1) := by decide +kernel
theorem dX4_findWay_19 : decode cX4_findWay 19 = .ok (.getfield 54, 3) := by decide +kernel
theorem dX4_findWay_22 : decode cX4_findWay 22 = .ok (.if_icmp .ge 36, 3) := by decide +kernel
theorem dX4_findWay_25 : decode cX4_findWay 25 = .ok (.aload_n 0, 1) := by decide +kernel
theorem dX4_findWay_26 : decode cX4_findWay 26 = .ok (.getfield 15, 3) := by decide +kernel
theorem dX4_findWay_29 : decode cX4_findWay 29 = .ok (.iload 4, 2) := by decide +kernel
theorem dX4_findWay_31 : decode cX4_findWay 31 = .ok (.iaload, 1) := by decide +kernel
theorem dX4_findWay_32 : decode cX4_findWay 32 = .ok (.ifCond .ne 20, 3) := by decide +kernel
theorem dX4_findWay_35 : decode cX4_findWay 35 = .ok (.aload_n 1, 1) := by decide +kernel
theorem dX4_findWay_36 : decode cX4_findWay 36 = .ok (.iload 4, 2) := by decide +kernel
theorem dX4_findWay_38 : decode cX4_findWay 38 = .ok (.iaload, 1) := by decide +kernel
theorem dX4_findWay_39 : decode cX4_findWay 39 = .ok (.ifCond .ne 13, 3) := by decide +kernel
theorem dX4_findWay_42 : decode cX4_findWay 42 = .ok (.aload_n 0, 1) := by decide +kernel
theorem dX4_findWay_43 : decode cX4_findWay 43 = .ok (.iconst 2, 1) := by decide +kernel
theorem dX4_findWay_44 : decode cX4_findWay 44 = .ok (.iload 4, 2) := by decide +kernel
theorem dX4_findWay_46 : decode cX4_findWay 46 = .ok (.imul, 1) := by decide +kernel
theorem dX4_findWay_47 : decode cX4_findWay 47 = .ok (.bipush (-2), 2) := by decide +kernel
theorem dX4_findWay_49 : decode cX4_findWay 49 = .ok (.invokevirtual 138, 3) := by decide +kernel
theorem dX4_findWay_52 : decode cX4_findWay 52 = .ok (.iinc 4 1, 3) := by decide +kernel
theorem dX4_findWay_55 : decode cX4_findWay 55 = .ok (.goto (-39), 3) := by decide +kernel
theorem dX4_findWay_58 : decode cX4_findWay 58 = .ok (.iconst 0, 1) := by decide +kernel
theorem dX4_findWay_59 : decode cX4_findWay 59 = .ok (.istore 4, 2) := by decide +kernel
theorem dX4_findWay_61 : decode cX4_findWay 61 = .ok (.iload 4, 2) := by decide +kernel
theorem dX4_findWay_63 : decode cX4_findWay 63 = .ok (.aload_n 0, 1) := by decide +kernel
theorem dX4_findWay_64 : decode cX4_findWay 64 = .ok (.getfield 135, 3) := by decide +kernel
theorem dX4_findWay_67 : decode cX4_findWay 67 = .ok (.if_icmp .ge 74, 3) := by decide +kernel
theorem dX4_findWay_70 : decode cX4_findWay 70 = .ok (.aload_n 0, 1) := by decide +kernel
theorem dX4_findWay_71 : decode cX4_findWay 71 = .ok (.getfield 45, 3) := by decide +kernel
theorem dX4_findWay_74 : decode cX4_findWay 74 = .ok (.iload 4, 2) := by decide +kernel
theorem dX4_findWay_76 : decode cX4_findWay 76 = .ok (.iaload, 1) := by decide +kernel
theorem dX4_findWay_77 : decode cX4_findWay 77 = .ok (.iconst 2, 1) := by decide +kernel
theorem dX4_findWay_78 : decode cX4_findWay 78 = .ok (.idiv, 1) := by decide +kernel
theorem dX4_findWay_79 : decode cX4_findWay 79 = .ok (.istore 5, 2) := by decide +kernel
theorem dX4_findWay_81 : decode cX4_findWay 81 = .ok (.aload_n 0, 1) := by decide +kernel
theorem dX4_findWay_82 : decode cX4_findWay 82 = .ok (.getfield 45, 3) := by decide +kernel
theorem dX4_findWay_85 : decode cX4_findWay 85 = .ok (.iload 4, 2) := by decide +kernel
theorem dX4_findWay_87 : decode cX4_findWay 87 = .ok (.iaload, 1) := by decide +kernel
theorem dX4_findWay_88 : decode cX4_findWay 88 = .ok (.iconst 2, 1) := by decide +kernel
theorem dX4_findWay_89 : decode cX4_findWay 89 = .ok (.irem, 1) := by decide +kernel
theorem dX4_findWay_90 : decode cX4_findWay 90 = .ok (.ifCond .ne 14, 3) := by decide +kernel
theorem dX4_findWay_93 : decode cX4_findWay 93 = .ok (.aload_n 0, 1) := by decide +kernel
theorem dX4_findWay_94 : decode cX4_findWay 94 = .ok (.iload 5, 2) := by decide +kernel
theorem dX4_findWay_96 : decode cX4_findWay 96 = .ok (.aload_n 1, 1) := by decide +kernel
theorem dX4_findWay_97 : decode cX4_findWay 97 = .ok (.aload_n 2, 1) := by decide +kernel
theorem dX4_findWay_98 : decode cX4_findWay 98 = .ok (.invokevirtual 141, 3) := by decide +kernel
theorem dX4_findWay_101 : decode cX4_findWay 101 = .ok (.goto 34, 3) := by decide +kernel
theorem dX4_findWay_104 : decode cX4_findWay 104 = .ok (.aload_n 2, 1) := by decide +kernel
theorem dX4_findWay_105 : decode cX4_findWay 105 = .ok (.iload 5, 2) := by decide +kernel
theorem dX4_findWay_107 : decode cX4_findWay 107 = .ok (.iaload, 1) := by decide +kernel
theorem dX4_findWay_108 : decode cX4_findWay 108 = .ok (.iload_n 3, 1) := by decide +kernel
theorem dX4_findWay_109 : decode cX4_findWay 109 = .ok (.if_icmp .ne 18, 3) := by decide +kernel
theorem dX4_findWay_112 : decode cX4_findWay 112 = .ok (.aload_n 0, 1) := by decide +kernel
theorem dX4_findWay_113 : decode cX4_findWay 113 = .ok (.getfield 65, 3) := by decide +kernel
theorem dX4_findWay_116 : decode cX4_findWay 116 = .ok (.iload 5, 2) := by decide +kernel
theorem dX4_findWay_118 : decode cX4_findWay 118 = .ok (.invokestatic 76, 3) := by decide +kernel
theorem dX4_findWay_121 : decode cX4_findWay 121 = .ok (.ifCond .ne 6, 3) := by decide +kernel
theorem dX4_findWay_124 : decode cX4_findWay 124 = .ok (.iload 5, 2) := by decide +kernel
theorem dX4_findWay_126 : decode cX4_findWay 126 = .ok (.ireturn, 1) := by decide +kernel
theorem dX4_findWay_127 : decode cX4_findWay 127 = .ok (.aload_n 0, 1) := by decide +kernel
theorem dX4_findWay_128 : decode cX4_findWay 128 = .ok (.iload 5, 2) := by decide +kernel
theorem dX4_findWay_130 : decode cX4_findWay 130 = .ok (.aload_n 1, 1) := by decide +kernel
theorem dX4_findWay_131 : decode cX4_findWay 131 = .ok (.aload_n 2, 1) := by decide +kernel
theorem dX4_findWay_132 : decode cX4_findWay 132 = .ok (.invokevirtual 145, 3) := by decide +kernel
theorem dX4_findWay_135 : decode cX4_findWay 135 = .ok (.iinc 4 1, 3) := by decide +kernel
theorem dX4_findWay_138 : decode cX4_findWay 138 = .ok (.goto (-77), 3) := by decide +kernel
theorem dX4_findWay_141 : decode cX4_findWay 141 = .ok (.iconst (-1), 1) := by decide +kernel
theorem dX4_findWay_142 : decode cX4_findWay 142 = .ok (.ireturn, 1) := by decide +kernel
theorem dX4_reach_0 : decode cX4_reach 0 = .ok (.aload_n 0, 1) := by decide +kernel
theorem dX4_reach_1 : decode cX4_reach 1 = .ok (.getfield 42, 3) := by decide +kernel
theorem dX4_reach_4 : decode cX4_reach 4 = .ok (.iload_n 1, 1) := by decide +kernel
theorem dX4_reach_5 : decode cX4_reach 5 = .ok (.iaload, 1) := by decide +kernel
theorem dX4_reach_6 : decode cX4_reach 6 = .ok (.iconst (-1), 1) := by decide +kernel
theorem dX4_reach_7 : decode cX4_reach 7 = .ok (.if_icmp .ne 39, 3) := by decide +kernel
theorem dX4_reach_10 : decode cX4_reach 10 = .ok (.aload_n 0, 1) := by decide +kernel
theorem dX4_reach_11 : decode cX4_reach 11 = .ok (.getfield 135, 3) := by decide +kernel
theorem dX4_reach_14 : decode cX4_reach 14 = .ok (.bipush 24, 2) := by decide +kernel
theorem dX4_reach_16 : decode cX4_reach 16 = .ok (.if_icmp .ge 30, 3) := by decide +kernel
theorem dX4_reach_19 : decode cX4_reach 19 = .ok (.aload_n 0, 1) := by decide +kernel
theorem dX4_reach_20 : decode cX4_reach 20 = .ok (.getfield 42, 3) := by decide +kernel
theorem dX4_reach_23 : decode cX4_reach 23 = .ok (.iload_n 1, 1) := by decide +kernel
theorem dX4_reach_24 : decode cX4_reach 24 = .ok (.iload_n 2, 1) := by decide +kernel
theorem dX4_reach_25 : decode cX4_reach 25 = .ok (.iastore, 1) := by decide +kernel
theorem dX4_reach_26 : decode cX4_reach 26 = .ok (.aload_n 0, 1) := by decide +kernel
theorem dX4_reach_27 : decode cX4_reach 27 = .ok (.getfield 45, 3) := by decide +kernel
theorem dX4_reach_30 : decode cX4_reach 30 = .ok (.aload_n 0, 1) := by decide +kernel
theorem dX4_reach_31 : decode cX4_reach 31 = .ok (.getfield 135, 3) := by decide +kernel
theorem dX4_reach_34 : decode cX4_reach 34 = .ok (.iload_n 1, 1) := by decide +kernel
theorem dX4_reach_35 : decode cX4_reach 35 = .ok (.iastore, 1) := by decide +kernel
theorem dX4_reach_36 : decode cX4_reach 36 = .ok (.aload_n 0, 1) := by decide +kernel
theorem dX4_reach_37 : decode cX4_reach 37 = .ok (.dup, 1) := by decide +kernel
theorem dX4_reach_38 : decode cX4_reach 38 = .ok (.getfield 135, 3) := by decide +kernel
theorem dX4_reach_41 : decode cX4_reach 41 = .ok (.iconst 1, 1) := by decide +kernel
theorem dX4_reach_42 : decode cX4_reach 42 = .ok (.iadd, 1) := by decide +kernel
theorem dX4_reach_43 : decode cX4_reach 43 = .ok (.putfield 135, 3) := by decide +kernel
theorem dX4_reach_46 : decode cX4_reach 46 = .ok (.return_, 1) := by decide +kernel
set_option maxRecDepth 20000 in
theorem ggX4_leaveBegin_X4_spanOn : GoodIn wsX4_leaveBegin wsX4_spanOn := goodIn_r _ [7, 8, 9, 10, 11, 12, 13, 21, 22, 23, 24, 25, 26, 27, 28, 29, 30, 31, 32, 33, 34, 35] (by decide +kernel) (by decide +kernel)
set_option maxRecDepth 20000 in
theorem gX4_leaveBegin_X4_spanOn : GoodIn wsX4_leaveBegin (wsV RX4 117 RX4 yX4_spanOn wsX4_spanOn) := goodIn_app (goodIn_of _ (by decide +kernel)) ggX4_leaveBegin_X4_spanOn
set_option maxRecDepth 20000 in
theorem ggX4_leaveBegin_X4_reach : GoodIn wsX4_leaveBegin wsX4_reach := goodIn_r _ [17, 18, 19, 20, 21, 22, 23, 24, 25, 26, 27, 28, 29, 30, 31, 32, 33, 34, 35] (by decide +kernel) (by decide +kernel)
set_option maxRecDepth 20000 in
theorem gX4_leaveBegin_X4_reach : GoodIn wsX4_leaveBegin (wsV RX4 138 RX4 yX4_reach wsX4_reach) := goodIn_app (goodIn_of _ (by decide +kernel)) ggX4_leaveBegin_X4_reach
theorem dX4_leaveBegin_0 : decode cX4_leaveBegin 0 = .ok (.aload_n 2, 1) := by decide +kernel
theorem dX4_leaveBegin_1 : decode cX4_leaveBegin 1 = .ok (.iload_n 1, 1) := by decide +kernel
theorem dX4_leaveBegin_2 : decode cX4_leaveBegin 2 = .ok (.iaload, 1) := by decide +kernel
theorem dX4_leaveBegin_3 : decode cX4_leaveBegin 3 = .ok (.aload_n 0, 1) := by decide +kernel
theorem dX4_leaveBegin_4 : decode cX4_leaveBegin 4 = .ok (.iload_n 1, 1) := by decide +kernel
theorem dX4_leaveBegin_5 : decode cX4_leaveBegin 5 = .ok (.invokevirtual 117, 3) := by decide +kernel
theorem dX4_leaveBegin_8 : decode cX4_leaveBegin 8 = .ok (.iadd, 1) := by decide +kernel
theorem dX4_leaveBegin_9 : decode cX4_leaveBegin 9 = .ok (.aload_n 3, 1) := by decide +kernel
theorem dX4_leaveBegin_10 : decode cX4_leaveBegin 10 = .ok (.iload_n 1, 1) := by decide +kernel
theorem dX4_leaveBegin_11 : decode cX4_leaveBegin 11 = .ok (.iaload, 1) := by decide +kernel
theorem dX4_leaveBegin_12 : decode cX4_leaveBegin 12 = .ok (.if_icmp .ne 15, 3) := by decide +kernel
theorem dX4_leaveBegin_15 : decode cX4_leaveBegin 15 = .ok (.aload_n 0, 1) := by decide +kernel
theorem dX4_leaveBegin_16 : decode cX4_leaveBegin 16 = .ok (.iconst 2, 1) := by decide +kernel
theorem dX4_leaveBegin_17 : decode cX4_leaveBegin 17 = .ok (.iload_n 1, 1) := by decide +kernel
theorem dX4_leaveBegin_18 : decode cX4_leaveBegin 18 = .ok (.imul, 1) := by decide +kernel
theorem dX4_leaveBegin_19 : decode cX4_leaveBegin 19 = .ok (.iconst 1, 1) := by decide +kernel
theorem dX4_leaveBegin_20 : decode cX4_leaveBegin 20 = .ok (.iadd, 1) := by decide +kernel
theorem dX4_leaveBegin_21 : decode cX4_leaveBegin 21 = .ok (.iconst 2, 1) := by decide +kernel
theorem dX4_leaveBegin_22 : decode cX4_leaveBegin 22 = .ok (.iload_n 1, 1) := by decide +kernel
theorem dX4_leaveBegin_23 : decode cX4_leaveBegin 23 = .ok (.imul, 1) := by decide +kernel
theorem dX4_leaveBegin_24 : decode cX4_leaveBegin 24 = .ok (.invokevirtual 138, 3) := by decide +kernel
theorem dX4_leaveBegin_27 : decode cX4_leaveBegin 27 = .ok (.iconst 0, 1) := by decide +kernel
theorem dX4_leaveBegin_28 : decode cX4_leaveBegin 28 = .ok (.istore 4, 2) := by decide +kernel
theorem dX4_leaveBegin_30 : decode cX4_leaveBegin 30 = .ok (.iload 4, 2) := by decide +kernel
theorem dX4_leaveBegin_32 : decode cX4_leaveBegin 32 = .ok (.aload_n 0, 1) := by decide +kernel
theorem dX4_leaveBegin_33 : decode cX4_leaveBegin 33 = .ok (.getfield 54, 3) := by decide +kernel
theorem dX4_leaveBegin_36 : decode cX4_leaveBegin 36 = .ok (.if_icmp .ge 47, 3) := by decide +kernel
theorem dX4_leaveBegin_39 : decode cX4_leaveBegin 39 = .ok (.aload_n 0, 1) := by decide +kernel
theorem dX4_leaveBegin_40 : decode cX4_leaveBegin 40 = .ok (.getfield 36, 3) := by decide +kernel
theorem dX4_leaveBegin_43 : decode cX4_leaveBegin 43 = .ok (.iload 4, 2) := by decide +kernel
theorem dX4_leaveBegin_45 : decode cX4_leaveBegin 45 = .ok (.bipush 12, 2) := by decide +kernel
theorem dX4_leaveBegin_47 : decode cX4_leaveBegin 47 = .ok (.imul, 1) := by decide +kernel
theorem dX4_leaveBegin_48 : decode cX4_leaveBegin 48 = .ok (.iload_n 1, 1) := by decide +kernel
theorem dX4_leaveBegin_49 : decode cX4_leaveBegin 49 = .ok (.iadd, 1) := by decide +kernel
theorem dX4_leaveBegin_50 : decode cX4_leaveBegin 50 = .ok (.iaload, 1) := by decide +kernel
theorem dX4_leaveBegin_51 : decode cX4_leaveBegin 51 = .ok (.ifCond .le 26, 3) := by decide +kernel
theorem dX4_leaveBegin_54 : decode cX4_leaveBegin 54 = .ok (.aload_n 3, 1) := by decide +kernel
theorem dX4_leaveBegin_55 : decode cX4_leaveBegin 55 = .ok (.iload 4, 2) := by decide +kernel
theorem dX4_leaveBegin_57 : decode cX4_leaveBegin 57 = .ok (.iaload, 1) := by decide +kernel
theorem dX4_leaveBegin_58 : decode cX4_leaveBegin 58 = .ok (.aload_n 2, 1) := by decide +kernel
theorem dX4_leaveBegin_59 : decode cX4_leaveBegin 59 = .ok (.iload_n 1, 1) := by decide +kernel
theorem dX4_leaveBegin_60 : decode cX4_leaveBegin 60 = .ok (.iaload, 1) := by decide +kernel
theorem dX4_leaveBegin_61 : decode cX4_leaveBegin 61 = .ok (.if_icmp .ne 16, 3) := by decide +kernel
theorem dX4_leaveBegin_64 : decode cX4_leaveBegin 64 = .ok (.aload_n 0, 1) := by decide +kernel
theorem dX4_leaveBegin_65 : decode cX4_leaveBegin 65 = .ok (.iconst 2, 1) := by decide +kernel
theorem dX4_leaveBegin_66 : decode cX4_leaveBegin 66 = .ok (.iload 4, 2) := by decide +kernel
theorem dX4_leaveBegin_68 : decode cX4_leaveBegin 68 = .ok (.imul, 1) := by decide +kernel
theorem dX4_leaveBegin_69 : decode cX4_leaveBegin 69 = .ok (.iconst 1, 1) := by decide +kernel
theorem dX4_leaveBegin_70 : decode cX4_leaveBegin 70 = .ok (.iadd, 1) := by decide +kernel
theorem dX4_leaveBegin_71 : decode cX4_leaveBegin 71 = .ok (.iconst 2, 1) := by decide +kernel
theorem dX4_leaveBegin_72 : decode cX4_leaveBegin 72 = .ok (.iload_n 1, 1) := by decide +kernel
theorem dX4_leaveBegin_73 : decode cX4_leaveBegin 73 = .ok (.imul, 1) := by decide +kernel
theorem dX4_leaveBegin_74 : decode cX4_leaveBegin 74 = .ok (.invokevirtual 138, 3) := by decide +kernel
theorem dX4_leaveBegin_77 : decode cX4_leaveBegin 77 = .ok (.iinc 4 1, 3) := by decide +kernel
theorem dX4_leaveBegin_80 : decode cX4_leaveBegin 80 = .ok (.goto (-50), 3) := by decide +kernel
theorem dX4_leaveBegin_83 : decode cX4_leaveBegin 83 = .ok (.return_, 1) := by decide +kernel
set_option maxRecDepth 20000 in
theorem ggX4_leaveEnd_X4_spanOff : GoodIn wsX4_leaveEnd wsX4_spanOff := goodIn_r _ [8, 1, 9, 10, 11, 12, 13, 24, 25, 26, 27, 28, 29, 30, 31, 32, 33, 34, 35, 36, 37, 38] (by decide +kernel) (by decide +kernel)
set_option maxRecDepth 20000 in
theorem gX4_leaveEnd_X4_spanOff : GoodIn wsX4_leaveEnd (wsV RX4 120 RX4 yX4_spanOff wsX4_spanOff) := goodIn_app (goodIn_of _ (by decide +kernel)) ggX4_leaveEnd_X4_spanOff
set_option maxRecDepth 20000 in
theorem ggX4_leaveEnd_X4_reach : GoodIn wsX4_leaveEnd wsX4_reach := goodIn_r _ [17, 18, 19, 20, 24, 25, 26, 27, 28, 29, 30, 31, 32, 33, 34, 35, 36, 37, 38] (by decide +kernel) (by decide +kernel)
set_option maxRecDepth 20000 in
theorem gX4_leaveEnd_X4_reach : GoodIn wsX4_leaveEnd (wsV RX4 138 RX4 yX4_reach wsX4_reach) := goodIn_app (goodIn_of _ (by decide +kernel)) ggX4_leaveEnd_X4_reach
set_option maxRecDepth 20000 in
theorem ggX4_leaveEnd_X7_hasBit : GoodIn wsX4_leaveEnd wsX7_hasBit := goodIn_r _ [23] (by decide +kernel) (by decide +kernel)
set_option maxRecDepth 20000 in
theorem gX4_leaveEnd_X7_hasBit_n76 : GoodIn wsX4_leaveEnd (wsX7_hasBit) := ggX4_leaveEnd_X7_hasBit
theorem dX4_leaveEnd_0 : decode cX4_leaveEnd 0 = .ok (.aload_n 0, 1) := by decide +kernel
theorem dX4_leaveEnd_1 : decode cX4_leaveEnd 1 = .ok (.getfield 33, 3) := by decide +kernel
theorem dX4_leaveEnd_4 : decode cX4_leaveEnd 4 = .ok (.iload_n 1, 1) := by decide +kernel
theorem dX4_leaveEnd_5 : decode cX4_leaveEnd 5 = .ok (.iaload, 1) := by decide +kernel
theorem dX4_leaveEnd_6 : decode cX4_leaveEnd 6 = .ok (.ifCond .le 30, 3) := by decide +kernel
theorem dX4_leaveEnd_9 : decode cX4_leaveEnd 9 = .ok (.aload_n 2, 1) := by decide +kernel
theorem dX4_leaveEnd_10 : decode cX4_leaveEnd 10 = .ok (.iload_n 1, 1) := by decide +kernel
theorem dX4_leaveEnd_11 : decode cX4_leaveEnd 11 = .ok (.iaload, 1) := by decide +kernel
theorem dX4_leaveEnd_12 : decode cX4_leaveEnd 12 = .ok (.aload_n 0, 1) := by decide +kernel
theorem dX4_leaveEnd_13 : decode cX4_leaveEnd 13 = .ok (.iload_n 1, 1) := by decide +kernel
theorem dX4_leaveEnd_14 : decode cX4_leaveEnd 14 = .ok (.invokevirtual 120, 3) := by decide +kernel
theorem dX4_leaveEnd_17 : decode cX4_leaveEnd 17 = .ok (.iadd, 1) := by decide +kernel
theorem dX4_leaveEnd_18 : decode cX4_leaveEnd 18 = .ok (.aload_n 3, 1) := by decide +kernel
theorem dX4_leaveEnd_19 : decode cX4_leaveEnd 19 = .ok (.iload_n 1, 1) := by decide +kernel
theorem dX4_leaveEnd_20 : decode cX4_leaveEnd 20 = .ok (.iaload, 1) := by decide +kernel
theorem dX4_leaveEnd_21 : decode cX4_leaveEnd 21 = .ok (.if_icmp .ne 15, 3) := by decide +kernel
theorem dX4_leaveEnd_24 : decode cX4_leaveEnd 24 = .ok (.aload_n 0, 1) := by decide +kernel
theorem dX4_leaveEnd_25 : decode cX4_leaveEnd 25 = .ok (.iconst 2, 1) := by decide +kernel
theorem dX4_leaveEnd_26 : decode cX4_leaveEnd 26 = .ok (.iload_n 1, 1) := by decide +kernel
theorem dX4_leaveEnd_27 : decode cX4_leaveEnd 27 = .ok (.imul, 1) := by decide +kernel
theorem dX4_leaveEnd_28 : decode cX4_leaveEnd 28 = .ok (.iconst 2, 1) := by decide +kernel
theorem dX4_leaveEnd_29 : decode cX4_leaveEnd 29 = .ok (.iload_n 1, 1) := by decide +kernel
theorem dX4_leaveEnd_30 : decode cX4_leaveEnd 30 = .ok (.imul, 1) := by decide +kernel
theorem dX4_leaveEnd_31 : decode cX4_leaveEnd 31 = .ok (.iconst 1, 1) := by decide +kernel
theorem dX4_leaveEnd_32 : decode cX4_leaveEnd 32 = .ok (.iadd, 1) := by decide +kernel
theorem dX4_leaveEnd_33 : decode cX4_leaveEnd 33 = .ok (.invokevirtual 138, 3) := by decide +kernel
theorem dX4_leaveEnd_36 : decode cX4_leaveEnd 36 = .ok (.iconst 0, 1) := by decide +kernel
theorem dX4_leaveEnd_37 : decode cX4_leaveEnd 37 = .ok (.istore 4, 2) := by decide +kernel
theorem dX4_leaveEnd_39 : decode cX4_leaveEnd 39 = .ok (.iload 4, 2) := by decide +kernel
theorem dX4_leaveEnd_41 : decode cX4_leaveEnd 41 = .ok (.aload_n 0, 1) := by decide +kernel
theorem dX4_leaveEnd_42 : decode cX4_leaveEnd 42 = .ok (.getfield 54, 3) := by decide +kernel
theorem dX4_leaveEnd_45 : decode cX4_leaveEnd 45 = .ok (.if_icmp .ge 46, 3) := by decide +kernel
theorem dX4_leaveEnd_48 : decode cX4_leaveEnd 48 = .ok (.aload_n 0, 1) := by decide +kernel
theorem dX4_leaveEnd_49 : decode cX4_leaveEnd 49 = .ok (.getfield 15, 3) := by decide +kernel
theorem dX4_leaveEnd_52 : decode cX4_leaveEnd 52 = .ok (.iload 4, 2) := by decide +kernel
theorem dX4_leaveEnd_54 : decode cX4_leaveEnd 54 = .ok (.iaload, 1) := by decide +kernel
theorem dX4_leaveEnd_55 : decode cX4_leaveEnd 55 = .ok (.iload_n 1, 1) := by decide +kernel
theorem dX4_leaveEnd_56 : decode cX4_leaveEnd 56 = .ok (.invokestatic 76, 3) := by decide +kernel
theorem dX4_leaveEnd_59 : decode cX4_leaveEnd 59 = .ok (.ifCond .eq 26, 3) := by decide +kernel
theorem dX4_leaveEnd_62 : decode cX4_leaveEnd 62 = .ok (.aload_n 2, 1) := by decide +kernel
theorem dX4_leaveEnd_63 : decode cX4_leaveEnd 63 = .ok (.iload 4, 2) := by decide +kernel
theorem dX4_leaveEnd_65 : decode cX4_leaveEnd 65 = .ok (.iaload, 1) := by decide +kernel
theorem dX4_leaveEnd_66 : decode cX4_leaveEnd 66 = .ok (.aload_n 3, 1) := by decide +kernel
theorem dX4_leaveEnd_67 : decode cX4_leaveEnd 67 = .ok (.iload_n 1, 1) := by decide +kernel
theorem dX4_leaveEnd_68 : decode cX4_leaveEnd 68 = .ok (.iaload, 1) := by decide +kernel
theorem dX4_leaveEnd_69 : decode cX4_leaveEnd 69 = .ok (.if_icmp .ne 16, 3) := by decide +kernel
theorem dX4_leaveEnd_72 : decode cX4_leaveEnd 72 = .ok (.aload_n 0, 1) := by decide +kernel
theorem dX4_leaveEnd_73 : decode cX4_leaveEnd 73 = .ok (.iconst 2, 1) := by decide +kernel
theorem dX4_leaveEnd_74 : decode cX4_leaveEnd 74 = .ok (.iload 4, 2) := by decide +kernel
theorem dX4_leaveEnd_76 : decode cX4_leaveEnd 76 = .ok (.imul, 1) := by decide +kernel
theorem dX4_leaveEnd_77 : decode cX4_leaveEnd 77 = .ok (.iconst 2, 1) := by decide +kernel
theorem dX4_leaveEnd_78 : decode cX4_leaveEnd 78 = .ok (.iload_n 1, 1) := by decide +kernel
theorem dX4_leaveEnd_79 : decode cX4_leaveEnd 79 = .ok (.imul, 1) := by decide +kernel
theorem dX4_leaveEnd_80 : decode cX4_leaveEnd 80 = .ok (.iconst 1, 1) := by decide +kernel
theorem dX4_leaveEnd_81 : decode cX4_leaveEnd 81 = .ok (.iadd, 1) := by decide +kernel
theorem dX4_leaveEnd_82 : decode cX4_leaveEnd 82 = .ok (.invokevirtual 138, 3) := by decide +kernel
theorem dX4_leaveEnd_85 : decode cX4_leaveEnd 85 = .ok (.iinc 4 1, 3) := by decide +kernel
theorem dX4_leaveEnd_88 : decode cX4_leaveEnd 88 = .ok (.goto (-49), 3) := by decide +kernel
theorem dX4_leaveEnd_91 : decode cX4_leaveEnd 91 = .ok (.return_, 1) := by decide +kernel
set_option maxRecDepth 20000 in
theorem ggX4_roomOfWay_X4_roomBetween : GoodIn wsX4_roomOfWay wsX4_roomBetween := goodIn_r _ [11, 12, 1, 13, 14, 15, 10, 16, 17, 18, 19, 20, 21, 22, 23, 24, 25, 26, 27, 28, 29, 30, 31, 32, 33, 34, 35, 36, 37, 38] (by decide +kernel) (by decide +kernel)
set_option maxRecDepth 20000 in
theorem gX4_roomOfWay_X4_roomBetween : GoodIn wsX4_roomOfWay (wsV RX4 148 RX4 yX4_roomBetween wsX4_roomBetween) := goodIn_app (goodIn_of _ (by decide +kernel)) ggX4_roomOfWay_X4_roomBetween
theorem dX4_roomOfWay_0 : decode cX4_roomOfWay 0 = .ok (.ldc 104, 2) := by decide +kernel
theorem dX4_roomOfWay_2 : decode cX4_roomOfWay 2 = .ok (.istore_n 2, 1) := by decide +kernel
theorem dX4_roomOfWay_3 : decode cX4_roomOfWay 3 = .ok (.iconst 2, 1) := by decide +kernel
theorem dX4_roomOfWay_4 : decode cX4_roomOfWay 4 = .ok (.iload_n 1, 1) := by decide +kernel
theorem dX4_roomOfWay_5 : decode cX4_roomOfWay 5 = .ok (.imul, 1) := by decide +kernel
theorem dX4_roomOfWay_6 : decode cX4_roomOfWay 6 = .ok (.iconst 1, 1) := by decide +kernel
theorem dX4_roomOfWay_7 : decode cX4_roomOfWay 7 = .ok (.iadd, 1) := by decide +kernel
theorem dX4_roomOfWay_8 : decode cX4_roomOfWay 8 = .ok (.istore_n 3, 1) := by decide +kernel
theorem dX4_roomOfWay_9 : decode cX4_roomOfWay 9 = .ok (.iconst 0, 1) := by decide +kernel
theorem dX4_roomOfWay_10 : decode cX4_roomOfWay 10 = .ok (.istore 4, 2) := by decide +kernel
theorem dX4_roomOfWay_12 : decode cX4_roomOfWay 12 = .ok (.iload 4, 2) := by decide +kernel
theorem dX4_roomOfWay_14 : decode cX4_roomOfWay 14 = .ok (.bipush 24, 2) := by decide +kernel
theorem dX4_roomOfWay_16 : decode cX4_roomOfWay 16 = .ok (.if_icmp .ge 41, 3) := by decide +kernel
theorem dX4_roomOfWay_19 : decode cX4_roomOfWay 19 = .ok (.aload_n 0, 1) := by decide +kernel
theorem dX4_roomOfWay_20 : decode cX4_roomOfWay 20 = .ok (.getfield 42, 3) := by decide +kernel
theorem dX4_roomOfWay_23 : decode cX4_roomOfWay 23 = .ok (.iload_n 3, 1) := by decide +kernel
theorem dX4_roomOfWay_24 : decode cX4_roomOfWay 24 = .ok (.iaload, 1) := by decide +kernel
theorem dX4_roomOfWay_25 : decode cX4_roomOfWay 25 = .ok (.ifCond .lt 32, 3) := by decide +kernel
theorem dX4_roomOfWay_28 : decode cX4_roomOfWay 28 = .ok (.iload_n 2, 1) := by decide +kernel
theorem dX4_roomOfWay_29 : decode cX4_roomOfWay 29 = .ok (.aload_n 0, 1) := by decide +kernel
theorem dX4_roomOfWay_30 : decode cX4_roomOfWay 30 = .ok (.aload_n 0, 1) := by decide +kernel
theorem dX4_roomOfWay_31 : decode cX4_roomOfWay 31 = .ok (.getfield 42, 3) := by decide +kernel
theorem dX4_roomOfWay_34 : decode cX4_roomOfWay 34 = .ok (.iload_n 3, 1) := by decide +kernel
theorem dX4_roomOfWay_35 : decode cX4_roomOfWay 35 = .ok (.iaload, 1) := by decide +kernel
theorem dX4_roomOfWay_36 : decode cX4_roomOfWay 36 = .ok (.iload_n 3, 1) := by decide +kernel
theorem dX4_roomOfWay_37 : decode cX4_roomOfWay 37 = .ok (.invokevirtual 148, 3) := by decide +kernel
theorem dX4_roomOfWay_40 : decode cX4_roomOfWay 40 = .ok (.invokestatic 151, 3) := by decide +kernel
theorem dX4_roomOfWay_43 : decode cX4_roomOfWay 43 = .ok (.istore_n 2, 1) := by decide +kernel
theorem dX4_roomOfWay_44 : decode cX4_roomOfWay 44 = .ok (.aload_n 0, 1) := by decide +kernel
theorem dX4_roomOfWay_45 : decode cX4_roomOfWay 45 = .ok (.getfield 42, 3) := by decide +kernel
theorem dX4_roomOfWay_48 : decode cX4_roomOfWay 48 = .ok (.iload_n 3, 1) := by decide +kernel
theorem dX4_roomOfWay_49 : decode cX4_roomOfWay 49 = .ok (.iaload, 1) := by decide +kernel
theorem dX4_roomOfWay_50 : decode cX4_roomOfWay 50 = .ok (.istore_n 3, 1) := by decide +kernel
theorem dX4_roomOfWay_51 : decode cX4_roomOfWay 51 = .ok (.iinc 4 1, 3) := by decide +kernel
theorem dX4_roomOfWay_54 : decode cX4_roomOfWay 54 = .ok (.goto (-42), 3) := by decide +kernel
theorem dX4_roomOfWay_57 : decode cX4_roomOfWay 57 = .ok (.iload_n 2, 1) := by decide +kernel
theorem dX4_roomOfWay_58 : decode cX4_roomOfWay 58 = .ok (.ireturn, 1) := by decide +kernel
set_option maxRecDepth 20000 in
theorem ggX4_roomBetween_X4_roomOn : GoodIn wsX4_roomBetween wsX4_roomOn := goodIn_r _ [7, 8, 9, 10, 2, 15, 16, 17, 18, 19, 20, 21, 22, 23, 24, 25, 26, 27, 28, 29] (by decide +kernel) (by decide +kernel)
set_option maxRecDepth 20000 in
theorem gX4_roomBetween_X4_roomOn : GoodIn wsX4_roomBetween (wsV RX4 154 RX4 yX4_roomOn wsX4_roomOn) := goodIn_app (goodIn_of _ (by decide +kernel)) ggX4_roomBetween_X4_roomOn
set_option maxRecDepth 20000 in
theorem ggX4_roomBetween_X4_roomOff : GoodIn wsX4_roomBetween wsX4_roomOff := goodIn_r _ [14, 8, 9, 10, 15, 16, 17, 18, 19, 20, 21, 22, 23, 24, 25, 26, 27, 28, 29] (by decide +kernel) (by decide +kernel)
set_option maxRecDepth 20000 in
theorem gX4_roomBetween_X4_roomOff : GoodIn wsX4_roomBetween (wsV RX4 157 RX4 yX4_roomOff wsX4_roomOff) := goodIn_app (goodIn_of _ (by decide +kernel)) ggX4_roomBetween_X4_roomOff
theorem dX4_roomBetween_0 : decode cX4_roomBetween 0 = .ok (.iload_n 1, 1) := by decide +kernel
theorem dX4_roomBetween_1 : decode cX4_roomBetween 1 = .ok (.iconst 2, 1) := by decide +kernel
theorem dX4_roomBetween_2 : decode cX4_roomBetween 2 = .ok (.idiv, 1) := by decide +kernel
theorem dX4_roomBetween_3 : decode cX4_roomBetween 3 = .ok (.istore_n 3, 1) := by decide +kernel
theorem dX4_roomBetween_4 : decode cX4_roomBetween 4 = .ok (.iload_n 1, 1) := by decide +kernel
theorem dX4_roomBetween_5 : decode cX4_roomBetween 5 = .ok (.iconst 2, 1) := by decide +kernel
theorem dX4_roomBetween_6 : decode cX4_roomBetween 6 = .ok (.irem, 1) := by decide +kernel
theorem dX4_roomBetween_7 : decode cX4_roomBetween 7 = .ok (.ifCond .ne 7, 3) := by decide +kernel
theorem dX4_roomBetween_10 : decode cX4_roomBetween 10 = .ok (.iconst 1, 1) := by decide +kernel
theorem dX4_roomBetween_11 : decode cX4_roomBetween 11 = .ok (.goto 4, 3) := by decide +kernel
theorem dX4_roomBetween_14 : decode cX4_roomBetween 14 = .ok (.iconst 0, 1) := by decide +kernel
theorem dX4_roomBetween_15 : decode cX4_roomBetween 15 = .ok (.istore 4, 2) := by decide +kernel
theorem dX4_roomBetween_17 : decode cX4_roomBetween 17 = .ok (.iload_n 2, 1) := by decide +kernel
theorem dX4_roomBetween_18 : decode cX4_roomBetween 18 = .ok (.iconst 2, 1) := by decide +kernel
theorem dX4_roomBetween_19 : decode cX4_roomBetween 19 = .ok (.idiv, 1) := by decide +kernel
theorem dX4_roomBetween_20 : decode cX4_roomBetween 20 = .ok (.iload_n 3, 1) := by decide +kernel
theorem dX4_roomBetween_21 : decode cX4_roomBetween 21 = .ok (.if_icmp .ne 22, 3) := by decide +kernel
theorem dX4_roomBetween_24 : decode cX4_roomBetween 24 = .ok (.iload 4, 2) := by decide +kernel
theorem dX4_roomBetween_26 : decode cX4_roomBetween 26 = .ok (.ifCond .eq 11, 3) := by decide +kernel
theorem dX4_roomBetween_29 : decode cX4_roomBetween 29 = .ok (.aload_n 0, 1) := by decide +kernel
theorem dX4_roomBetween_30 : decode cX4_roomBetween 30 = .ok (.iload_n 3, 1) := by decide +kernel
theorem dX4_roomBetween_31 : decode cX4_roomBetween 31 = .ok (.invokevirtual 154, 3) := by decide +kernel
theorem dX4_roomBetween_34 : decode cX4_roomBetween 34 = .ok (.goto 8, 3) := by decide +kernel
theorem dX4_roomBetween_37 : decode cX4_roomBetween 37 = .ok (.aload_n 0, 1) := by decide +kernel
theorem dX4_roomBetween_38 : decode cX4_roomBetween 38 = .ok (.iload_n 3, 1) := by decide +kernel
theorem dX4_roomBetween_39 : decode cX4_roomBetween 39 = .ok (.invokevirtual 157, 3) := by decide +kernel
theorem dX4_roomBetween_42 : decode cX4_roomBetween 42 = .ok (.ireturn, 1) := by decide +kernel
theorem dX4_roomBetween_43 : decode cX4_roomBetween 43 = .ok (.iload 4, 2) := by decide +kernel
theorem dX4_roomBetween_45 : decode cX4_roomBetween 45 = .ok (.ifCond .eq 19, 3) := by decide +kernel
theorem dX4_roomBetween_48 : decode cX4_roomBetween 48 = .ok (.aload_n 0, 1) := by decide +kernel
theorem dX4_roomBetween_49 : decode cX4_roomBetween 49 = .ok (.getfield 36, 3) := by decide +kernel
theorem dX4_roomBetween_52 : decode cX4_roomBetween 52 = .ok (.iload_n 2, 1) := by decide +kernel
theorem dX4_roomBetween_53 : decode cX4_roomBetween 53 = .ok (.iconst 2, 1) := by decide +kernel
theorem dX4_roomBetween_54 : decode cX4_roomBetween 54 = .ok (.idiv, 1) := by decide +kernel
theorem dX4_roomBetween_55 : decode cX4_roomBetween 55 = .ok (.bipush 12, 2) := by decide +kernel
theorem dX4_roomBetween_57 : decode cX4_roomBetween 57 = .ok (.imul, 1) := by decide +kernel
theorem dX4_roomBetween_58 : decode cX4_roomBetween 58 = .ok (.iload_n 3, 1) := by decide +kernel
theorem dX4_roomBetween_59 : decode cX4_roomBetween 59 = .ok (.iadd, 1) := by decide +kernel
theorem dX4_roomBetween_60 : decode cX4_roomBetween 60 = .ok (.iaload, 1) := by decide +kernel
theorem dX4_roomBetween_61 : decode cX4_roomBetween 61 = .ok (.goto 5, 3) := by decide +kernel
theorem dX4_roomBetween_64 : decode cX4_roomBetween 64 = .ok (.ldc 104, 2) := by decide +kernel
theorem dX4_roomBetween_66 : decode cX4_roomBetween 66 = .ok (.ireturn, 1) := by decide +kernel
set_option maxRecDepth 20000 in
theorem ggX4_flowAlong_X4_flowBetween : GoodIn wsX4_flowAlong wsX4_flowBetween := goodIn_r _ [7, 8, 9, 10, 11, 12, 13, 14, 15, 16, 17, 18, 19, 20, 21, 22, 23, 24] (by decide +kernel) (by decide +kernel)
set_option maxRecDepth 20000 in
theorem gX4_flowAlong_X4_flowBetween : GoodIn wsX4_flowAlong (wsV RX4 160 RX4 yX4_flowBetween wsX4_flowBetween) := goodIn_app (goodIn_of _ (by decide +kernel)) ggX4_flowAlong_X4_flowBetween
theorem dX4_flowAlong_0 : decode cX4_flowAlong 0 = .ok (.iconst 2, 1) := by decide +kernel
theorem dX4_flowAlong_1 : decode cX4_flowAlong 1 = .ok (.iload_n 1, 1) := by decide +kernel
theorem dX4_flowAlong_2 : decode cX4_flowAlong 2 = .ok (.imul, 1) := by decide +kernel
theorem dX4_flowAlong_3 : decode cX4_flowAlong 3 = .ok (.iconst 1, 1) := by decide +kernel
theorem dX4_flowAlong_4 : decode cX4_flowAlong 4 = .ok (.iadd, 1) := by decide +kernel
theorem dX4_flowAlong_5 : decode cX4_flowAlong 5 = .ok (.istore_n 3, 1) := by decide +kernel
theorem dX4_flowAlong_6 : decode cX4_flowAlong 6 = .ok (.iconst 0, 1) := by decide +kernel
theorem dX4_flowAlong_7 : decode cX4_flowAlong 7 = .ok (.istore 4, 2) := by decide +kernel
theorem dX4_flowAlong_9 : decode cX4_flowAlong 9 = .ok (.iload 4, 2) := by decide +kernel
theorem dX4_flowAlong_11 : decode cX4_flowAlong 11 = .ok (.bipush 24, 2) := by decide +kernel
theorem dX4_flowAlong_13 : decode cX4_flowAlong 13 = .ok (.if_icmp .ge 37, 3) := by decide +kernel
theorem dX4_flowAlong_16 : decode cX4_flowAlong 16 = .ok (.aload_n 0, 1) := by decide +kernel
theorem dX4_flowAlong_17 : decode cX4_flowAlong 17 = .ok (.getfield 42, 3) := by decide +kernel
theorem dX4_flowAlong_20 : decode cX4_flowAlong 20 = .ok (.iload_n 3, 1) := by decide +kernel
theorem dX4_flowAlong_21 : decode cX4_flowAlong 21 = .ok (.iaload, 1) := by decide +kernel
theorem dX4_flowAlong_22 : decode cX4_flowAlong 22 = .ok (.ifCond .lt 28, 3) := by decide +kernel
theorem dX4_flowAlong_25 : decode cX4_flowAlong 25 = .ok (.aload_n 0, 1) := by decide +kernel
theorem dX4_flowAlong_26 : decode cX4_flowAlong 26 = .ok (.aload_n 0, 1) := by decide +kernel
theorem dX4_flowAlong_27 : decode cX4_flowAlong 27 = .ok (.getfield 42, 3) := by decide +kernel
theorem dX4_flowAlong_30 : decode cX4_flowAlong 30 = .ok (.iload_n 3, 1) := by decide +kernel
theorem dX4_flowAlong_31 : decode cX4_flowAlong 31 = .ok (.iaload, 1) := by decide +kernel
theorem dX4_flowAlong_32 : decode cX4_flowAlong 32 = .ok (.iload_n 3, 1) := by decide +kernel
theorem dX4_flowAlong_33 : decode cX4_flowAlong 33 = .ok (.iload_n 2, 1) := by decide +kernel
theorem dX4_flowAlong_34 : decode cX4_flowAlong 34 = .ok (.invokevirtual 160, 3) := by decide +kernel
theorem dX4_flowAlong_37 : decode cX4_flowAlong 37 = .ok (.aload_n 0, 1) := by decide +kernel
theorem dX4_flowAlong_38 : decode cX4_flowAlong 38 = .ok (.getfield 42, 3) := by decide +kernel
theorem dX4_flowAlong_41 : decode cX4_flowAlong 41 = .ok (.iload_n 3, 1) := by decide +kernel
theorem dX4_flowAlong_42 : decode cX4_flowAlong 42 = .ok (.iaload, 1) := by decide +kernel
theorem dX4_flowAlong_43 : decode cX4_flowAlong 43 = .ok (.istore_n 3, 1) := by decide +kernel
theorem dX4_flowAlong_44 : decode cX4_flowAlong 44 = .ok (.iinc 4 1, 3) := by decide +kernel
theorem dX4_flowAlong_47 : decode cX4_flowAlong 47 = .ok (.goto (-38), 3) := by decide +kernel
theorem dX4_flowAlong_50 : decode cX4_flowAlong 50 = .ok (.aload_n 0, 1) := by decide +kernel
theorem dX4_flowAlong_51 : decode cX4_flowAlong 51 = .ok (.getfield 39, 3) := by decide +kernel
theorem dX4_flowAlong_54 : decode cX4_flowAlong 54 = .ok (.iload_n 1, 1) := by decide +kernel
theorem dX4_flowAlong_55 : decode cX4_flowAlong 55 = .ok (.dup2, 1) := by decide +kernel
theorem dX4_flowAlong_56 : decode cX4_flowAlong 56 = .ok (.iaload, 1) := by decide +kernel
theorem dX4_flowAlong_57 : decode cX4_flowAlong 57 = .ok (.iload_n 2, 1) := by decide +kernel
theorem dX4_flowAlong_58 : decode cX4_flowAlong 58 = .ok (.iadd, 1) := by decide +kernel
theorem dX4_flowAlong_59 : decode cX4_flowAlong 59 = .ok (.iastore, 1) := by decide +kernel
theorem dX4_flowAlong_60 : decode cX4_flowAlong 60 = .ok (.return_, 1) := by decide +kernel
theorem dX4_flowBetween_0 : decode cX4_flowBetween 0 = .ok (.iload_n 1, 1) := by decide +kernel
theorem dX4_flowBetween_1 : decode cX4_flowBetween 1 = .ok (.iconst 2, 1) := by decide +kernel
theorem dX4_flowBetween_2 : decode cX4_flowBetween 2 = .ok (.idiv, 1) := by decide +kernel
theorem dX4_flowBetween_3 : decode cX4_flowBetween 3 = .ok (.istore 4, 2) := by decide +kernel
theorem dX4_flowBetween_5 : decode cX4_flowBetween 5 = .ok (.iload_n 2, 1) := by decide +kernel
theorem dX4_flowBetween_6 : decode cX4_flowBetween 6 = .ok (.iconst 2, 1) := by decide +kernel
theorem dX4_flowBetween_7 : decode cX4_flowBetween 7 = .ok (.idiv, 1) := by decide +kernel
theorem dX4_flowBetween_8 : decode cX4_flowBetween 8 = .ok (.istore 5, 2) := by decide +kernel
theorem dX4_flowBetween_10 : decode cX4_flowBetween 10 = .ok (.iload_n 1, 1) := by decide +kernel
theorem dX4_flowBetween_11 : decode cX4_flowBetween 11 = .ok (.iconst 2, 1) := by decide +kernel
theorem dX4_flowBetween_12 : decode cX4_flowBetween 12 = .ok (.irem, 1) := by decide +kernel
theorem dX4_flowBetween_13 : decode cX4_flowBetween 13 = .ok (.ifCond .ne 7, 3) := by decide +kernel
theorem dX4_flowBetween_16 : decode cX4_flowBetween 16 = .ok (.iconst 1, 1) := by decide +kernel
theorem dX4_flowBetween_17 : decode cX4_flowBetween 17 = .ok (.goto 4, 3) := by decide +kernel
theorem dX4_flowBetween_20 : decode cX4_flowBetween 20 = .ok (.iconst 0, 1) := by decide +kernel
theorem dX4_flowBetween_21 : decode cX4_flowBetween 21 = .ok (.istore 6, 2) := by decide +kernel
theorem dX4_flowBetween_23 : decode cX4_flowBetween 23 = .ok (.iload 5, 2) := by decide +kernel
theorem dX4_flowBetween_25 : decode cX4_flowBetween 25 = .ok (.iload 4, 2) := by decide +kernel
theorem dX4_flowBetween_27 : decode cX4_flowBetween 27 = .ok (.if_icmp .ne 27, 3) := by decide +kernel
theorem dX4_flowBetween_30 : decode cX4_flowBetween 30 = .ok (.aload_n 0, 1) := by decide +kernel
theorem dX4_flowBetween_31 : decode cX4_flowBetween 31 = .ok (.getfield 33, 3) := by decide +kernel
theorem dX4_flowBetween_34 : decode cX4_flowBetween 34 = .ok (.iload 4, 2) := by decide +kernel
theorem dX4_flowBetween_36 : decode cX4_flowBetween 36 = .ok (.dup2, 1) := by decide +kernel
theorem dX4_flowBetween_37 : decode cX4_flowBetween 37 = .ok (.iaload, 1) := by decide +kernel
theorem dX4_flowBetween_38 : decode cX4_flowBetween 38 = .ok (.iload 6, 2) := by decide +kernel
theorem dX4_flowBetween_40 : decode cX4_flowBetween 40 = .ok (.ifCond .eq 7, 3) := by decide +kernel
theorem dX4_flowBetween_43 : decode cX4_flowBetween 43 = .ok (.iload_n 3, 1) := by decide +kernel
theorem dX4_flowBetween_44 : decode cX4_flowBetween 44 = .ok (.goto 5, 3) := by decide +kernel
theorem dX4_flowBetween_47 : decode cX4_flowBetween 47 = .ok (.iload_n 3, 1) := by decide +kernel
theorem dX4_flowBetween_48 : decode cX4_flowBetween 48 = .ok (.ineg, 1) := by decide +kernel
theorem dX4_flowBetween_49 : decode cX4_flowBetween 49 = .ok (.iadd, 1) := by decide +kernel
theorem dX4_flowBetween_50 : decode cX4_flowBetween 50 = .ok (.iastore, 1) := by decide +kernel
theorem dX4_flowBetween_51 : decode cX4_flowBetween 51 = .ok (.goto 45, 3) := by decide +kernel
theorem dX4_flowBetween_54 : decode cX4_flowBetween 54 = .ok (.iload 6, 2) := by decide +kernel
theorem dX4_flowBetween_56 : decode cX4_flowBetween 56 = .ok (.ifCond .eq 23, 3) := by decide +kernel
theorem dX4_flowBetween_59 : decode cX4_flowBetween 59 = .ok (.aload_n 0, 1) := by decide +kernel
theorem dX4_flowBetween_60 : decode cX4_flowBetween 60 = .ok (.getfield 36, 3) := by decide +kernel
theorem dX4_flowBetween_63 : decode cX4_flowBetween 63 = .ok (.iload 5, 2) := by decide +kernel
theorem dX4_flowBetween_65 : decode cX4_flowBetween 65 = .ok (.bipush 12, 2) := by decide +kernel
theorem dX4_flowBetween_67 : decode cX4_flowBetween 67 = .ok (.imul, 1) := by decide +kernel
theorem dX4_flowBetween_68 : decode cX4_flowBetween 68 = .ok (.iload 4, 2) := by decide +kernel
theorem dX4_flowBetween_70 : decode cX4_flowBetween 70 = .ok (.iadd, 1) := by decide +kernel
theorem dX4_flowBetween_71 : decode cX4_flowBetween 71 = .ok (.dup2, 1) := by decide +kernel
theorem dX4_flowBetween_72 : decode cX4_flowBetween 72 = .ok (.iaload, 1) := by decide +kernel
theorem dX4_flowBetween_73 : decode cX4_flowBetween 73 = .ok (.iload_n 3, 1) := by decide +kernel
theorem dX4_flowBetween_74 : decode cX4_flowBetween 74 = .ok (.isub, 1) := by decide +kernel
theorem dX4_flowBetween_75 : decode cX4_flowBetween 75 = .ok (.iastore, 1) := by decide +kernel
theorem dX4_flowBetween_76 : decode cX4_flowBetween 76 = .ok (.goto 20, 3) := by decide +kernel
theorem dX4_flowBetween_79 : decode cX4_flowBetween 79 = .ok (.aload_n 0, 1) := by decide +kernel
theorem dX4_flowBetween_80 : decode cX4_flowBetween 80 = .ok (.getfield 36, 3) := by decide +kernel
theorem dX4_flowBetween_83 : decode cX4_flowBetween 83 = .ok (.iload 4, 2) := by decide +kernel
theorem dX4_flowBetween_85 : decode cX4_flowBetween 85 = .ok (.bipush 12, 2) := by decide +kernel
theorem dX4_flowBetween_87 : decode cX4_flowBetween 87 = .ok (.imul, 1) := by decide +kernel
theorem dX4_flowBetween_88 : decode cX4_flowBetween 88 = .ok (.iload 5, 2) := by decide +kernel
theorem dX4_flowBetween_90 : decode cX4_flowBetween 90 = .ok (.iadd, 1) := by decide +kernel
theorem dX4_flowBetween_91 : decode cX4_flowBetween 91 = .ok (.dup2, 1) := by decide +kernel
theorem dX4_flowBetween_92 : decode cX4_flowBetween 92 = .ok (.iaload, 1) := by decide +kernel
theorem dX4_flowBetween_93 : decode cX4_flowBetween 93 = .ok (.iload_n 3, 1) := by decide +kernel
theorem dX4_flowBetween_94 : decode cX4_flowBetween 94 = .ok (.iadd, 1) := by decide +kernel
theorem dX4_flowBetween_95 : decode cX4_flowBetween 95 = .ok (.iastore, 1) := by decide +kernel
theorem dX4_flowBetween_96 : decode cX4_flowBetween 96 = .ok (.return_, 1) := by decide +kernel
theorem dX5_init_0 : decode cX5_init 0 = .ok (.aload_n 0, 1) := by decide +kernel
theorem dX5_init_1 : decode cX5_init 1 = .ok (.invokespecial 3, 3) := by decide +kernel
theorem dX5_init_4 : decode cX5_init 4 = .ok (.aload_n 0, 1) := by decide +kernel
theorem dX5_init_5 : decode cX5_init 5 = .ok (.bipush 12, 2) := by decide +kernel
theorem dX5_init_7 : decode cX5_init 7 = .ok (.newarray .int, 2) := by decide +kernel
theorem dX5_init_9 : decode cX5_init 9 = .ok (.putfield 9, 3) := by decide +kernel
theorem dX5_init_12 : decode cX5_init 12 = .ok (.aload_n 0, 1) := by decide +kernel
theorem dX5_init_13 : decode cX5_init 13 = .ok (.bipush 12, 2) := by decide +kernel
theorem dX5_init_15 : decode cX5_init 15 = .ok (.newarray .int, 2) := by decide +kernel
theorem dX5_init_17 : decode cX5_init 17 = .ok (.putfield 15, 3) := by decide +kernel
theorem dX5_init_20 : decode cX5_init 20 = .ok (.aload_n 0, 1) := by decide +kernel
theorem dX5_init_21 : decode cX5_init 21 = .ok (.bipush 12, 2) := by decide +kernel
theorem dX5_init_23 : decode cX5_init 23 = .ok (.newarray .int, 2) := by decide +kernel
theorem dX5_init_25 : decode cX5_init 25 = .ok (.putfield 18, 3) := by decide +kernel
theorem dX5_init_28 : decode cX5_init 28 = .ok (.aload_n 0, 1) := by decide +kernel
theorem dX5_init_29 : decode cX5_init 29 = .ok (.bipush 12, 2) := by decide +kernel
theorem dX5_init_31 : decode cX5_init 31 = .ok (.newarray .int, 2) := by decide +kernel
theorem dX5_init_33 : decode cX5_init 33 = .ok (.putfield 21, 3) := by decide +kernel
theorem dX5_init_36 : decode cX5_init 36 = .ok (.aload_n 0, 1) := by decide +kernel
theorem dX5_init_37 : decode cX5_init 37 = .ok (.bipush 12, 2) := by decide +kernel
theorem dX5_init_39 : decode cX5_init 39 = .ok (.newarray .int, 2) := by decide +kernel
theorem dX5_init_41 : decode cX5_init 41 = .ok (.putfield 24, 3) := by decide +kernel
theorem dX5_init_44 : decode cX5_init 44 = .ok (.aload_n 0, 1) := by decide +kernel
theorem dX5_init_45 : decode cX5_init 45 = .ok (.bipush 12, 2) := by decide +kernel
theorem dX5_init_47 : decode cX5_init 47 = .ok (.newarray .int, 2) := by decide +kernel
theorem dX5_init_49 : decode cX5_init 49 = .ok (.putfield 27, 3) := by decide +kernel
theorem dX5_init_52 : decode cX5_init 52 = .ok (.aload_n 0, 1) := by decide +kernel
theorem dX5_init_53 : decode cX5_init 53 = .ok (.bipush 12, 2) := by decide +kernel
theorem dX5_init_55 : decode cX5_init 55 = .ok (.newarray .int, 2) := by decide +kernel
theorem dX5_init_57 : decode cX5_init 57 = .ok (.putfield 30, 3) := by decide +kernel
theorem dX5_init_60 : decode cX5_init 60 = .ok (.aload_n 0, 1) := by decide +kernel
theorem dX5_init_61 : decode cX5_init 61 = .ok (.bipush 12, 2) := by decide +kernel
theorem dX5_init_63 : decode cX5_init 63 = .ok (.newarray .int, 2) := by decide +kernel
theorem dX5_init_65 : decode cX5_init 65 = .ok (.putfield 33, 3) := by decide +kernel
theorem dX5_init_68 : decode cX5_init 68 = .ok (.return_, 1) := by decide +kernel
theorem dX5_has_0 : decode cX5_has 0 = .ok (.iload_n 1, 1) := by decide +kernel
theorem dX5_has_1 : decode cX5_has 1 = .ok (.ifCond .lt 15, 3) := by decide +kernel
theorem dX5_has_4 : decode cX5_has 4 = .ok (.iload_n 1, 1) := by decide +kernel
theorem dX5_has_5 : decode cX5_has 5 = .ok (.aload_n 0, 1) := by decide +kernel
theorem dX5_has_6 : decode cX5_has 6 = .ok (.getfield 36, 3) := by decide +kernel
theorem dX5_has_9 : decode cX5_has 9 = .ok (.if_icmp .ge 7, 3) := by decide +kernel
theorem dX5_has_12 : decode cX5_has 12 = .ok (.iconst 1, 1) := by decide +kernel
theorem dX5_has_13 : decode cX5_has 13 = .ok (.goto 4, 3) := by decide +kernel
theorem dX5_has_16 : decode cX5_has 16 = .ok (.iconst 0, 1) := by decide +kernel
theorem dX5_has_17 : decode cX5_has 17 = .ok (.ireturn, 1) := by decide +kernel
theorem dX5_allows_0 : decode cX5_allows 0 = .ok (.iload_n 2, 1) := by decide +kernel
theorem dX5_allows_1 : decode cX5_allows 1 = .ok (.aload_n 0, 1) := by decide +kernel
theorem dX5_allows_2 : decode cX5_allows 2 = .ok (.getfield 18, 3) := by decide +kernel
theorem dX5_allows_5 : decode cX5_allows 5 = .ok (.iload_n 1, 1) := by decide +kernel
theorem dX5_allows_6 : decode cX5_allows 6 = .ok (.iaload, 1) := by decide +kernel
theorem dX5_allows_7 : decode cX5_allows 7 = .ok (.if_icmp .lt 17, 3) := by decide +kernel
theorem dX5_allows_10 : decode cX5_allows 10 = .ok (.iload_n 2, 1) := by decide +kernel
theorem dX5_allows_11 : decode cX5_allows 11 = .ok (.aload_n 0, 1) := by decide +kernel
theorem dX5_allows_12 : decode cX5_allows 12 = .ok (.getfield 15, 3) := by decide +kernel
theorem dX5_allows_15 : decode cX5_allows 15 = .ok (.iload_n 1, 1) := by decide +kernel
theorem dX5_allows_16 : decode cX5_allows 16 = .ok (.iaload, 1) := by decide +kernel
theorem dX5_allows_17 : decode cX5_allows 17 = .ok (.if_icmp .gt 7, 3) := by decide +kernel
theorem dX5_allows_20 : decode cX5_allows 20 = .ok (.iconst 1, 1) := by decide +kernel
theorem dX5_allows_21 : decode cX5_allows 21 = .ok (.goto 4, 3) := by decide +kernel
theorem dX5_allows_24 : decode cX5_allows 24 = .ok (.iconst 0, 1) := by decide +kernel
theorem dX5_allows_25 : decode cX5_allows 25 = .ok (.ireturn, 1) := by decide +kernel
theorem dX5_add_0 : decode cX5_add 0 = .ok (.aload_n 0, 1) := by decide +kernel
theorem dX5_add_1 : decode cX5_add 1 = .ok (.getfield 36, 3) := by decide +kernel
theorem dX5_add_4 : decode cX5_add 4 = .ok (.istore 4, 2) := by decide +kernel
theorem dX5_add_6 : decode cX5_add 6 = .ok (.getstatic 40, 3) := by decide +kernel
theorem dX5_add_9 : decode cX5_add 9 = .ok (.iload_n 1, 1) := by decide +kernel
theorem dX5_add_10 : decode cX5_add 10 = .ok (.iaload, 1) := by decide +kernel
theorem dX5_add_11 : decode cX5_add 11 = .ok (.istore 5, 2) := by decide +kernel
theorem dX5_add_13 : decode cX5_add 13 = .ok (.aload_n 0, 1) := by decide +kernel
theorem dX5_add_14 : decode cX5_add 14 = .ok (.getfield 9, 3) := by decide +kernel
theorem dX5_add_17 : decode cX5_add 17 = .ok (.iload 4, 2) := by decide +kernel
theorem dX5_add_19 : decode cX5_add 19 = .ok (.iload_n 1, 1) := by decide +kernel
theorem dX5_add_20 : decode cX5_add 20 = .ok (.iastore, 1) := by decide +kernel
theorem dX5_add_21 : decode cX5_add 21 = .ok (.aload_n 0, 1) := by decide +kernel
theorem dX5_add_22 : decode cX5_add 22 = .ok (.getfield 15, 3) := by decide +kernel
theorem dX5_add_25 : decode cX5_add 25 = .ok (.iload 4, 2) := by decide +kernel
theorem dX5_add_27 : decode cX5_add 27 = .ok (.aload_n 2, 1) := by decide +kernel
theorem dX5_add_28 : decode cX5_add 28 = .ok (.getfield 43, 3) := by decide +kernel
theorem dX5_add_31 : decode cX5_add 31 = .ok (.iload_n 3, 1) := by decide +kernel
theorem dX5_add_32 : decode cX5_add 32 = .ok (.laload, 1) := by decide +kernel
theorem dX5_add_33 : decode cX5_add 33 = .ok (.l2i, 1) := by decide +kernel
theorem dX5_add_34 : decode cX5_add 34 = .ok (.iastore, 1) := by decide +kernel
theorem dX5_add_35 : decode cX5_add 35 = .ok (.aload_n 0, 1) := by decide +kernel
theorem dX5_add_36 : decode cX5_add 36 = .ok (.getfield 18, 3) := by decide +kernel
theorem dX5_add_39 : decode cX5_add 39 = .ok (.iload 4, 2) := by decide +kernel
theorem dX5_add_41 : decode cX5_add 41 = .ok (.iload 5, 2) := by decide +kernel
theorem dX5_add_43 : decode cX5_add 43 = .ok (.iconst 1, 1) := by decide +kernel
theorem dX5_add_44 : decode cX5_add 44 = .ok (.if_icmp .le 15, 3) := by decide +kernel
theorem dX5_add_47 : decode cX5_add 47 = .ok (.aload_n 2, 1) := by decide +kernel
theorem dX5_add_48 : decode cX5_add 48 = .ok (.getfield 43, 3) := by decide +kernel
theorem dX5_add_51 : decode cX5_add 51 = .ok (.iload_n 3, 1) := by decide +kernel
theorem dX5_add_52 : decode cX5_add 52 = .ok (.iconst 1, 1) := by decide +kernel
theorem dX5_add_53 : decode cX5_add 53 = .ok (.iadd, 1) := by decide +kernel
theorem dX5_add_54 : decode cX5_add 54 = .ok (.laload, 1) := by decide +kernel
theorem dX5_add_55 : decode cX5_add 55 = .ok (.l2i, 1) := by decide +kernel
theorem dX5_add_56 : decode cX5_add 56 = .ok (.goto 10, 3) := by decide +kernel
theorem dX5_add_59 : decode cX5_add 59 = .ok (.aload_n 0, 1) := by decide +kernel
theorem dX5_add_60 : decode cX5_add 60 = .ok (.getfield 15, 3) := by decide +kernel
theorem dX5_add_63 : decode cX5_add 63 = .ok (.iload 4, 2) := by decide +kernel
theorem dX5_add_65 : decode cX5_add 65 = .ok (.iaload, 1) := by decide +kernel
theorem dX5_add_66 : decode cX5_add 66 = .ok (.iastore, 1) := by decide +kernel
theorem dX5_add_67 : decode cX5_add 67 = .ok (.aload_n 0, 1) := by decide +kernel
theorem dX5_add_68 : decode cX5_add 68 = .ok (.getfield 21, 3) := by decide +kernel
theorem dX5_add_71 : decode cX5_add 71 = .ok (.iload 4, 2) := by decide +kernel
theorem dX5_add_73 : decode cX5_add 73 = .ok (.iload 5, 2) := by decide +kernel
theorem dX5_add_75 : decode cX5_add 75 = .ok (.iconst 2, 1) := by decide +kernel
theorem dX5_add_76 : decode cX5_add 76 = .ok (.if_icmp .le 15, 3) := by decide +kernel
theorem dX5_add_79 : decode cX5_add 79 = .ok (.aload_n 2, 1) := by decide +kernel
theorem dX5_add_80 : decode cX5_add 80 = .ok (.getfield 43, 3) := by decide +kernel
theorem dX5_add_83 : decode cX5_add 83 = .ok (.iload_n 3, 1) := by decide +kernel
theorem dX5_add_84 : decode cX5_add 84 = .ok (.iconst 2, 1) := by decide +kernel
theorem dX5_add_85 : decode cX5_add 85 = .ok (.iadd, 1) := by decide +kernel
theorem dX5_add_86 : decode cX5_add 86 = .ok (.laload, 1) := by decide +kernel
theorem dX5_add_87 : decode cX5_add 87 = .ok (.l2i, 1) := by decide +kernel
theorem dX5_add_88 : decode cX5_add 88 = .ok (.goto 4, 3) := by decide +kernel
theorem dX5_add_91 : decode cX5_add 91 = .ok (.iconst 0, 1) := by decide +kernel
theorem dX5_add_92 : decode cX5_add 92 = .ok (.iastore, 1) := by decide +kernel
theorem dX5_add_93 : decode cX5_add 93 = .ok (.aload_n 0, 1) := by decide +kernel
theorem dX5_add_94 : decode cX5_add 94 = .ok (.getfield 24, 3) := by decide +kernel
theorem dX5_add_97 : decode cX5_add 97 = .ok (.iload 4, 2) := by decide +kernel
theorem dX5_add_99 : decode cX5_add 99 = .ok (.iload 5, 2) := by decide +kernel
theorem dX5_add_101 : decode cX5_add 101 = .ok (.iconst 3, 1) := by decide +kernel
theorem dX5_add_102 : decode cX5_add 102 = .ok (.if_icmp .le 15, 3) := by decide +kernel
theorem dX5_add_105 : decode cX5_add 105 = .ok (.aload_n 2, 1) := by decide +kernel
theorem dX5_add_106 : decode cX5_add 106 = .ok (.getfield 43, 3) := by decide +kernel
theorem dX5_add_109 : decode cX5_add 109 = .ok (.iload_n 3, 1) := by decide +kernel
theorem dX5_add_110 : decode cX5_add 110 = .ok (.iconst 3, 1) := by decide +kernel
theorem dX5_add_111 : decode cX5_add 111 = .ok (.iadd, 1) := by decide +kernel
theorem dX5_add_112 : decode cX5_add 112 = .ok (.laload, 1) := by decide +kernel
theorem dX5_add_113 : decode cX5_add 113 = .ok (.l2i, 1) := by decide +kernel
theorem dX5_add_114 : decode cX5_add 114 = .ok (.goto 4, 3) := by decide +kernel
theorem dX5_add_117 : decode cX5_add 117 = .ok (.iconst 0, 1) := by decide +kernel
theorem dX5_add_118 : decode cX5_add 118 = .ok (.iastore, 1) := by decide +kernel
theorem dX5_add_119 : decode cX5_add 119 = .ok (.aload_n 0, 1) := by decide +kernel
theorem dX5_add_120 : decode cX5_add 120 = .ok (.getfield 27, 3) := by decide +kernel
theorem dX5_add_123 : decode cX5_add 123 = .ok (.iload 4, 2) := by decide +kernel
theorem dX5_add_125 : decode cX5_add 125 = .ok (.iload 5, 2) := by decide +kernel
theorem dX5_add_127 : decode cX5_add 127 = .ok (.iconst 4, 1) := by decide +kernel
theorem dX5_add_128 : decode cX5_add 128 = .ok (.if_icmp .le 15, 3) := by decide +kernel
theorem dX5_add_131 : decode cX5_add 131 = .ok (.aload_n 2, 1) := by decide +kernel
theorem dX5_add_132 : decode cX5_add 132 = .ok (.getfield 43, 3) := by decide +kernel
theorem dX5_add_135 : decode cX5_add 135 = .ok (.iload_n 3, 1) := by decide +kernel
theorem dX5_add_136 : decode cX5_add 136 = .ok (.iconst 4, 1) := by decide +kernel
theorem dX5_add_137 : decode cX5_add 137 = .ok (.iadd, 1) := by decide +kernel
theorem dX5_add_138 : decode cX5_add 138 = .ok (.laload, 1) := by decide +kernel
theorem dX5_add_139 : decode cX5_add 139 = .ok (.l2i, 1) := by decide +kernel
theorem dX5_add_140 : decode cX5_add 140 = .ok (.goto 4, 3) := by decide +kernel
theorem dX5_add_143 : decode cX5_add 143 = .ok (.iconst 0, 1) := by decide +kernel
theorem dX5_add_144 : decode cX5_add 144 = .ok (.iastore, 1) := by decide +kernel
theorem dX5_add_145 : decode cX5_add 145 = .ok (.aload_n 0, 1) := by decide +kernel
theorem dX5_add_146 : decode cX5_add 146 = .ok (.getfield 30, 3) := by decide +kernel
theorem dX5_add_149 : decode cX5_add 149 = .ok (.iload 4, 2) := by decide +kernel
theorem dX5_add_151 : decode cX5_add 151 = .ok (.aload_n 0, 1) := by decide +kernel
theorem dX5_add_152 : decode cX5_add 152 = .ok (.getfield 15, 3) := by decide +kernel
theorem dX5_add_155 : decode cX5_add 155 = .ok (.iload 4, 2) := by decide +kernel
theorem dX5_add_157 : decode cX5_add 157 = .ok (.iaload, 1) := by decide +kernel
theorem dX5_add_158 : decode cX5_add 158 = .ok (.iastore, 1) := by decide +kernel
theorem dX5_add_159 : decode cX5_add 159 = .ok (.aload_n 0, 1) := by decide +kernel
theorem dX5_add_160 : decode cX5_add 160 = .ok (.getfield 33, 3) := by decide +kernel
theorem dX5_add_163 : decode cX5_add 163 = .ok (.iload 4, 2) := by decide +kernel
theorem dX5_add_165 : decode cX5_add 165 = .ok (.iconst 0, 1) := by decide +kernel
theorem dX5_add_166 : decode cX5_add 166 = .ok (.iastore, 1) := by decide +kernel
theorem dX5_add_167 : decode cX5_add 167 = .ok (.aload_n 0, 1) := by decide +kernel
theorem dX5_add_168 : decode cX5_add 168 = .ok (.dup, 1) := by decide +kernel
theorem dX5_add_169 : decode cX5_add 169 = .ok (.getfield 36, 3) := by decide +kernel
theorem dX5_add_172 : decode cX5_add 172 = .ok (.iconst 1, 1) := by decide +kernel
theorem dX5_add_173 : decode cX5_add 173 = .ok (.iadd, 1) := by decide +kernel
theorem dX5_add_174 : decode cX5_add 174 = .ok (.putfield 36, 3) := by decide +kernel
theorem dX5_add_177 : decode cX5_add 177 = .ok (.iload 4, 2) := by decide +kernel
theorem dX5_add_179 : decode cX5_add 179 = .ok (.ireturn, 1) := by decide +kernel
theorem dX5_become_0 : decode cX5_become 0 = .ok (.aload_n 0, 1) := by decide +kernel
theorem dX5_become_1 : decode cX5_become 1 = .ok (.aload_n 1, 1) := by decide +kernel
theorem dX5_become_2 : decode cX5_become 2 = .ok (.getfield 36, 3) := by decide +kernel
theorem dX5_become_5 : decode cX5_become 5 = .ok (.putfield 36, 3) := by decide +kernel
theorem dX5_become_8 : decode cX5_become 8 = .ok (.aload_n 1, 1) := by decide +kernel
theorem dX5_become_9 : decode cX5_become 9 = .ok (.getfield 9, 3) := by decide +kernel
theorem dX5_become_12 : decode cX5_become 12 = .ok (.iconst 0, 1) := by decide +kernel
theorem dX5_become_13 : decode cX5_become 13 = .ok (.aload_n 0, 1) := by decide +kernel
theorem dX5_become_14 : decode cX5_become 14 = .ok (.getfield 9, 3) := by decide +kernel
theorem dX5_become_17 : decode cX5_become 17 = .ok (.iconst 0, 1) := by decide +kernel
theorem dX5_become_18 : decode cX5_become 18 = .ok (.bipush 12, 2) := by decide +kernel
theorem dX5_become_20 : decode cX5_become 20 = .ok (.invokestatic 49, 3) := by decide +kernel
theorem dX5_become_23 : decode cX5_become 23 = .ok (.aload_n 1, 1) := by decide +kernel
theorem dX5_become_24 : decode cX5_become 24 = .ok (.getfield 15, 3) := by decide +kernel
theorem dX5_become_27 : decode cX5_become 27 = .ok (.iconst 0, 1) := by decide +kernel
theorem dX5_become_28 : decode cX5_become 28 = .ok (.aload_n 0, 1) := by decide +kernel
theorem dX5_become_29 : decode cX5_become 29 = .ok (.getfield 15, 3) := by decide +kernel
theorem dX5_become_32 : decode cX5_become 32 = .ok (.iconst 0, 1) := by decide +kernel
theorem dX5_become_33 : decode cX5_become 33 = .ok (.bipush 12, 2) := by decide +kernel
theorem dX5_become_35 : decode cX5_become 35 = .ok (.invokestatic 49, 3) := by decide +kernel
theorem dX5_become_38 : decode cX5_become 38 = .ok (.aload_n 1, 1) := by decide +kernel
theorem dX5_become_39 : decode cX5_become 39 = .ok (.getfield 18, 3) := by decide +kernel
theorem dX5_become_42 : decode cX5_become 42 = .ok (.iconst 0, 1) := by decide +kernel
theorem dX5_become_43 : decode cX5_become 43 = .ok (.aload_n 0, 1) := by decide +kernel
theorem dX5_become_44 : decode cX5_become 44 = .ok (.getfield 18, 3) := by decide +kernel
theorem dX5_become_47 : decode cX5_become 47 = .ok (.iconst 0, 1) := by decide +kernel
theorem dX5_become_48 : decode cX5_become 48 = .ok (.bipush 12, 2) := by decide +kernel
theorem dX5_become_50 : decode cX5_become 50 = .ok (.invokestatic 49, 3) := by decide +kernel
theorem dX5_become_53 : decode cX5_become 53 = .ok (.aload_n 1, 1) := by decide +kernel
theorem dX5_become_54 : decode cX5_become 54 = .ok (.getfield 21, 3) := by decide +kernel
theorem dX5_become_57 : decode cX5_become 57 = .ok (.iconst 0, 1) := by decide +kernel
theorem dX5_become_58 : decode cX5_become 58 = .ok (.aload_n 0, 1) := by decide +kernel
theorem dX5_become_59 : decode cX5_become 59 = .ok (.getfield 21, 3) := by decide +kernel
theorem dX5_become_62 : decode cX5_become 62 = .ok (.iconst 0, 1) := by decide +kernel
theorem dX5_become_63 : decode cX5_become 63 = .ok (.bipush 12, 2) := by decide +kernel
theorem dX5_become_65 : decode cX5_become 65 = .ok (.invokestatic 49, 3) := by decide +kernel
theorem dX5_become_68 : decode cX5_become 68 = .ok (.aload_n 1, 1) := by decide +kernel
theorem dX5_become_69 : decode cX5_become 69 = .ok (.getfield 24, 3) := by decide +kernel
theorem dX5_become_72 : decode cX5_become 72 = .ok (.iconst 0, 1) := by decide +kernel
theorem dX5_become_73 : decode cX5_become 73 = .ok (.aload_n 0, 1) := by decide +kernel
theorem dX5_become_74 : decode cX5_become 74 = .ok (.getfield 24, 3) := by decide +kernel
theorem dX5_become_77 : decode cX5_become 77 = .ok (.iconst 0, 1) := by decide +kernel
theorem dX5_become_78 : decode cX5_become 78 = .ok (.bipush 12, 2) := by decide +kernel
theorem dX5_become_80 : decode cX5_become 80 = .ok (.invokestatic 49, 3) := by decide +kernel
theorem dX5_become_83 : decode cX5_become 83 = .ok (.aload_n 1, 1) := by decide +kernel
theorem dX5_become_84 : decode cX5_become 84 = .ok (.getfield 27, 3) := by decide +kernel
theorem dX5_become_87 : decode cX5_become 87 = .ok (.iconst 0, 1) := by decide +kernel
theorem dX5_become_88 : decode cX5_become 88 = .ok (.aload_n 0, 1) := by decide +kernel
theorem dX5_become_89 : decode cX5_become 89 = .ok (.getfield 27, 3) := by decide +kernel
theorem dX5_become_92 : decode cX5_become 92 = .ok (.iconst 0, 1) := by decide +kernel
theorem dX5_become_93 : decode cX5_become 93 = .ok (.bipush 12, 2) := by decide +kernel
theorem dX5_become_95 : decode cX5_become 95 = .ok (.invokestatic 49, 3) := by decide +kernel
theorem dX5_become_98 : decode cX5_become 98 = .ok (.aload_n 1, 1) := by decide +kernel
theorem dX5_become_99 : decode cX5_become 99 = .ok (.getfield 30, 3) := by decide +kernel
theorem dX5_become_102 : decode cX5_become 102 = .ok (.iconst 0, 1) := by decide +kernel
theorem dX5_become_103 : decode cX5_become 103 = .ok (.aload_n 0, 1) := by decide +kernel
theorem dX5_become_104 : decode cX5_become 104 = .ok (.getfield 30, 3) := by decide +kernel
theorem dX5_become_107 : decode cX5_become 107 = .ok (.iconst 0, 1) := by decide +kernel
theorem dX5_become_108 : decode cX5_become 108 = .ok (.bipush 12, 2) := by decide +kernel
theorem dX5_become_110 : decode cX5_become 110 = .ok (.invokestatic 49, 3) := by decide +kernel
theorem dX5_become_113 : decode cX5_become 113 = .ok (.aload_n 1, 1) := by decide +kernel
theorem dX5_become_114 : decode cX5_become 114 = .ok (.getfield 33, 3) := by decide +kernel
theorem dX5_become_117 : decode cX5_become 117 = .ok (.iconst 0, 1) := by decide +kernel
theorem dX5_become_118 : decode cX5_become 118 = .ok (.aload_n 0, 1) := by decide +kernel
theorem dX5_become_119 : decode cX5_become 119 = .ok (.getfield 33, 3) := by decide +kernel
theorem dX5_become_122 : decode cX5_become 122 = .ok (.iconst 0, 1) := by decide +kernel
theorem dX5_become_123 : decode cX5_become 123 = .ok (.bipush 12, 2) := by decide +kernel
theorem dX5_become_125 : decode cX5_become 125 = .ok (.invokestatic 49, 3) := by decide +kernel
theorem dX5_become_128 : decode cX5_become 128 = .ok (.return_, 1) := by decide +kernel
theorem dX5_costOf_0 : decode cX5_costOf 0 = .ok (.aload_n 0, 1) := by decide +kernel
theorem dX5_costOf_1 : decode cX5_costOf 1 = .ok (.getfield 21, 3) := by decide +kernel
theorem dX5_costOf_4 : decode cX5_costOf 4 = .ok (.iload_n 1, 1) := by decide +kernel
theorem dX5_costOf_5 : decode cX5_costOf 5 = .ok (.iaload, 1) := by decide +kernel
theorem dX5_costOf_6 : decode cX5_costOf 6 = .ok (.i2l, 1) := by decide +kernel
theorem dX5_costOf_7 : decode cX5_costOf 7 = .ok (.aload_n 0, 1) := by decide +kernel
theorem dX5_costOf_8 : decode cX5_costOf 8 = .ok (.getfield 15, 3) := by decide +kernel
theorem dX5_costOf_11 : decode cX5_costOf 11 = .ok (.iload_n 1, 1) := by decide +kernel
theorem dX5_costOf_12 : decode cX5_costOf 12 = .ok (.iaload, 1) := by decide +kernel
theorem dX5_costOf_13 : decode cX5_costOf 13 = .ok (.iload_n 2, 1) := by decide +kernel
theorem dX5_costOf_14 : decode cX5_costOf 14 = .ok (.isub, 1) := by decide +kernel
theorem dX5_costOf_15 : decode cX5_costOf 15 = .ok (.i2l, 1) := by decide +kernel
theorem dX5_costOf_16 : decode cX5_costOf 16 = .ok (.lmul, 1) := by decide +kernel
theorem dX5_costOf_17 : decode cX5_costOf 17 = .ok (.lstore_n 3, 1) := by decide +kernel
theorem dX5_costOf_18 : decode cX5_costOf 18 = .ok (.aload_n 0, 1) := by decide +kernel
theorem dX5_costOf_19 : decode cX5_costOf 19 = .ok (.getfield 9, 3) := by decide +kernel
theorem dX5_costOf_22 : decode cX5_costOf 22 = .ok (.iload_n 1, 1) := by decide +kernel
theorem dX5_costOf_23 : decode cX5_costOf 23 = .ok (.iaload, 1) := by decide +kernel
theorem dX5_costOf_24 : decode cX5_costOf 24 = .ok (.iconst 2, 1) := by decide +kernel
theorem dX5_costOf_25 : decode cX5_costOf 25 = .ok (.if_icmp .ne 34, 3) := by decide +kernel
theorem dX5_costOf_28 : decode cX5_costOf 28 = .ok (.lload_n 3, 1) := by decide +kernel
theorem dX5_costOf_29 : decode cX5_costOf 29 = .ok (.aload_n 0, 1) := by decide +kernel
theorem dX5_costOf_30 : decode cX5_costOf 30 = .ok (.getfield 27, 3) := by decide +kernel
theorem dX5_costOf_33 : decode cX5_costOf 33 = .ok (.iload_n 1, 1) := by decide +kernel
theorem dX5_costOf_34 : decode cX5_costOf 34 = .ok (.iaload, 1) := by decide +kernel
theorem dX5_costOf_35 : decode cX5_costOf 35 = .ok (.i2l, 1) := by decide +kernel
theorem dX5_costOf_36 : decode cX5_costOf 36 = .ok (.iconst 0, 1) := by decide +kernel
theorem dX5_costOf_37 : decode cX5_costOf 37 = .ok (.aload_n 0, 1) := by decide +kernel
theorem dX5_costOf_38 : decode cX5_costOf 38 = .ok (.getfield 15, 3) := by decide +kernel
theorem dX5_costOf_41 : decode cX5_costOf 41 = .ok (.iload_n 1, 1) := by decide +kernel
theorem dX5_costOf_42 : decode cX5_costOf 42 = .ok (.iaload, 1) := by decide +kernel
theorem dX5_costOf_43 : decode cX5_costOf 43 = .ok (.aload_n 0, 1) := by decide +kernel
theorem dX5_costOf_44 : decode cX5_costOf 44 = .ok (.getfield 24, 3) := by decide +kernel
theorem dX5_costOf_47 : decode cX5_costOf 47 = .ok (.iload_n 1, 1) := by decide +kernel
theorem dX5_costOf_48 : decode cX5_costOf 48 = .ok (.iaload, 1) := by decide +kernel
theorem dX5_costOf_49 : decode cX5_costOf 49 = .ok (.isub, 1) := by decide +kernel
theorem dX5_costOf_50 : decode cX5_costOf 50 = .ok (.iload_n 2, 1) := by decide +kernel
theorem dX5_costOf_51 : decode cX5_costOf 51 = .ok (.isub, 1) := by decide +kernel
theorem dX5_costOf_52 : decode cX5_costOf 52 = .ok (.invokestatic 55, 3) := by decide +kernel
theorem dX5_costOf_55 : decode cX5_costOf 55 = .ok (.i2l, 1) := by decide +kernel
theorem dX5_costOf_56 : decode cX5_costOf 56 = .ok (.lmul, 1) := by decide +kernel
theorem dX5_costOf_57 : decode cX5_costOf 57 = .ok (.ladd, 1) := by decide +kernel
theorem dX5_costOf_58 : decode cX5_costOf 58 = .ok (.lstore_n 3, 1) := by decide +kernel
theorem dX5_costOf_59 : decode cX5_costOf 59 = .ok (.aload_n 0, 1) := by decide +kernel
theorem dX5_costOf_60 : decode cX5_costOf 60 = .ok (.getfield 9, 3) := by decide +kernel
theorem dX5_costOf_63 : decode cX5_costOf 63 = .ok (.iload_n 1, 1) := by decide +kernel
theorem dX5_costOf_64 : decode cX5_costOf 64 = .ok (.iaload, 1) := by decide +kernel
theorem dX5_costOf_65 : decode cX5_costOf 65 = .ok (.iconst 4, 1) := by decide +kernel
theorem dX5_costOf_66 : decode cX5_costOf 66 = .ok (.if_icmp .ne 16, 3) := by decide +kernel
theorem dX5_costOf_69 : decode cX5_costOf 69 = .ok (.lload_n 3, 1) := by decide +kernel
theorem dX5_costOf_70 : decode cX5_costOf 70 = .ok (.aload_n 0, 1) := by decide +kernel
theorem dX5_costOf_71 : decode cX5_costOf 71 = .ok (.getfield 24, 3) := by decide +kernel
theorem dX5_costOf_74 : decode cX5_costOf 74 = .ok (.iload_n 1, 1) := by decide +kernel
theorem dX5_costOf_75 : decode cX5_costOf 75 = .ok (.iaload, 1) := by decide +kernel
theorem dX5_costOf_76 : decode cX5_costOf 76 = .ok (.i2l, 1) := by decide +kernel
theorem dX5_costOf_77 : decode cX5_costOf 77 = .ok (.iload_n 2, 1) := by decide +kernel
theorem dX5_costOf_78 : decode cX5_costOf 78 = .ok (.i2l, 1) := by decide +kernel
theorem dX5_costOf_79 : decode cX5_costOf 79 = .ok (.lmul, 1) := by decide +kernel
theorem dX5_costOf_80 : decode cX5_costOf 80 = .ok (.ladd, 1) := by decide +kernel
theorem dX5_costOf_81 : decode cX5_costOf 81 = .ok (.lstore_n 3, 1) := by decide +kernel
theorem dX5_costOf_82 : decode cX5_costOf 82 = .ok (.lload_n 3, 1) := by decide +kernel
theorem dX5_costOf_83 : decode cX5_costOf 83 = .ok (.lreturn, 1) := by decide +kernel
set_option maxRecDepth 20000 in
theorem ggX5_leastCost_X5_costOf : GoodIn wsX5_leastCost wsX5_costOf := goodIn_r _ [12, 13, 2, 14, 15, 16, 17, 18, 6, 19, 20, 21, 22, 23, 24, 25, 26, 27, 28] (by decide +kernel) (by decide +kernel)
set_option maxRecDepth 20000 in
theorem gX5_leastCost_X5_costOf : GoodIn wsX5_leastCost (wsV RX5 61 RX5 yX5_costOf wsX5_costOf) := goodIn_app (goodIn_of _ (by decide +kernel)) ggX5_leastCost_X5_costOf
theorem dX5_leastCost_0 : decode cX5_leastCost 0 = .ok (.lconst 0, 1) := by decide +kernel
theorem dX5_leastCost_1 : decode cX5_leastCost 1 = .ok (.lstore_n 1, 1) := by decide +kernel
theorem dX5_leastCost_2 : decode cX5_leastCost 2 = .ok (.iconst 0, 1) := by decide +kernel
theorem dX5_leastCost_3 : decode cX5_leastCost 3 = .ok (.istore_n 3, 1) := by decide +kernel
theorem dX5_leastCost_4 : decode cX5_leastCost 4 = .ok (.iload_n 3, 1) := by decide +kernel
theorem dX5_leastCost_5 : decode cX5_leastCost 5 = .ok (.aload_n 0, 1) := by decide +kernel
theorem dX5_leastCost_6 : decode cX5_leastCost 6 = .ok (.getfield 36, 3) := by decide +kernel
theorem dX5_leastCost_9 : decode cX5_leastCost 9 = .ok (.if_icmp .ge 37, 3) := by decide +kernel
theorem dX5_leastCost_12 : decode cX5_leastCost 12 = .ok (.lload_n 1, 1) := by decide +kernel
theorem dX5_leastCost_13 : decode cX5_leastCost 13 = .ok (.aload_n 0, 1) := by decide +kernel
theorem dX5_leastCost_14 : decode cX5_leastCost 14 = .ok (.iload_n 3, 1) := by decide +kernel
theorem dX5_leastCost_15 : decode cX5_leastCost 15 = .ok (.aload_n 0, 1) := by decide +kernel
theorem dX5_leastCost_16 : decode cX5_leastCost 16 = .ok (.getfield 15, 3) := by decide +kernel
theorem dX5_leastCost_19 : decode cX5_leastCost 19 = .ok (.iload_n 3, 1) := by decide +kernel
theorem dX5_leastCost_20 : decode cX5_leastCost 20 = .ok (.iaload, 1) := by decide +kernel
theorem dX5_leastCost_21 : decode cX5_leastCost 21 = .ok (.invokevirtual 61, 3) := by decide +kernel
theorem dX5_leastCost_24 : decode cX5_leastCost 24 = .ok (.aload_n 0, 1) := by decide +kernel
theorem dX5_leastCost_25 : decode cX5_leastCost 25 = .ok (.iload_n 3, 1) := by decide +kernel
theorem dX5_leastCost_26 : decode cX5_leastCost 26 = .ok (.aload_n 0, 1) := by decide +kernel
theorem dX5_leastCost_27 : decode cX5_leastCost 27 = .ok (.getfield 18, 3) := by decide +kernel
theorem dX5_leastCost_30 : decode cX5_leastCost 30 = .ok (.iload_n 3, 1) := by decide +kernel
theorem dX5_leastCost_31 : decode cX5_leastCost 31 = .ok (.iaload, 1) := by decide +kernel
theorem dX5_leastCost_32 : decode cX5_leastCost 32 = .ok (.invokevirtual 61, 3) := by decide +kernel
theorem dX5_leastCost_35 : decode cX5_leastCost 35 = .ok (.invokestatic 65, 3) := by decide +kernel
theorem dX5_leastCost_38 : decode cX5_leastCost 38 = .ok (.ladd, 1) := by decide +kernel
theorem dX5_leastCost_39 : decode cX5_leastCost 39 = .ok (.lstore_n 1, 1) := by decide +kernel
theorem dX5_leastCost_40 : decode cX5_leastCost 40 = .ok (.iinc 3 1, 3) := by decide +kernel
theorem dX5_leastCost_43 : decode cX5_leastCost 43 = .ok (.goto (-39), 3) := by decide +kernel
theorem dX5_leastCost_46 : decode cX5_leastCost 46 = .ok (.lload_n 1, 1) := by decide +kernel
theorem dX5_leastCost_47 : decode cX5_leastCost 47 = .ok (.lreturn, 1) := by decide +kernel
set_option maxRecDepth 20000 in
theorem ggX5_pairs_J6_bitCount_0f7a4 : GoodIn wsX5_pairs wsJ6_bitCount_0f7a4 := goodIn_r _ [6, 7, 8, 9] (by decide +kernel) (by decide +kernel)
set_option maxRecDepth 20000 in
theorem gX5_pairs_J6_bitCount_0f7a4 : GoodIn wsX5_pairs (va_wsS RX5 69 yJ6_bitCount_0f7a4 wsJ6_bitCount_0f7a4) := goodIn_app (goodIn_of _ (by decide +kernel)) ggX5_pairs_J6_bitCount_0f7a4
theorem dX5_pairs_0 : decode cX5_pairs 0 = .ok (.iconst 0, 1) := by decide +kernel
theorem dX5_pairs_1 : decode cX5_pairs 1 = .ok (.istore_n 1, 1) := by decide +kernel
theorem dX5_pairs_2 : decode cX5_pairs 2 = .ok (.iconst 0, 1) := by decide +kernel
theorem dX5_pairs_3 : decode cX5_pairs 3 = .ok (.istore_n 2, 1) := by decide +kernel
theorem dX5_pairs_4 : decode cX5_pairs 4 = .ok (.iload_n 2, 1) := by decide +kernel
theorem dX5_pairs_5 : decode cX5_pairs 5 = .ok (.aload_n 0, 1) := by decide +kernel
theorem dX5_pairs_6 : decode cX5_pairs 6 = .ok (.getfield 36, 3) := by decide +kernel
theorem dX5_pairs_9 : decode cX5_pairs 9 = .ok (.if_icmp .ge 21, 3) := by decide +kernel
theorem dX5_pairs_12 : decode cX5_pairs 12 = .ok (.iload_n 1, 1) := by decide +kernel
theorem dX5_pairs_13 : decode cX5_pairs 13 = .ok (.aload_n 0, 1) := by decide +kernel
theorem dX5_pairs_14 : decode cX5_pairs 14 = .ok (.getfield 33, 3) := by decide +kernel
theorem dX5_pairs_17 : decode cX5_pairs 17 = .ok (.iload_n 2, 1) := by decide +kernel
theorem dX5_pairs_18 : decode cX5_pairs 18 = .ok (.iaload, 1) := by decide +kernel
theorem dX5_pairs_19 : decode cX5_pairs 19 = .ok (.invokestatic 69, 3) := by decide +kernel
theorem dX5_pairs_22 : decode cX5_pairs 22 = .ok (.iadd, 1) := by decide +kernel
theorem dX5_pairs_23 : decode cX5_pairs 23 = .ok (.istore_n 1, 1) := by decide +kernel
theorem dX5_pairs_24 : decode cX5_pairs 24 = .ok (.iinc 2 1, 3) := by decide +kernel
theorem dX5_pairs_27 : decode cX5_pairs 27 = .ok (.goto (-23), 3) := by decide +kernel
theorem dX5_pairs_30 : decode cX5_pairs 30 = .ok (.iload_n 1, 1) := by decide +kernel
theorem dX5_pairs_31 : decode cX5_pairs 31 = .ok (.ireturn, 1) := by decide +kernel
set_option maxRecDepth 20000 in
theorem ggX5_allBefore_X7_hasBit : GoodIn wsX5_allBefore wsX7_hasBit := goodIn_r _ [5] (by decide +kernel) (by decide +kernel)
set_option maxRecDepth 20000 in
theorem gX5_allBefore_X7_hasBit_n75 : GoodIn wsX5_allBefore (wsX7_hasBit) := ggX5_allBefore_X7_hasBit
theorem dX5_allBefore_0 : decode cX5_allBefore 0 = .ok (.aload_n 0, 1) := by decide +kernel
theorem dX5_allBefore_1 : decode cX5_allBefore 1 = .ok (.getfield 33, 3) := by decide +kernel
theorem dX5_allBefore_4 : decode cX5_allBefore 4 = .ok (.iload_n 1, 1) := by decide +kernel
theorem dX5_allBefore_5 : decode cX5_allBefore 5 = .ok (.iaload, 1) := by decide +kernel
theorem dX5_allBefore_6 : decode cX5_allBefore 6 = .ok (.istore_n 2, 1) := by decide +kernel
theorem dX5_allBefore_7 : decode cX5_allBefore 7 = .ok (.iconst 0, 1) := by decide +kernel
theorem dX5_allBefore_8 : decode cX5_allBefore 8 = .ok (.istore_n 3, 1) := by decide +kernel
theorem dX5_allBefore_9 : decode cX5_allBefore 9 = .ok (.iconst 0, 1) := by decide +kernel
theorem dX5_allBefore_10 : decode cX5_allBefore 10 = .ok (.istore 4, 2) := by decide +kernel
theorem dX5_allBefore_12 : decode cX5_allBefore 12 = .ok (.iload 4, 2) := by decide +kernel
theorem dX5_allBefore_14 : decode cX5_allBefore 14 = .ok (.aload_n 0, 1) := by decide +kernel
theorem dX5_allBefore_15 : decode cX5_allBefore 15 = .ok (.getfield 36, 3) := by decide +kernel
theorem dX5_allBefore_18 : decode cX5_allBefore 18 = .ok (.if_icmp .ge 53, 3) := by decide +kernel
theorem dX5_allBefore_21 : decode cX5_allBefore 21 = .ok (.iload_n 2, 1) := by decide +kernel
theorem dX5_allBefore_22 : decode cX5_allBefore 22 = .ok (.iload_n 3, 1) := by decide +kernel
theorem dX5_allBefore_23 : decode cX5_allBefore 23 = .ok (.if_icmp .eq 48, 3) := by decide +kernel
theorem dX5_allBefore_26 : decode cX5_allBefore 26 = .ok (.iload_n 2, 1) := by decide +kernel
theorem dX5_allBefore_27 : decode cX5_allBefore 27 = .ok (.istore_n 3, 1) := by decide +kernel
theorem dX5_allBefore_28 : decode cX5_allBefore 28 = .ok (.iconst 0, 1) := by decide +kernel
theorem dX5_allBefore_29 : decode cX5_allBefore 29 = .ok (.istore 5, 2) := by decide +kernel
theorem dX5_allBefore_31 : decode cX5_allBefore 31 = .ok (.iload 5, 2) := by decide +kernel
theorem dX5_allBefore_33 : decode cX5_allBefore 33 = .ok (.aload_n 0, 1) := by decide +kernel
theorem dX5_allBefore_34 : decode cX5_allBefore 34 = .ok (.getfield 36, 3) := by decide +kernel
theorem dX5_allBefore_37 : decode cX5_allBefore 37 = .ok (.if_icmp .ge 28, 3) := by decide +kernel
theorem dX5_allBefore_40 : decode cX5_allBefore 40 = .ok (.iload_n 3, 1) := by decide +kernel
theorem dX5_allBefore_41 : decode cX5_allBefore 41 = .ok (.iload 5, 2) := by decide +kernel
theorem dX5_allBefore_43 : decode cX5_allBefore 43 = .ok (.invokestatic 75, 3) := by decide +kernel
theorem dX5_allBefore_46 : decode cX5_allBefore 46 = .ok (.ifCond .eq 13, 3) := by decide +kernel
theorem dX5_allBefore_49 : decode cX5_allBefore 49 = .ok (.iload_n 2, 1) := by decide +kernel
theorem dX5_allBefore_50 : decode cX5_allBefore 50 = .ok (.aload_n 0, 1) := by decide +kernel
theorem dX5_allBefore_51 : decode cX5_allBefore 51 = .ok (.getfield 33, 3) := by decide +kernel
theorem dX5_allBefore_54 : decode cX5_allBefore 54 = .ok (.iload 5, 2) := by decide +kernel
theorem dX5_allBefore_56 : decode cX5_allBefore 56 = .ok (.iaload, 1) := by decide +kernel
theorem dX5_allBefore_57 : decode cX5_allBefore 57 = .ok (.ior, 1) := by decide +kernel
theorem dX5_allBefore_58 : decode cX5_allBefore 58 = .ok (.istore_n 2, 1) := by decide +kernel
theorem dX5_allBefore_59 : decode cX5_allBefore 59 = .ok (.iinc 5 1, 3) := by decide +kernel
theorem dX5_allBefore_62 : decode cX5_allBefore 62 = .ok (.goto (-31), 3) := by decide +kernel
theorem dX5_allBefore_65 : decode cX5_allBefore 65 = .ok (.iinc 4 1, 3) := by decide +kernel
theorem dX5_allBefore_68 : decode cX5_allBefore 68 = .ok (.goto (-56), 3) := by decide +kernel
theorem dX5_allBefore_71 : decode cX5_allBefore 71 = .ok (.iload_n 2, 1) := by decide +kernel
theorem dX5_allBefore_72 : decode cX5_allBefore 72 = .ok (.ireturn, 1) := by decide +kernel
set_option maxRecDepth 20000 in
theorem ggX5_ringOf_X5_allBefore : GoodIn wsX5_ringOf wsX5_allBefore := goodIn_r _ [6, 7, 1, 8, 9, 10, 11, 12, 13, 14, 15, 16, 17, 18, 19] (by decide +kernel) (by decide +kernel)
set_option maxRecDepth 20000 in
theorem gX5_ringOf_X5_allBefore : GoodIn wsX5_ringOf (wsV RX5 79 RX5 yX5_allBefore wsX5_allBefore) := goodIn_app (goodIn_of _ (by decide +kernel)) ggX5_ringOf_X5_allBefore
set_option maxRecDepth 20000 in
theorem ggX5_ringOf_X7_hasBit : GoodIn wsX5_ringOf wsX7_hasBit := goodIn_r _ [10] (by decide +kernel) (by decide +kernel)
set_option maxRecDepth 20000 in
theorem gX5_ringOf_X7_hasBit_n75 : GoodIn wsX5_ringOf (wsX7_hasBit) := ggX5_ringOf_X7_hasBit
theorem dX5_ringOf_0 : decode cX5_ringOf 0 = .ok (.aload_n 0, 1) := by decide +kernel
theorem dX5_ringOf_1 : decode cX5_ringOf 1 = .ok (.iload_n 2, 1) := by decide +kernel
theorem dX5_ringOf_2 : decode cX5_ringOf 2 = .ok (.invokevirtual 79, 3) := by decide +kernel
theorem dX5_ringOf_5 : decode cX5_ringOf 5 = .ok (.iconst 1, 1) := by decide +kernel
theorem dX5_ringOf_6 : decode cX5_ringOf 6 = .ok (.iload_n 2, 1) := by decide +kernel
theorem dX5_ringOf_7 : decode cX5_ringOf 7 = .ok (.ishl, 1) := by decide +kernel
theorem dX5_ringOf_8 : decode cX5_ringOf 8 = .ok (.ior, 1) := by decide +kernel
theorem dX5_ringOf_9 : decode cX5_ringOf 9 = .ok (.istore_n 3, 1) := by decide +kernel
theorem dX5_ringOf_10 : decode cX5_ringOf 10 = .ok (.iload_n 3, 1) := by decide +kernel
theorem dX5_ringOf_11 : decode cX5_ringOf 11 = .ok (.iload_n 1, 1) := by decide +kernel
theorem dX5_ringOf_12 : decode cX5_ringOf 12 = .ok (.invokestatic 75, 3) := by decide +kernel
theorem dX5_ringOf_15 : decode cX5_ringOf 15 = .ok (.ifCond .ne 5, 3) := by decide +kernel
theorem dX5_ringOf_18 : decode cX5_ringOf 18 = .ok (.iconst 0, 1) := by decide +kernel
theorem dX5_ringOf_19 : decode cX5_ringOf 19 = .ok (.ireturn, 1) := by decide +kernel
theorem dX5_ringOf_20 : decode cX5_ringOf 20 = .ok (.iconst 1, 1) := by decide +kernel
theorem dX5_ringOf_21 : decode cX5_ringOf 21 = .ok (.iload_n 1, 1) := by decide +kernel
theorem dX5_ringOf_22 : decode cX5_ringOf 22 = .ok (.ishl, 1) := by decide +kernel
theorem dX5_ringOf_23 : decode cX5_ringOf 23 = .ok (.istore 4, 2) := by decide +kernel
theorem dX5_ringOf_25 : decode cX5_ringOf 25 = .ok (.iconst 0, 1) := by decide +kernel
theorem dX5_ringOf_26 : decode cX5_ringOf 26 = .ok (.istore 5, 2) := by decide +kernel
theorem dX5_ringOf_28 : decode cX5_ringOf 28 = .ok (.iload 5, 2) := by decide +kernel
theorem dX5_ringOf_30 : decode cX5_ringOf 30 = .ok (.aload_n 0, 1) := by decide +kernel
theorem dX5_ringOf_31 : decode cX5_ringOf 31 = .ok (.getfield 36, 3) := by decide +kernel
theorem dX5_ringOf_34 : decode cX5_ringOf 34 = .ok (.if_icmp .ge 40, 3) := by decide +kernel
theorem dX5_ringOf_37 : decode cX5_ringOf 37 = .ok (.iload_n 3, 1) := by decide +kernel
theorem dX5_ringOf_38 : decode cX5_ringOf 38 = .ok (.iload 5, 2) := by decide +kernel
theorem dX5_ringOf_40 : decode cX5_ringOf 40 = .ok (.invokestatic 75, 3) := by decide +kernel
theorem dX5_ringOf_43 : decode cX5_ringOf 43 = .ok (.ifCond .eq 25, 3) := by decide +kernel
theorem dX5_ringOf_46 : decode cX5_ringOf 46 = .ok (.aload_n 0, 1) := by decide +kernel
theorem dX5_ringOf_47 : decode cX5_ringOf 47 = .ok (.iload 5, 2) := by decide +kernel
theorem dX5_ringOf_49 : decode cX5_ringOf 49 = .ok (.invokevirtual 79, 3) := by decide +kernel
theorem dX5_ringOf_52 : decode cX5_ringOf 52 = .ok (.iload_n 1, 1) := by decide +kernel
theorem dX5_ringOf_53 : decode cX5_ringOf 53 = .ok (.invokestatic 75, 3) := by decide +kernel
theorem dX5_ringOf_56 : decode cX5_ringOf 56 = .ok (.ifCond .eq 12, 3) := by decide +kernel
theorem dX5_ringOf_59 : decode cX5_ringOf 59 = .ok (.iload 4, 2) := by decide +kernel
theorem dX5_ringOf_61 : decode cX5_ringOf 61 = .ok (.iconst 1, 1) := by decide +kernel
theorem dX5_ringOf_62 : decode cX5_ringOf 62 = .ok (.iload 5, 2) := by decide +kernel
theorem dX5_ringOf_64 : decode cX5_ringOf 64 = .ok (.ishl, 1) := by decide +kernel
theorem dX5_ringOf_65 : decode cX5_ringOf 65 = .ok (.ior, 1) := by decide +kernel
theorem dX5_ringOf_66 : decode cX5_ringOf 66 = .ok (.istore 4, 2) := by decide +kernel
theorem dX5_ringOf_68 : decode cX5_ringOf 68 = .ok (.iinc 5 1, 3) := by decide +kernel
theorem dX5_ringOf_71 : decode cX5_ringOf 71 = .ok (.goto (-43), 3) := by decide +kernel
theorem dX5_ringOf_74 : decode cX5_ringOf 74 = .ok (.iload 4, 2) := by decide +kernel
theorem dX5_ringOf_76 : decode cX5_ringOf 76 = .ok (.ireturn, 1) := by decide +kernel
set_option maxRecDepth 20000 in
theorem ggX5_arrange_X7_hasBit : GoodIn wsX5_arrange wsX7_hasBit := goodIn_r _ [5] (by decide +kernel) (by decide +kernel)
set_option maxRecDepth 20000 in
theorem gX5_arrange_X7_hasBit_n75 : GoodIn wsX5_arrange (wsX7_hasBit) := ggX5_arrange_X7_hasBit
theorem dX5_arrange_0 : decode cX5_arrange 0 = .ok (.iconst 0, 1) := by decide +kernel
theorem dX5_arrange_1 : decode cX5_arrange 1 = .ok (.istore_n 2, 1) := by decide +kernel
theorem dX5_arrange_2 : decode cX5_arrange 2 = .ok (.iconst 0, 1) := by decide +kernel
theorem dX5_arrange_3 : decode cX5_arrange 3 = .ok (.istore_n 3, 1) := by decide +kernel
theorem dX5_arrange_4 : decode cX5_arrange 4 = .ok (.iload_n 3, 1) := by decide +kernel
theorem dX5_arrange_5 : decode cX5_arrange 5 = .ok (.aload_n 0, 1) := by decide +kernel
theorem dX5_arrange_6 : decode cX5_arrange 6 = .ok (.getfield 36, 3) := by decide +kernel
theorem dX5_arrange_9 : decode cX5_arrange 9 = .ok (.if_icmp .ge 70, 3) := by decide +kernel
theorem dX5_arrange_12 : decode cX5_arrange 12 = .ok (.iconst 0, 1) := by decide +kernel
theorem dX5_arrange_13 : decode cX5_arrange 13 = .ok (.istore 4, 2) := by decide +kernel
theorem dX5_arrange_15 : decode cX5_arrange 15 = .ok (.aload_n 0, 1) := by decide +kernel
theorem dX5_arrange_16 : decode cX5_arrange 16 = .ok (.getfield 36, 3) := by decide +kernel
theorem dX5_arrange_19 : decode cX5_arrange 19 = .ok (.iconst 1, 1) := by decide +kernel
theorem dX5_arrange_20 : decode cX5_arrange 20 = .ok (.isub, 1) := by decide +kernel
theorem dX5_arrange_21 : decode cX5_arrange 21 = .ok (.istore 5, 2) := by decide +kernel
theorem dX5_arrange_23 : decode cX5_arrange 23 = .ok (.iload 5, 2) := by decide +kernel
theorem dX5_arrange_25 : decode cX5_arrange 25 = .ok (.ifCond .lt 36, 3) := by decide +kernel
theorem dX5_arrange_28 : decode cX5_arrange 28 = .ok (.iload_n 2, 1) := by decide +kernel
theorem dX5_arrange_29 : decode cX5_arrange 29 = .ok (.iload 5, 2) := by decide +kernel
theorem dX5_arrange_31 : decode cX5_arrange 31 = .ok (.invokestatic 75, 3) := by decide +kernel
theorem dX5_arrange_34 : decode cX5_arrange 34 = .ok (.ifCond .ne 21, 3) := by decide +kernel
theorem dX5_arrange_37 : decode cX5_arrange 37 = .ok (.aload_n 0, 1) := by decide +kernel
theorem dX5_arrange_38 : decode cX5_arrange 38 = .ok (.getfield 33, 3) := by decide +kernel
theorem dX5_arrange_41 : decode cX5_arrange 41 = .ok (.iload 5, 2) := by decide +kernel
theorem dX5_arrange_43 : decode cX5_arrange 43 = .ok (.iaload, 1) := by decide +kernel
theorem dX5_arrange_44 : decode cX5_arrange 44 = .ok (.iload_n 2, 1) := by decide +kernel
theorem dX5_arrange_45 : decode cX5_arrange 45 = .ok (.iconst (-1), 1) := by decide +kernel
theorem dX5_arrange_46 : decode cX5_arrange 46 = .ok (.ixor, 1) := by decide +kernel
theorem dX5_arrange_47 : decode cX5_arrange 47 = .ok (.iand, 1) := by decide +kernel
theorem dX5_arrange_48 : decode cX5_arrange 48 = .ok (.ifCond .ne 7, 3) := by decide +kernel
theorem dX5_arrange_51 : decode cX5_arrange 51 = .ok (.iload 5, 2) := by decide +kernel
theorem dX5_arrange_53 : decode cX5_arrange 53 = .ok (.istore 4, 2) := by decide +kernel
theorem dX5_arrange_55 : decode cX5_arrange 55 = .ok (.iinc 5 (-1), 3) := by decide +kernel
theorem dX5_arrange_58 : decode cX5_arrange 58 = .ok (.goto (-35), 3) := by decide +kernel
theorem dX5_arrange_61 : decode cX5_arrange 61 = .ok (.aload_n 1, 1) := by decide +kernel
theorem dX5_arrange_62 : decode cX5_arrange 62 = .ok (.iload_n 3, 1) := by decide +kernel
theorem dX5_arrange_63 : decode cX5_arrange 63 = .ok (.iload 4, 2) := by decide +kernel
theorem dX5_arrange_65 : decode cX5_arrange 65 = .ok (.iastore, 1) := by decide +kernel
theorem dX5_arrange_66 : decode cX5_arrange 66 = .ok (.iload_n 2, 1) := by decide +kernel
theorem dX5_arrange_67 : decode cX5_arrange 67 = .ok (.iconst 1, 1) := by decide +kernel
theorem dX5_arrange_68 : decode cX5_arrange 68 = .ok (.iload 4, 2) := by decide +kernel
theorem dX5_arrange_70 : decode cX5_arrange 70 = .ok (.ishl, 1) := by decide +kernel
theorem dX5_arrange_71 : decode cX5_arrange 71 = .ok (.ior, 1) := by decide +kernel
theorem dX5_arrange_72 : decode cX5_arrange 72 = .ok (.istore_n 2, 1) := by decide +kernel
theorem dX5_arrange_73 : decode cX5_arrange 73 = .ok (.iinc 3 1, 3) := by decide +kernel
theorem dX5_arrange_76 : decode cX5_arrange 76 = .ok (.goto (-72), 3) := by decide +kernel
theorem dX5_arrange_79 : decode cX5_arrange 79 = .ok (.return_, 1) := by decide +kernel
theorem dX6_init_0 : decode cX6_init 0 = .ok (.aload_n 0, 1) := by decide +kernel
theorem dX6_init_1 : decode cX6_init 1 = .ok (.invokespecial 3, 3) := by decide +kernel
theorem dX6_init_4 : decode cX6_init 4 = .ok (.aload_n 0, 1) := by decide +kernel
theorem dX6_init_5 : decode cX6_init 5 = .ok (.bipush 12, 2) := by decide +kernel
theorem dX6_init_7 : decode cX6_init 7 = .ok (.newarray .int, 2) := by decide +kernel
theorem dX6_init_9 : decode cX6_init 9 = .ok (.putfield 9, 3) := by decide +kernel
theorem dX6_init_12 : decode cX6_init 12 = .ok (.aload_n 0, 1) := by decide +kernel
theorem dX6_init_13 : decode cX6_init 13 = .ok (.bipush 12, 2) := by decide +kernel
theorem dX6_init_15 : decode cX6_init 15 = .ok (.newarray .int, 2) := by decide +kernel
theorem dX6_init_17 : decode cX6_init 17 = .ok (.putfield 15, 3) := by decide +kernel
theorem dX6_init_20 : decode cX6_init 20 = .ok (.aload_n 0, 1) := by decide +kernel
theorem dX6_init_21 : decode cX6_init 21 = .ok (.bipush 12, 2) := by decide +kernel
theorem dX6_init_23 : decode cX6_init 23 = .ok (.newarray .int, 2) := by decide +kernel
theorem dX6_init_25 : decode cX6_init 25 = .ok (.putfield 18, 3) := by decide +kernel
theorem dX6_init_28 : decode cX6_init 28 = .ok (.return_, 1) := by decide +kernel
set_option maxRecDepth 20000 in
theorem ggX6_beginEarly_X5_arrange : GoodIn wsX6_beginEarly wsX5_arrange := goodIn_r _ [13, 14, 15, 16, 17, 18, 22, 23, 24, 25, 26, 27, 28, 29, 30] (by decide +kernel) (by decide +kernel)
set_option maxRecDepth 20000 in
theorem gX6_beginEarly_X5_arrange : GoodIn wsX6_beginEarly (wsV RX6 21 RX5 yX5_arrange wsX5_arrange) := goodIn_app (goodIn_of _ (by decide +kernel)) ggX6_beginEarly_X5_arrange
set_option maxRecDepth 20000 in
theorem ggX6_beginEarly_X7_hasBit : GoodIn wsX6_beginEarly wsX7_hasBit := goodIn_r _ [18] (by decide +kernel) (by decide +kernel)
set_option maxRecDepth 20000 in
theorem gX6_beginEarly_X7_hasBit_n34 : GoodIn wsX6_beginEarly (wsX7_hasBit) := ggX6_beginEarly_X7_hasBit
theorem dX6_beginEarly_0 : decode cX6_beginEarly 0 = .ok (.aload_n 1, 1) := by decide +kernel
theorem dX6_beginEarly_1 : decode cX6_beginEarly 1 = .ok (.aload_n 0, 1) := by decide +kernel
theorem dX6_beginEarly_2 : decode cX6_beginEarly 2 = .ok (.getfield 9, 3) := by decide +kernel
theorem dX6_beginEarly_5 : decode cX6_beginEarly 5 = .ok (.invokevirtual 21, 3) := by decide +kernel
theorem dX6_beginEarly_8 : decode cX6_beginEarly 8 = .ok (.iconst 0, 1) := by decide +kernel
theorem dX6_beginEarly_9 : decode cX6_beginEarly 9 = .ok (.istore_n 3, 1) := by decide +kernel
theorem dX6_beginEarly_10 : decode cX6_beginEarly 10 = .ok (.iconst 0, 1) := by decide +kernel
theorem dX6_beginEarly_11 : decode cX6_beginEarly 11 = .ok (.istore 4, 2) := by decide +kernel
theorem dX6_beginEarly_13 : decode cX6_beginEarly 13 = .ok (.iload 4, 2) := by decide +kernel
theorem dX6_beginEarly_15 : decode cX6_beginEarly 15 = .ok (.aload_n 1, 1) := by decide +kernel
theorem dX6_beginEarly_16 : decode cX6_beginEarly 16 = .ok (.getfield 27, 3) := by decide +kernel
theorem dX6_beginEarly_19 : decode cX6_beginEarly 19 = .ok (.if_icmp .ge 101, 3) := by decide +kernel
theorem dX6_beginEarly_22 : decode cX6_beginEarly 22 = .ok (.aload_n 0, 1) := by decide +kernel
theorem dX6_beginEarly_23 : decode cX6_beginEarly 23 = .ok (.getfield 9, 3) := by decide +kernel
theorem dX6_beginEarly_26 : decode cX6_beginEarly 26 = .ok (.iload 4, 2) := by decide +kernel
theorem dX6_beginEarly_28 : decode cX6_beginEarly 28 = .ok (.iaload, 1) := by decide +kernel
theorem dX6_beginEarly_29 : decode cX6_beginEarly 29 = .ok (.istore 5, 2) := by decide +kernel
theorem dX6_beginEarly_31 : decode cX6_beginEarly 31 = .ok (.iconst 0, 1) := by decide +kernel
theorem dX6_beginEarly_32 : decode cX6_beginEarly 32 = .ok (.istore 6, 2) := by decide +kernel
theorem dX6_beginEarly_34 : decode cX6_beginEarly 34 = .ok (.iconst 0, 1) := by decide +kernel
theorem dX6_beginEarly_35 : decode cX6_beginEarly 35 = .ok (.istore 7, 2) := by decide +kernel
theorem dX6_beginEarly_37 : decode cX6_beginEarly 37 = .ok (.iload 7, 2) := by decide +kernel
theorem dX6_beginEarly_39 : decode cX6_beginEarly 39 = .ok (.iload 4, 2) := by decide +kernel
theorem dX6_beginEarly_41 : decode cX6_beginEarly 41 = .ok (.if_icmp .ge 52, 3) := by decide +kernel
theorem dX6_beginEarly_44 : decode cX6_beginEarly 44 = .ok (.aload_n 0, 1) := by decide +kernel
theorem dX6_beginEarly_45 : decode cX6_beginEarly 45 = .ok (.getfield 9, 3) := by decide +kernel
theorem dX6_beginEarly_48 : decode cX6_beginEarly 48 = .ok (.iload 7, 2) := by decide +kernel
theorem dX6_beginEarly_50 : decode cX6_beginEarly 50 = .ok (.iaload, 1) := by decide +kernel
theorem dX6_beginEarly_51 : decode cX6_beginEarly 51 = .ok (.istore 8, 2) := by decide +kernel
theorem dX6_beginEarly_53 : decode cX6_beginEarly 53 = .ok (.aload_n 1, 1) := by decide +kernel
theorem dX6_beginEarly_54 : decode cX6_beginEarly 54 = .ok (.getfield 31, 3) := by decide +kernel
theorem dX6_beginEarly_57 : decode cX6_beginEarly 57 = .ok (.iload 5, 2) := by decide +kernel
theorem dX6_beginEarly_59 : decode cX6_beginEarly 59 = .ok (.iaload, 1) := by decide +kernel
theorem dX6_beginEarly_60 : decode cX6_beginEarly 60 = .ok (.iload 8, 2) := by decide +kernel
theorem dX6_beginEarly_62 : decode cX6_beginEarly 62 = .ok (.invokestatic 34, 3) := by decide +kernel
theorem dX6_beginEarly_65 : decode cX6_beginEarly 65 = .ok (.ifCond .eq 22, 3) := by decide +kernel
theorem dX6_beginEarly_68 : decode cX6_beginEarly 68 = .ok (.iload 6, 2) := by decide +kernel
theorem dX6_beginEarly_70 : decode cX6_beginEarly 70 = .ok (.aload_n 0, 1) := by decide +kernel
theorem dX6_beginEarly_71 : decode cX6_beginEarly 71 = .ok (.getfield 15, 3) := by decide +kernel
theorem dX6_beginEarly_74 : decode cX6_beginEarly 74 = .ok (.iload 8, 2) := by decide +kernel
theorem dX6_beginEarly_76 : decode cX6_beginEarly 76 = .ok (.iaload, 1) := by decide +kernel
theorem dX6_beginEarly_77 : decode cX6_beginEarly 77 = .ok (.aload_n 2, 1) := by decide +kernel
theorem dX6_beginEarly_78 : decode cX6_beginEarly 78 = .ok (.iload 8, 2) := by decide +kernel
theorem dX6_beginEarly_80 : decode cX6_beginEarly 80 = .ok (.iaload, 1) := by decide +kernel
theorem dX6_beginEarly_81 : decode cX6_beginEarly 81 = .ok (.iadd, 1) := by decide +kernel
theorem dX6_beginEarly_82 : decode cX6_beginEarly 82 = .ok (.invokestatic 38, 3) := by decide +kernel
theorem dX6_beginEarly_85 : decode cX6_beginEarly 85 = .ok (.istore 6, 2) := by decide +kernel
theorem dX6_beginEarly_87 : decode cX6_beginEarly 87 = .ok (.iinc 7 1, 3) := by decide +kernel
theorem dX6_beginEarly_90 : decode cX6_beginEarly 90 = .ok (.goto (-53), 3) := by decide +kernel
theorem dX6_beginEarly_93 : decode cX6_beginEarly 93 = .ok (.aload_n 0, 1) := by decide +kernel
theorem dX6_beginEarly_94 : decode cX6_beginEarly 94 = .ok (.getfield 15, 3) := by decide +kernel
theorem dX6_beginEarly_97 : decode cX6_beginEarly 97 = .ok (.iload 5, 2) := by decide +kernel
theorem dX6_beginEarly_99 : decode cX6_beginEarly 99 = .ok (.iload 6, 2) := by decide +kernel
theorem dX6_beginEarly_101 : decode cX6_beginEarly 101 = .ok (.iastore, 1) := by decide +kernel
theorem dX6_beginEarly_102 : decode cX6_beginEarly 102 = .ok (.iload_n 3, 1) := by decide +kernel
theorem dX6_beginEarly_103 : decode cX6_beginEarly 103 = .ok (.iload 6, 2) := by decide +kernel
theorem dX6_beginEarly_105 : decode cX6_beginEarly 105 = .ok (.aload_n 2, 1) := by decide +kernel
theorem dX6_beginEarly_106 : decode cX6_beginEarly 106 = .ok (.iload 5, 2) := by decide +kernel
theorem dX6_beginEarly_108 : decode cX6_beginEarly 108 = .ok (.iaload, 1) := by decide +kernel
theorem dX6_beginEarly_109 : decode cX6_beginEarly 109 = .ok (.iadd, 1) := by decide +kernel
theorem dX6_beginEarly_110 : decode cX6_beginEarly 110 = .ok (.invokestatic 38, 3) := by decide +kernel
theorem dX6_beginEarly_113 : decode cX6_beginEarly 113 = .ok (.istore_n 3, 1) := by decide +kernel
theorem dX6_beginEarly_114 : decode cX6_beginEarly 114 = .ok (.iinc 4 1, 3) := by decide +kernel
theorem dX6_beginEarly_117 : decode cX6_beginEarly 117 = .ok (.goto (-104), 3) := by decide +kernel
theorem dX6_beginEarly_120 : decode cX6_beginEarly 120 = .ok (.iload_n 3, 1) := by decide +kernel
theorem dX6_beginEarly_121 : decode cX6_beginEarly 121 = .ok (.ireturn, 1) := by decide +kernel
set_option maxRecDepth 20000 in
theorem ggX6_beginBoth_X6_beginEarly : GoodIn wsX6_beginBoth wsX6_beginEarly := goodIn_r _ [13, 2, 1, 3, 14, 15, 16, 7, 17, 18, 19, 20, 21, 22, 23, 24, 25, 26, 27, 37, 38, 39, 28, 29, 30, 31, 32, 33, 34, 35, 36] (by decide +kernel) (by decide +kernel)
set_option maxRecDepth 20000 in
theorem gX6_beginBoth_X6_beginEarly : GoodIn wsX6_beginBoth (wsV RX6 44 RX6 yX6_beginEarly wsX6_beginEarly) := goodIn_app (goodIn_of _ (by decide +kernel)) ggX6_beginBoth_X6_beginEarly
set_option maxRecDepth 20000 in
theorem ggX6_beginBoth_X7_hasBit : GoodIn wsX6_beginBoth wsX7_hasBit := goodIn_r _ [27] (by decide +kernel) (by decide +kernel)
set_option maxRecDepth 20000 in
theorem gX6_beginBoth_X7_hasBit_n34 : GoodIn wsX6_beginBoth (wsX7_hasBit) := ggX6_beginBoth_X7_hasBit
theorem dX6_beginBoth_0 : decode cX6_beginBoth 0 = .ok (.aload_n 0, 1) := by decide +kernel
theorem dX6_beginBoth_1 : decode cX6_beginBoth 1 = .ok (.aload_n 1, 1) := by decide +kernel
theorem dX6_beginBoth_2 : decode cX6_beginBoth 2 = .ok (.aload_n 2, 1) := by decide +kernel
theorem dX6_beginBoth_3 : decode cX6_beginBoth 3 = .ok (.invokevirtual 44, 3) := by decide +kernel
theorem dX6_beginBoth_6 : decode cX6_beginBoth 6 = .ok (.istore_n 3, 1) := by decide +kernel
theorem dX6_beginBoth_7 : decode cX6_beginBoth 7 = .ok (.aload_n 1, 1) := by decide +kernel
theorem dX6_beginBoth_8 : decode cX6_beginBoth 8 = .ok (.getfield 27, 3) := by decide +kernel
theorem dX6_beginBoth_11 : decode cX6_beginBoth 11 = .ok (.iconst 1, 1) := by decide +kernel
theorem dX6_beginBoth_12 : decode cX6_beginBoth 12 = .ok (.isub, 1) := by decide +kernel
theorem dX6_beginBoth_13 : decode cX6_beginBoth 13 = .ok (.istore 4, 2) := by decide +kernel
theorem dX6_beginBoth_15 : decode cX6_beginBoth 15 = .ok (.iload 4, 2) := by decide +kernel
theorem dX6_beginBoth_17 : decode cX6_beginBoth 17 = .ok (.ifCond .lt 94, 3) := by decide +kernel
theorem dX6_beginBoth_20 : decode cX6_beginBoth 20 = .ok (.aload_n 0, 1) := by decide +kernel
theorem dX6_beginBoth_21 : decode cX6_beginBoth 21 = .ok (.getfield 9, 3) := by decide +kernel
theorem dX6_beginBoth_24 : decode cX6_beginBoth 24 = .ok (.iload 4, 2) := by decide +kernel
theorem dX6_beginBoth_26 : decode cX6_beginBoth 26 = .ok (.iaload, 1) := by decide +kernel
theorem dX6_beginBoth_27 : decode cX6_beginBoth 27 = .ok (.istore 5, 2) := by decide +kernel
theorem dX6_beginBoth_29 : decode cX6_beginBoth 29 = .ok (.iload_n 3, 1) := by decide +kernel
theorem dX6_beginBoth_30 : decode cX6_beginBoth 30 = .ok (.istore 6, 2) := by decide +kernel
theorem dX6_beginBoth_32 : decode cX6_beginBoth 32 = .ok (.iload 4, 2) := by decide +kernel
theorem dX6_beginBoth_34 : decode cX6_beginBoth 34 = .ok (.iconst 1, 1) := by decide +kernel
theorem dX6_beginBoth_35 : decode cX6_beginBoth 35 = .ok (.iadd, 1) := by decide +kernel
theorem dX6_beginBoth_36 : decode cX6_beginBoth 36 = .ok (.istore 7, 2) := by decide +kernel
theorem dX6_beginBoth_38 : decode cX6_beginBoth 38 = .ok (.iload 7, 2) := by decide +kernel
theorem dX6_beginBoth_40 : decode cX6_beginBoth 40 = .ok (.aload_n 1, 1) := by decide +kernel
theorem dX6_beginBoth_41 : decode cX6_beginBoth 41 = .ok (.getfield 27, 3) := by decide +kernel
theorem dX6_beginBoth_44 : decode cX6_beginBoth 44 = .ok (.if_icmp .ge 47, 3) := by decide +kernel
theorem dX6_beginBoth_47 : decode cX6_beginBoth 47 = .ok (.aload_n 0, 1) := by decide +kernel
theorem dX6_beginBoth_48 : decode cX6_beginBoth 48 = .ok (.getfield 9, 3) := by decide +kernel
theorem dX6_beginBoth_51 : decode cX6_beginBoth 51 = .ok (.iload 7, 2) := by decide +kernel
theorem dX6_beginBoth_53 : decode cX6_beginBoth 53 = .ok (.iaload, 1) := by decide +kernel
theorem dX6_beginBoth_54 : decode cX6_beginBoth 54 = .ok (.istore 8, 2) := by decide +kernel
theorem dX6_beginBoth_56 : decode cX6_beginBoth 56 = .ok (.aload_n 1, 1) := by decide +kernel
theorem dX6_beginBoth_57 : decode cX6_beginBoth 57 = .ok (.getfield 31, 3) := by decide +kernel
theorem dX6_beginBoth_60 : decode cX6_beginBoth 60 = .ok (.iload 8, 2) := by decide +kernel
theorem dX6_beginBoth_62 : decode cX6_beginBoth 62 = .ok (.iaload, 1) := by decide +kernel
theorem dX6_beginBoth_63 : decode cX6_beginBoth 63 = .ok (.iload 5, 2) := by decide +kernel
theorem dX6_beginBoth_65 : decode cX6_beginBoth 65 = .ok (.invokestatic 34, 3) := by decide +kernel
theorem dX6_beginBoth_68 : decode cX6_beginBoth 68 = .ok (.ifCond .eq 17, 3) := by decide +kernel
theorem dX6_beginBoth_71 : decode cX6_beginBoth 71 = .ok (.iload 6, 2) := by decide +kernel
theorem dX6_beginBoth_73 : decode cX6_beginBoth 73 = .ok (.aload_n 0, 1) := by decide +kernel
theorem dX6_beginBoth_74 : decode cX6_beginBoth 74 = .ok (.getfield 18, 3) := by decide +kernel
theorem dX6_beginBoth_77 : decode cX6_beginBoth 77 = .ok (.iload 8, 2) := by decide +kernel
theorem dX6_beginBoth_79 : decode cX6_beginBoth 79 = .ok (.iaload, 1) := by decide +kernel
theorem dX6_beginBoth_80 : decode cX6_beginBoth 80 = .ok (.invokestatic 48, 3) := by decide +kernel
theorem dX6_beginBoth_83 : decode cX6_beginBoth 83 = .ok (.istore 6, 2) := by decide +kernel
theorem dX6_beginBoth_85 : decode cX6_beginBoth 85 = .ok (.iinc 7 1, 3) := by decide +kernel
theorem dX6_beginBoth_88 : decode cX6_beginBoth 88 = .ok (.goto (-50), 3) := by decide +kernel
theorem dX6_beginBoth_91 : decode cX6_beginBoth 91 = .ok (.aload_n 0, 1) := by decide +kernel
theorem dX6_beginBoth_92 : decode cX6_beginBoth 92 = .ok (.getfield 18, 3) := by decide +kernel
theorem dX6_beginBoth_95 : decode cX6_beginBoth 95 = .ok (.iload 5, 2) := by decide +kernel
theorem dX6_beginBoth_97 : decode cX6_beginBoth 97 = .ok (.iload 6, 2) := by decide +kernel
theorem dX6_beginBoth_99 : decode cX6_beginBoth 99 = .ok (.aload_n 2, 1) := by decide +kernel
theorem dX6_beginBoth_100 : decode cX6_beginBoth 100 = .ok (.iload 5, 2) := by decide +kernel
theorem dX6_beginBoth_102 : decode cX6_beginBoth 102 = .ok (.iaload, 1) := by decide +kernel
theorem dX6_beginBoth_103 : decode cX6_beginBoth 103 = .ok (.isub, 1) := by decide +kernel
theorem dX6_beginBoth_104 : decode cX6_beginBoth 104 = .ok (.iastore, 1) := by decide +kernel
theorem dX6_beginBoth_105 : decode cX6_beginBoth 105 = .ok (.iinc 4 (-1), 3) := by decide +kernel
theorem dX6_beginBoth_108 : decode cX6_beginBoth 108 = .ok (.goto (-93), 3) := by decide +kernel
theorem dX6_beginBoth_111 : decode cX6_beginBoth 111 = .ok (.return_, 1) := by decide +kernel
set_option maxRecDepth 20000 in
theorem ggX7_init_X2_init : GoodIn wsX7_init wsX2_init := goodIn_r _ [29, 30, 2, 3, 31, 32, 94, 95, 96] (by decide +kernel) (by decide +kernel)
set_option maxRecDepth 20000 in
theorem gX7_init_X2_init_n15 : GoodIn wsX7_init (wsX2_init) := ggX7_init_X2_init
set_option maxRecDepth 20000 in
theorem ggX7_init_X5_init : GoodIn wsX7_init wsX5_init := goodIn_r _ [34, 35, 2, 3, 25, 36, 37, 38, 39, 40, 41, 42, 43, 97, 98, 99, 100, 101, 102, 103, 104, 105] (by decide +kernel) (by decide +kernel)
set_option maxRecDepth 20000 in
theorem gX7_init_X5_init_n18 : GoodIn wsX7_init (wsX5_init) := ggX7_init_X5_init
set_option maxRecDepth 20000 in
theorem ggX7_init_X0_init : GoodIn wsX7_init wsX0_init := goodIn_r _ [45, 46, 2, 3, 25, 47, 48, 49, 106, 107, 108, 109] (by decide +kernel) (by decide +kernel)
set_option maxRecDepth 20000 in
theorem gX7_init_X0_init_n28 : GoodIn wsX7_init (wsX0_init) := ggX7_init_X0_init
set_option maxRecDepth 20000 in
theorem ggX7_init_X6_init : GoodIn wsX7_init wsX6_init := goodIn_r _ [51, 52, 2, 3, 25, 53, 54, 55, 110, 111, 112] (by decide +kernel) (by decide +kernel)
set_option maxRecDepth 20000 in
theorem gX7_init_X6_init_n35 : GoodIn wsX7_init (wsX6_init) := ggX7_init_X6_init
set_option maxRecDepth 20000 in
theorem ggX7_init_X3_init : GoodIn wsX7_init wsX3_init := goodIn_r _ [57, 58, 2, 3, 59, 60, 61, 62, 63, 64, 65, 66, 67, 25, 68, 69, 70, 71, 72, 73, 74, 75, 76, 77, 78, 79, 113, 114, 115, 116, 117, 118, 119, 120, 121, 122, 123, 124, 125, 126, 127, 128, 129, 130] (by decide +kernel) (by decide +kernel)
set_option maxRecDepth 20000 in
theorem gX7_init_X3_init_n42 : GoodIn wsX7_init (wsX3_init) := ggX7_init_X3_init
