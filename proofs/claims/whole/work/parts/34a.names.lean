theorem dX9_know_0 : decode cX9_know 0 = .ok (.aload_n 0, 1) := by decide +kernel
theorem dX9_know_1 : decode cX9_know 1 = .ok (.getfield 125, 3) := by decide +kernel
theorem dX9_know_4 : decode cX9_know 4 = .ok (.ifCond .eq 4, 3) := by decide +kernel
theorem dX9_know_7 : decode cX9_know 7 = .ok (.return_, 1) := by decide +kernel
theorem dX9_know_8 : decode cX9_know 8 = .ok (.aload_n 0, 1) := by decide +kernel
theorem dX9_know_9 : decode cX9_know 9 = .ok (.aload_n 0, 1) := by decide +kernel
theorem dX9_know_10 : decode cX9_know 10 = .ok (.iconst 1, 1) := by decide +kernel
theorem dX9_know_11 : decode cX9_know 11 = .ok (.invokevirtual 231, 3) := by decide +kernel
theorem dX9_know_14 : decode cX9_know 14 = .ok (.putfield 235, 3) := by decide +kernel
theorem dX9_know_17 : decode cX9_know 17 = .ok (.iconst 0, 1) := by decide +kernel
theorem dX9_know_18 : decode cX9_know 18 = .ok (.istore_n 1, 1) := by decide +kernel
theorem dX9_know_19 : decode cX9_know 19 = .ok (.iload_n 1, 1) := by decide +kernel
theorem dX9_know_20 : decode cX9_know 20 = .ok (.aload_n 0, 1) := by decide +kernel
theorem dX9_know_21 : decode cX9_know 21 = .ok (.getfield 10, 3) := by decide +kernel
theorem dX9_know_24 : decode cX9_know 24 = .ok (.getfield 94, 3) := by decide +kernel
theorem dX9_know_27 : decode cX9_know 27 = .ok (.if_icmp .ge 72, 3) := by decide +kernel
theorem dX9_know_30 : decode cX9_know 30 = .ok (.aload_n 0, 1) := by decide +kernel
theorem dX9_know_31 : decode cX9_know 31 = .ok (.getfield 51, 3) := by decide +kernel
theorem dX9_know_34 : decode cX9_know 34 = .ok (.iload_n 1, 1) := by decide +kernel
theorem dX9_know_35 : decode cX9_know 35 = .ok (.aload_n 0, 1) := by decide +kernel
theorem dX9_know_36 : decode cX9_know 36 = .ok (.iload_n 1, 1) := by decide +kernel
theorem dX9_know_37 : decode cX9_know 37 = .ok (.iconst 0, 1) := by decide +kernel
theorem dX9_know_38 : decode cX9_know 38 = .ok (.invokevirtual 169, 3) := by decide +kernel
theorem dX9_know_41 : decode cX9_know 41 = .ok (.iastore, 1) := by decide +kernel
theorem dX9_know_42 : decode cX9_know 42 = .ok (.aload_n 0, 1) := by decide +kernel
theorem dX9_know_43 : decode cX9_know 43 = .ok (.iload_n 1, 1) := by decide +kernel
theorem dX9_know_44 : decode cX9_know 44 = .ok (.iconst 1, 1) := by decide +kernel
theorem dX9_know_45 : decode cX9_know 45 = .ok (.invokevirtual 169, 3) := by decide +kernel
theorem dX9_know_48 : decode cX9_know 48 = .ok (.istore_n 2, 1) := by decide +kernel
theorem dX9_know_49 : decode cX9_know 49 = .ok (.iload_n 2, 1) := by decide +kernel
theorem dX9_know_50 : decode cX9_know 50 = .ok (.aload_n 0, 1) := by decide +kernel
theorem dX9_know_51 : decode cX9_know 51 = .ok (.getfield 51, 3) := by decide +kernel
theorem dX9_know_54 : decode cX9_know 54 = .ok (.iload_n 1, 1) := by decide +kernel
theorem dX9_know_55 : decode cX9_know 55 = .ok (.iaload, 1) := by decide +kernel
theorem dX9_know_56 : decode cX9_know 56 = .ok (.if_icmp .ge 37, 3) := by decide +kernel
theorem dX9_know_59 : decode cX9_know 59 = .ok (.aload_n 0, 1) := by decide +kernel
theorem dX9_know_60 : decode cX9_know 60 = .ok (.iload_n 1, 1) := by decide +kernel
theorem dX9_know_61 : decode cX9_know 61 = .ok (.iload_n 2, 1) := by decide +kernel
theorem dX9_know_62 : decode cX9_know 62 = .ok (.invokevirtual 199, 3) := by decide +kernel
theorem dX9_know_65 : decode cX9_know 65 = .ok (.aload_n 0, 1) := by decide +kernel
theorem dX9_know_66 : decode cX9_know 66 = .ok (.iload_n 1, 1) := by decide +kernel
theorem dX9_know_67 : decode cX9_know 67 = .ok (.aload_n 0, 1) := by decide +kernel
theorem dX9_know_68 : decode cX9_know 68 = .ok (.getfield 51, 3) := by decide +kernel
theorem dX9_know_71 : decode cX9_know 71 = .ok (.iload_n 1, 1) := by decide +kernel
theorem dX9_know_72 : decode cX9_know 72 = .ok (.iaload, 1) := by decide +kernel
theorem dX9_know_73 : decode cX9_know 73 = .ok (.invokevirtual 199, 3) := by decide +kernel
theorem dX9_know_76 : decode cX9_know 76 = .ok (.lcmp, 1) := by decide +kernel
theorem dX9_know_77 : decode cX9_know 77 = .ok (.ifCond .ge 10, 3) := by decide +kernel
theorem dX9_know_80 : decode cX9_know 80 = .ok (.aload_n 0, 1) := by decide +kernel
theorem dX9_know_81 : decode cX9_know 81 = .ok (.getfield 51, 3) := by decide +kernel
theorem dX9_know_84 : decode cX9_know 84 = .ok (.iload_n 1, 1) := by decide +kernel
theorem dX9_know_85 : decode cX9_know 85 = .ok (.iload_n 2, 1) := by decide +kernel
theorem dX9_know_86 : decode cX9_know 86 = .ok (.iastore, 1) := by decide +kernel
theorem dX9_know_87 : decode cX9_know 87 = .ok (.iinc 2 1, 3) := by decide +kernel
theorem dX9_know_90 : decode cX9_know 90 = .ok (.goto (-41), 3) := by decide +kernel
theorem dX9_know_93 : decode cX9_know 93 = .ok (.iinc 1 1, 3) := by decide +kernel
theorem dX9_know_96 : decode cX9_know 96 = .ok (.goto (-77), 3) := by decide +kernel
theorem dX9_know_99 : decode cX9_know 99 = .ok (.aload_n 0, 1) := by decide +kernel
theorem dX9_know_100 : decode cX9_know 100 = .ok (.invokevirtual 184, 3) := by decide +kernel
theorem dX9_know_103 : decode cX9_know 103 = .ok (.istore_n 1, 1) := by decide +kernel
theorem dX9_know_104 : decode cX9_know 104 = .ok (.aload_n 0, 1) := by decide +kernel
theorem dX9_know_105 : decode cX9_know 105 = .ok (.invokevirtual 238, 3) := by decide +kernel
theorem dX9_know_108 : decode cX9_know 108 = .ok (.sipush 720, 3) := by decide +kernel
theorem dX9_know_111 : decode cX9_know 111 = .ok (.istore_n 2, 1) := by decide +kernel
theorem dX9_know_112 : decode cX9_know 112 = .ok (.iload_n 2, 1) := by decide +kernel
theorem dX9_know_113 : decode cX9_know 113 = .ok (.aload_n 0, 1) := by decide +kernel
theorem dX9_know_114 : decode cX9_know 114 = .ok (.getfield 235, 3) := by decide +kernel
theorem dX9_know_117 : decode cX9_know 117 = .ok (.if_icmp .lt 37, 3) := by decide +kernel
theorem dX9_know_120 : decode cX9_know 120 = .ok (.aload_n 0, 1) := by decide +kernel
theorem dX9_know_121 : decode cX9_know 121 = .ok (.invokevirtual 241, 3) := by decide +kernel
theorem dX9_know_124 : decode cX9_know 124 = .ok (.iload_n 2, 1) := by decide +kernel
theorem dX9_know_125 : decode cX9_know 125 = .ok (.if_icmp .le 13, 3) := by decide +kernel
theorem dX9_know_128 : decode cX9_know 128 = .ok (.aload_n 0, 1) := by decide +kernel
theorem dX9_know_129 : decode cX9_know 129 = .ok (.iconst (-1), 1) := by decide +kernel
theorem dX9_know_130 : decode cX9_know 130 = .ok (.iload_n 2, 1) := by decide +kernel
theorem dX9_know_131 : decode cX9_know 131 = .ok (.invokevirtual 244, 3) := by decide +kernel
theorem dX9_know_134 : decode cX9_know 134 = .ok (.istore_n 3, 1) := by decide +kernel
theorem dX9_know_135 : decode cX9_know 135 = .ok (.goto (-15), 3) := by decide +kernel
theorem dX9_know_138 : decode cX9_know 138 = .ok (.aload_n 0, 1) := by decide +kernel
theorem dX9_know_139 : decode cX9_know 139 = .ok (.getfield 78, 3) := by decide +kernel
theorem dX9_know_142 : decode cX9_know 142 = .ok (.iload_n 2, 1) := by decide +kernel
theorem dX9_know_143 : decode cX9_know 143 = .ok (.aload_n 0, 1) := by decide +kernel
theorem dX9_know_144 : decode cX9_know 144 = .ok (.invokevirtual 247, 3) := by decide +kernel
theorem dX9_know_147 : decode cX9_know 147 = .ok (.lastore, 1) := by decide +kernel
theorem dX9_know_148 : decode cX9_know 148 = .ok (.iinc 2 (-1), 3) := by decide +kernel
theorem dX9_know_151 : decode cX9_know 151 = .ok (.goto (-39), 3) := by decide +kernel
theorem dX9_know_154 : decode cX9_know 154 = .ok (.aload_n 0, 1) := by decide +kernel
theorem dX9_know_155 : decode cX9_know 155 = .ok (.iconst 1, 1) := by decide +kernel
theorem dX9_know_156 : decode cX9_know 156 = .ok (.putfield 125, 3) := by decide +kernel
theorem dX9_know_159 : decode cX9_know 159 = .ok (.return_, 1) := by decide +kernel
theorem dX9_lengthNow_0 : decode cX9_lengthNow 0 = .ok (.iconst 0, 1) := by decide +kernel
theorem dX9_lengthNow_1 : decode cX9_lengthNow 1 = .ok (.istore_n 1, 1) := by decide +kernel
theorem dX9_lengthNow_2 : decode cX9_lengthNow 2 = .ok (.iconst 0, 1) := by decide +kernel
theorem dX9_lengthNow_3 : decode cX9_lengthNow 3 = .ok (.istore_n 2, 1) := by decide +kernel
theorem dX9_lengthNow_4 : decode cX9_lengthNow 4 = .ok (.iload_n 2, 1) := by decide +kernel
theorem dX9_lengthNow_5 : decode cX9_lengthNow 5 = .ok (.aload_n 0, 1) := by decide +kernel
theorem dX9_lengthNow_6 : decode cX9_lengthNow 6 = .ok (.getfield 10, 3) := by decide +kernel
theorem dX9_lengthNow_9 : decode cX9_lengthNow 9 = .ok (.getfield 94, 3) := by decide +kernel
theorem dX9_lengthNow_12 : decode cX9_lengthNow 12 = .ok (.if_icmp .ge 23, 3) := by decide +kernel
theorem dX9_lengthNow_15 : decode cX9_lengthNow 15 = .ok (.iload_n 1, 1) := by decide +kernel
theorem dX9_lengthNow_16 : decode cX9_lengthNow 16 = .ok (.aload_n 0, 1) := by decide +kernel
theorem dX9_lengthNow_17 : decode cX9_lengthNow 17 = .ok (.getfield 60, 3) := by decide +kernel
theorem dX9_lengthNow_20 : decode cX9_lengthNow 20 = .ok (.bipush 12, 2) := by decide +kernel
theorem dX9_lengthNow_22 : decode cX9_lengthNow 22 = .ok (.iload_n 2, 1) := by decide +kernel
theorem dX9_lengthNow_23 : decode cX9_lengthNow 23 = .ok (.iadd, 1) := by decide +kernel
theorem dX9_lengthNow_24 : decode cX9_lengthNow 24 = .ok (.iaload, 1) := by decide +kernel
theorem dX9_lengthNow_25 : decode cX9_lengthNow 25 = .ok (.invokestatic 179, 3) := by decide +kernel
theorem dX9_lengthNow_28 : decode cX9_lengthNow 28 = .ok (.istore_n 1, 1) := by decide +kernel
theorem dX9_lengthNow_29 : decode cX9_lengthNow 29 = .ok (.iinc 2 1, 3) := by decide +kernel
theorem dX9_lengthNow_32 : decode cX9_lengthNow 32 = .ok (.goto (-28), 3) := by decide +kernel
theorem dX9_lengthNow_35 : decode cX9_lengthNow 35 = .ok (.iload_n 1, 1) := by decide +kernel
theorem dX9_lengthNow_36 : decode cX9_lengthNow 36 = .ok (.ireturn, 1) := by decide +kernel
set_option maxRecDepth 20000 in
theorem ggX9_cheapAt_X9_know : GoodIn wsX9_cheapAt wsX9_know := goodIn_r _ [11, 12, 13, 14, 15, 16, 1, 17, 18, 19, 10, 20, 21, 22, 23, 24, 25, 26, 27, 28, 29, 30, 31, 32, 33, 34, 5, 35, 36, 37, 38, 39, 40, 41, 42, 43, 44, 45, 46, 47, 48, 49, 50, 51, 52, 53, 54, 55, 56, 57, 58, 59, 60, 61, 62, 63, 64, 65, 66, 67, 68, 69, 70, 71, 72, 73, 74, 75, 76, 77, 78, 79, 80, 81, 82, 83, 84, 85, 86, 87, 88, 89, 90, 91, 92, 3, 4, 6, 93, 94, 95, 96, 97, 98, 99, 100, 101, 102, 103, 104, 105, 106, 107, 108, 109, 110, 111, 112, 113, 114, 115, 116, 117, 118, 119, 120, 121, 122, 123, 124, 125, 126, 127, 128, 129, 130, 131, 132, 133] (by decide +kernel) (by decide +kernel)
set_option maxRecDepth 20000 in
theorem gX9_cheapAt_X9_know : GoodIn wsX9_cheapAt (wsV RX9 251 RX9 yX9_know wsX9_know) := goodIn_app (goodIn_of _ (by decide +kernel)) ggX9_cheapAt_X9_know
