theorem dX9_hurried_0 : decode cX9_hurried 0 = .ok (.aload_n 0, 1) := by decide +kernel
theorem dX9_hurried_1 : decode cX9_hurried 1 = .ok (.iload_n 1, 1) := by decide +kernel
theorem dX9_hurried_2 : decode cX9_hurried 2 = .ok (.invokevirtual 262, 3) := by decide +kernel
theorem dX9_hurried_5 : decode cX9_hurried 5 = .ok (.istore_n 3, 1) := by decide +kernel
theorem dX9_hurried_6 : decode cX9_hurried 6 = .ok (.iload_n 3, 1) := by decide +kernel
theorem dX9_hurried_7 : decode cX9_hurried 7 = .ok (.ifCond .eq 9, 3) := by decide +kernel
theorem dX9_hurried_10 : decode cX9_hurried 10 = .ok (.aload_n 0, 1) := by decide +kernel
theorem dX9_hurried_11 : decode cX9_hurried 11 = .ok (.iload_n 3, 1) := by decide +kernel
theorem dX9_hurried_12 : decode cX9_hurried 12 = .ok (.invokevirtual 107, 3) := by decide +kernel
theorem dX9_hurried_15 : decode cX9_hurried 15 = .ok (.ireturn, 1) := by decide +kernel
theorem dX9_hurried_16 : decode cX9_hurried 16 = .ok (.aload_n 0, 1) := by decide +kernel
theorem dX9_hurried_17 : decode cX9_hurried 17 = .ok (.iload_n 1, 1) := by decide +kernel
theorem dX9_hurried_18 : decode cX9_hurried 18 = .ok (.invokevirtual 271, 3) := by decide +kernel
theorem dX9_hurried_21 : decode cX9_hurried 21 = .ok (.iconst 0, 1) := by decide +kernel
theorem dX9_hurried_22 : decode cX9_hurried 22 = .ok (.istore 4, 2) := by decide +kernel
theorem dX9_hurried_24 : decode cX9_hurried 24 = .ok (.iload 4, 2) := by decide +kernel
theorem dX9_hurried_26 : decode cX9_hurried 26 = .ok (.aload_n 0, 1) := by decide +kernel
theorem dX9_hurried_27 : decode cX9_hurried 27 = .ok (.getfield 10, 3) := by decide +kernel
theorem dX9_hurried_30 : decode cX9_hurried 30 = .ok (.getfield 94, 3) := by decide +kernel
theorem dX9_hurried_33 : decode cX9_hurried 33 = .ok (.if_icmp .ge 34, 3) := by decide +kernel
theorem dX9_hurried_36 : decode cX9_hurried 36 = .ok (.aload_n 0, 1) := by decide +kernel
theorem dX9_hurried_37 : decode cX9_hurried 37 = .ok (.getfield 87, 3) := by decide +kernel
theorem dX9_hurried_40 : decode cX9_hurried 40 = .ok (.iload 4, 2) := by decide +kernel
theorem dX9_hurried_42 : decode cX9_hurried 42 = .ok (.aload_n 0, 1) := by decide +kernel
theorem dX9_hurried_43 : decode cX9_hurried 43 = .ok (.getfield 60, 3) := by decide +kernel
theorem dX9_hurried_46 : decode cX9_hurried 46 = .ok (.bipush 12, 2) := by decide +kernel
theorem dX9_hurried_48 : decode cX9_hurried 48 = .ok (.iload 4, 2) := by decide +kernel
theorem dX9_hurried_50 : decode cX9_hurried 50 = .ok (.iadd, 1) := by decide +kernel
theorem dX9_hurried_51 : decode cX9_hurried 51 = .ok (.iaload, 1) := by decide +kernel
theorem dX9_hurried_52 : decode cX9_hurried 52 = .ok (.aload_n 0, 1) := by decide +kernel
theorem dX9_hurried_53 : decode cX9_hurried 53 = .ok (.getfield 60, 3) := by decide +kernel
theorem dX9_hurried_56 : decode cX9_hurried 56 = .ok (.iload 4, 2) := by decide +kernel
theorem dX9_hurried_58 : decode cX9_hurried 58 = .ok (.iaload, 1) := by decide +kernel
theorem dX9_hurried_59 : decode cX9_hurried 59 = .ok (.isub, 1) := by decide +kernel
theorem dX9_hurried_60 : decode cX9_hurried 60 = .ok (.iastore, 1) := by decide +kernel
theorem dX9_hurried_61 : decode cX9_hurried 61 = .ok (.iinc 4 1, 3) := by decide +kernel
theorem dX9_hurried_64 : decode cX9_hurried 64 = .ok (.goto (-40), 3) := by decide +kernel
theorem dX9_hurried_67 : decode cX9_hurried 67 = .ok (.aload_n 0, 1) := by decide +kernel
theorem dX9_hurried_68 : decode cX9_hurried 68 = .ok (.iload_n 1, 1) := by decide +kernel
theorem dX9_hurried_69 : decode cX9_hurried 69 = .ok (.iconst 1, 1) := by decide +kernel
theorem dX9_hurried_70 : decode cX9_hurried 70 = .ok (.iadd, 1) := by decide +kernel
theorem dX9_hurried_71 : decode cX9_hurried 71 = .ok (.invokevirtual 271, 3) := by decide +kernel
theorem dX9_hurried_74 : decode cX9_hurried 74 = .ok (.iconst 0, 1) := by decide +kernel
theorem dX9_hurried_75 : decode cX9_hurried 75 = .ok (.istore 4, 2) := by decide +kernel
theorem dX9_hurried_77 : decode cX9_hurried 77 = .ok (.iconst 0, 1) := by decide +kernel
theorem dX9_hurried_78 : decode cX9_hurried 78 = .ok (.istore 5, 2) := by decide +kernel
theorem dX9_hurried_80 : decode cX9_hurried 80 = .ok (.iload 5, 2) := by decide +kernel
theorem dX9_hurried_82 : decode cX9_hurried 82 = .ok (.aload_n 0, 1) := by decide +kernel
theorem dX9_hurried_83 : decode cX9_hurried 83 = .ok (.getfield 10, 3) := by decide +kernel
theorem dX9_hurried_86 : decode cX9_hurried 86 = .ok (.getfield 94, 3) := by decide +kernel
theorem dX9_hurried_89 : decode cX9_hurried 89 = .ok (.if_icmp .ge 73, 3) := by decide +kernel
theorem dX9_hurried_92 : decode cX9_hurried 92 = .ok (.aload_n 0, 1) := by decide +kernel
theorem dX9_hurried_93 : decode cX9_hurried 93 = .ok (.getfield 60, 3) := by decide +kernel
theorem dX9_hurried_96 : decode cX9_hurried 96 = .ok (.bipush 12, 2) := by decide +kernel
theorem dX9_hurried_98 : decode cX9_hurried 98 = .ok (.iload 5, 2) := by decide +kernel
theorem dX9_hurried_100 : decode cX9_hurried 100 = .ok (.iadd, 1) := by decide +kernel
theorem dX9_hurried_101 : decode cX9_hurried 101 = .ok (.iaload, 1) := by decide +kernel
theorem dX9_hurried_102 : decode cX9_hurried 102 = .ok (.aload_n 0, 1) := by decide +kernel
theorem dX9_hurried_103 : decode cX9_hurried 103 = .ok (.getfield 60, 3) := by decide +kernel
theorem dX9_hurried_106 : decode cX9_hurried 106 = .ok (.iload 5, 2) := by decide +kernel
theorem dX9_hurried_108 : decode cX9_hurried 108 = .ok (.iaload, 1) := by decide +kernel
theorem dX9_hurried_109 : decode cX9_hurried 109 = .ok (.isub, 1) := by decide +kernel
theorem dX9_hurried_110 : decode cX9_hurried 110 = .ok (.istore 6, 2) := by decide +kernel
theorem dX9_hurried_112 : decode cX9_hurried 112 = .ok (.iload 4, 2) := by decide +kernel
theorem dX9_hurried_114 : decode cX9_hurried 114 = .ok (.iload_n 2, 1) := by decide +kernel
theorem dX9_hurried_115 : decode cX9_hurried 115 = .ok (.ifCond .eq 18, 3) := by decide +kernel
theorem dX9_hurried_118 : decode cX9_hurried 118 = .ok (.aload_n 0, 1) := by decide +kernel
theorem dX9_hurried_119 : decode cX9_hurried 119 = .ok (.getfield 87, 3) := by decide +kernel
theorem dX9_hurried_122 : decode cX9_hurried 122 = .ok (.iload 5, 2) := by decide +kernel
theorem dX9_hurried_124 : decode cX9_hurried 124 = .ok (.iaload, 1) := by decide +kernel
theorem dX9_hurried_125 : decode cX9_hurried 125 = .ok (.iload 6, 2) := by decide +kernel
theorem dX9_hurried_127 : decode cX9_hurried 127 = .ok (.if_icmp .le 25, 3) := by decide +kernel
theorem dX9_hurried_130 : decode cX9_hurried 130 = .ok (.goto 15, 3) := by decide +kernel
theorem dX9_hurried_133 : decode cX9_hurried 133 = .ok (.aload_n 0, 1) := by decide +kernel
theorem dX9_hurried_134 : decode cX9_hurried 134 = .ok (.getfield 87, 3) := by decide +kernel
theorem dX9_hurried_137 : decode cX9_hurried 137 = .ok (.iload 5, 2) := by decide +kernel
theorem dX9_hurried_139 : decode cX9_hurried 139 = .ok (.iaload, 1) := by decide +kernel
theorem dX9_hurried_140 : decode cX9_hurried 140 = .ok (.iload 6, 2) := by decide +kernel
theorem dX9_hurried_142 : decode cX9_hurried 142 = .ok (.if_icmp .ge 10, 3) := by decide +kernel
theorem dX9_hurried_145 : decode cX9_hurried 145 = .ok (.iconst 1, 1) := by decide +kernel
theorem dX9_hurried_146 : decode cX9_hurried 146 = .ok (.iload 5, 2) := by decide +kernel
theorem dX9_hurried_148 : decode cX9_hurried 148 = .ok (.ishl, 1) := by decide +kernel
theorem dX9_hurried_149 : decode cX9_hurried 149 = .ok (.goto 4, 3) := by decide +kernel
theorem dX9_hurried_152 : decode cX9_hurried 152 = .ok (.iconst 0, 1) := by decide +kernel
theorem dX9_hurried_153 : decode cX9_hurried 153 = .ok (.ior, 1) := by decide +kernel
theorem dX9_hurried_154 : decode cX9_hurried 154 = .ok (.istore 4, 2) := by decide +kernel
theorem dX9_hurried_156 : decode cX9_hurried 156 = .ok (.iinc 5 1, 3) := by decide +kernel
theorem dX9_hurried_159 : decode cX9_hurried 159 = .ok (.goto (-79), 3) := by decide +kernel
theorem dX9_hurried_162 : decode cX9_hurried 162 = .ok (.iload 4, 2) := by decide +kernel
theorem dX9_hurried_164 : decode cX9_hurried 164 = .ok (.ireturn, 1) := by decide +kernel
set_option maxRecDepth 20000 in
theorem ggX9_tell_X9_found : GoodIn wsX9_tell wsX9_found := goodIn_r _ [7, 8, 9, 10, 11, 12, 13, 14, 15, 16, 17, 18, 19, 20, 21, 22, 23, 24, 25, 26, 27, 28, 29, 30, 31, 32, 33, 34, 35, 36, 37, 38, 39, 40] rfl (by decide +kernel)
set_option maxRecDepth 20000 in
theorem gX9_tell_X9_found : GoodIn wsX9_tell (wsV RX9 107 RX9 yX9_found wsX9_found) := goodIn_app (goodIn_of _ (by decide +kernel)) ggX9_tell_X9_found
theorem dX9_tell_0 : decode cX9_tell 0 = .ok (.aload_n 0, 1) := by decide +kernel
theorem dX9_tell_1 : decode cX9_tell 1 = .ok (.getfield 275, 3) := by decide +kernel
theorem dX9_tell_4 : decode cX9_tell 4 = .ok (.bipush 60, 2) := by decide +kernel
theorem dX9_tell_6 : decode cX9_tell 6 = .ok (.if_icmp .ne 10, 3) := by decide +kernel
theorem dX9_tell_9 : decode cX9_tell 9 = .ok (.aload_n 0, 1) := by decide +kernel
theorem dX9_tell_10 : decode cX9_tell 10 = .ok (.bipush (-5), 2) := by decide +kernel
theorem dX9_tell_12 : decode cX9_tell 12 = .ok (.invokevirtual 107, 3) := by decide +kernel
theorem dX9_tell_15 : decode cX9_tell 15 = .ok (.ireturn, 1) := by decide +kernel
theorem dX9_tell_16 : decode cX9_tell 16 = .ok (.aload_n 0, 1) := by decide +kernel
theorem dX9_tell_17 : decode cX9_tell 17 = .ok (.getfield 31, 3) := by decide +kernel
theorem dX9_tell_20 : decode cX9_tell 20 = .ok (.aload_n 0, 1) := by decide +kernel
theorem dX9_tell_21 : decode cX9_tell 21 = .ok (.getfield 275, 3) := by decide +kernel
theorem dX9_tell_24 : decode cX9_tell 24 = .ok (.iload_n 1, 1) := by decide +kernel
theorem dX9_tell_25 : decode cX9_tell 25 = .ok (.iastore, 1) := by decide +kernel
theorem dX9_tell_26 : decode cX9_tell 26 = .ok (.aload_n 0, 1) := by decide +kernel
theorem dX9_tell_27 : decode cX9_tell 27 = .ok (.dup, 1) := by decide +kernel
theorem dX9_tell_28 : decode cX9_tell 28 = .ok (.getfield 275, 3) := by decide +kernel
theorem dX9_tell_31 : decode cX9_tell 31 = .ok (.iconst 1, 1) := by decide +kernel
theorem dX9_tell_32 : decode cX9_tell 32 = .ok (.iadd, 1) := by decide +kernel
theorem dX9_tell_33 : decode cX9_tell 33 = .ok (.putfield 275, 3) := by decide +kernel
theorem dX9_tell_36 : decode cX9_tell 36 = .ok (.aload_n 0, 1) := by decide +kernel
theorem dX9_tell_37 : decode cX9_tell 37 = .ok (.getfield 275, 3) := by decide +kernel
theorem dX9_tell_40 : decode cX9_tell 40 = .ok (.ireturn, 1) := by decide +kernel
set_option maxRecDepth 20000 in
theorem ggX9_isGood_X9_number : GoodIn wsX9_isGood wsX9_number := goodIn_r _ [9, 2, 10, 14, 15, 16, 17, 18, 19, 20, 21, 22, 23, 24, 25, 26, 27, 28, 29, 30, 31, 32, 33, 34, 35, 36, 37, 38, 39, 40, 41, 42, 43, 44, 45, 46, 47, 48, 49, 50] rfl (by decide +kernel)
set_option maxRecDepth 20000 in
theorem gX9_isGood_X9_number : GoodIn wsX9_isGood (wsV RX9 169 RX9 yX9_number wsX9_number) := goodIn_app (goodIn_of _ (by decide +kernel)) ggX9_isGood_X9_number
set_option maxRecDepth 20000 in
theorem ggX9_isGood_X9_in : GoodIn wsX9_isGood wsX9_in := goodIn_r _ [13] rfl (by decide +kernel)
set_option maxRecDepth 20000 in
theorem gX9_isGood_X9_in : GoodIn wsX9_isGood (va_wsS RX9 97 yX9_in wsX9_in) := goodIn_app (goodIn_of _ (by decide +kernel)) ggX9_isGood_X9_in
theorem dX9_isGood_0 : decode cX9_isGood 0 = .ok (.iconst 2, 1) := by decide +kernel
theorem dX9_isGood_1 : decode cX9_isGood 1 = .ok (.iload_n 1, 1) := by decide +kernel
theorem dX9_isGood_2 : decode cX9_isGood 2 = .ok (.imul, 1) := by decide +kernel
theorem dX9_isGood_3 : decode cX9_isGood 3 = .ok (.iconst 1, 1) := by decide +kernel
theorem dX9_isGood_4 : decode cX9_isGood 4 = .ok (.iadd, 1) := by decide +kernel
theorem dX9_isGood_5 : decode cX9_isGood 5 = .ok (.iload_n 3, 1) := by decide +kernel
theorem dX9_isGood_6 : decode cX9_isGood 6 = .ok (.if_icmp .lt 5, 3) := by decide +kernel
theorem dX9_isGood_9 : decode cX9_isGood 9 = .ok (.iconst 0, 1) := by decide +kernel
theorem dX9_isGood_10 : decode cX9_isGood 10 = .ok (.ireturn, 1) := by decide +kernel
theorem dX9_isGood_11 : decode cX9_isGood 11 = .ok (.aload_n 0, 1) := by decide +kernel
theorem dX9_isGood_12 : decode cX9_isGood 12 = .ok (.getfield 31, 3) := by decide +kernel
theorem dX9_isGood_15 : decode cX9_isGood 15 = .ok (.iconst 2, 1) := by decide +kernel
theorem dX9_isGood_16 : decode cX9_isGood 16 = .ok (.iload_n 1, 1) := by decide +kernel
theorem dX9_isGood_17 : decode cX9_isGood 17 = .ok (.imul, 1) := by decide +kernel
theorem dX9_isGood_18 : decode cX9_isGood 18 = .ok (.iaload, 1) := by decide +kernel
theorem dX9_isGood_19 : decode cX9_isGood 19 = .ok (.i2l, 1) := by decide +kernel
theorem dX9_isGood_20 : decode cX9_isGood 20 = .ok (.lstore 4, 2) := by decide +kernel
theorem dX9_isGood_22 : decode cX9_isGood 22 = .ok (.aload_n 0, 1) := by decide +kernel
theorem dX9_isGood_23 : decode cX9_isGood 23 = .ok (.getfield 31, 3) := by decide +kernel
theorem dX9_isGood_26 : decode cX9_isGood 26 = .ok (.iconst 2, 1) := by decide +kernel
theorem dX9_isGood_27 : decode cX9_isGood 27 = .ok (.iload_n 1, 1) := by decide +kernel
theorem dX9_isGood_28 : decode cX9_isGood 28 = .ok (.imul, 1) := by decide +kernel
theorem dX9_isGood_29 : decode cX9_isGood 29 = .ok (.iconst 1, 1) := by decide +kernel
theorem dX9_isGood_30 : decode cX9_isGood 30 = .ok (.iadd, 1) := by decide +kernel
theorem dX9_isGood_31 : decode cX9_isGood 31 = .ok (.iaload, 1) := by decide +kernel
theorem dX9_isGood_32 : decode cX9_isGood 32 = .ok (.istore 6, 2) := by decide +kernel
theorem dX9_isGood_34 : decode cX9_isGood 34 = .ok (.iload 6, 2) := by decide +kernel
theorem dX9_isGood_36 : decode cX9_isGood 36 = .ok (.i2l, 1) := by decide +kernel
theorem dX9_isGood_37 : decode cX9_isGood 37 = .ok (.aload_n 0, 1) := by decide +kernel
theorem dX9_isGood_38 : decode cX9_isGood 38 = .ok (.iload_n 1, 1) := by decide +kernel
theorem dX9_isGood_39 : decode cX9_isGood 39 = .ok (.iconst 1, 1) := by decide +kernel
theorem dX9_isGood_40 : decode cX9_isGood 40 = .ok (.invokevirtual 169, 3) := by decide +kernel
theorem dX9_isGood_43 : decode cX9_isGood 43 = .ok (.i2l, 1) := by decide +kernel
theorem dX9_isGood_44 : decode cX9_isGood 44 = .ok (.aload_n 0, 1) := by decide +kernel
theorem dX9_isGood_45 : decode cX9_isGood 45 = .ok (.iload_n 1, 1) := by decide +kernel
theorem dX9_isGood_46 : decode cX9_isGood 46 = .ok (.iconst 0, 1) := by decide +kernel
theorem dX9_isGood_47 : decode cX9_isGood 47 = .ok (.invokevirtual 169, 3) := by decide +kernel
theorem dX9_isGood_50 : decode cX9_isGood 50 = .ok (.i2l, 1) := by decide +kernel
theorem dX9_isGood_51 : decode cX9_isGood 51 = .ok (.invokestatic 97, 3) := by decide +kernel
theorem dX9_isGood_54 : decode cX9_isGood 54 = .ok (.ifCond .eq 22, 3) := by decide +kernel
theorem dX9_isGood_57 : decode cX9_isGood 57 = .ok (.lload 4, 2) := by decide +kernel
theorem dX9_isGood_59 : decode cX9_isGood 59 = .ok (.lconst 0, 1) := by decide +kernel
theorem dX9_isGood_60 : decode cX9_isGood 60 = .ok (.lcmp, 1) := by decide +kernel
theorem dX9_isGood_61 : decode cX9_isGood 61 = .ok (.ifCond .lt 15, 3) := by decide +kernel
theorem dX9_isGood_64 : decode cX9_isGood 64 = .ok (.lload 4, 2) := by decide +kernel
theorem dX9_isGood_66 : decode cX9_isGood 66 = .ok (.iload 6, 2) := by decide +kernel
theorem dX9_isGood_68 : decode cX9_isGood 68 = .ok (.i2l, 1) := by decide +kernel
theorem dX9_isGood_69 : decode cX9_isGood 69 = .ok (.ladd, 1) := by decide +kernel
theorem dX9_isGood_70 : decode cX9_isGood 70 = .ok (.iload_n 2, 1) := by decide +kernel
theorem dX9_isGood_71 : decode cX9_isGood 71 = .ok (.i2l, 1) := by decide +kernel
theorem dX9_isGood_72 : decode cX9_isGood 72 = .ok (.lcmp, 1) := by decide +kernel
theorem dX9_isGood_73 : decode cX9_isGood 73 = .ok (.ifCond .le 5, 3) := by decide +kernel
theorem dX9_isGood_76 : decode cX9_isGood 76 = .ok (.iconst 0, 1) := by decide +kernel
theorem dX9_isGood_77 : decode cX9_isGood 77 = .ok (.ireturn, 1) := by decide +kernel
theorem dX9_isGood_78 : decode cX9_isGood 78 = .ok (.iconst 1, 1) := by decide +kernel
theorem dX9_isGood_79 : decode cX9_isGood 79 = .ok (.istore 7, 2) := by decide +kernel
theorem dX9_isGood_81 : decode cX9_isGood 81 = .ok (.iconst 0, 1) := by decide +kernel
theorem dX9_isGood_82 : decode cX9_isGood 82 = .ok (.istore 8, 2) := by decide +kernel
theorem dX9_isGood_84 : decode cX9_isGood 84 = .ok (.iload 8, 2) := by decide +kernel
theorem dX9_isGood_86 : decode cX9_isGood 86 = .ok (.aload_n 0, 1) := by decide +kernel
theorem dX9_isGood_87 : decode cX9_isGood 87 = .ok (.getfield 10, 3) := by decide +kernel
theorem dX9_isGood_90 : decode cX9_isGood 90 = .ok (.getfield 94, 3) := by decide +kernel
theorem dX9_isGood_93 : decode cX9_isGood 93 = .ok (.if_icmp .ge 81, 3) := by decide +kernel
theorem dX9_isGood_96 : decode cX9_isGood 96 = .ok (.aload_n 0, 1) := by decide +kernel
theorem dX9_isGood_97 : decode cX9_isGood 97 = .ok (.getfield 10, 3) := by decide +kernel
theorem dX9_isGood_100 : decode cX9_isGood 100 = .ok (.getfield 147, 3) := by decide +kernel
theorem dX9_isGood_103 : decode cX9_isGood 103 = .ok (.bipush 12, 2) := by decide +kernel
theorem dX9_isGood_105 : decode cX9_isGood 105 = .ok (.iload_n 1, 1) := by decide +kernel
theorem dX9_isGood_106 : decode cX9_isGood 106 = .ok (.imul, 1) := by decide +kernel
theorem dX9_isGood_107 : decode cX9_isGood 107 = .ok (.iload 8, 2) := by decide +kernel
theorem dX9_isGood_109 : decode cX9_isGood 109 = .ok (.iadd, 1) := by decide +kernel
theorem dX9_isGood_110 : decode cX9_isGood 110 = .ok (.baload, 1) := by decide +kernel
theorem dX9_isGood_111 : decode cX9_isGood 111 = .ok (.ifCond .eq 57, 3) := by decide +kernel
theorem dX9_isGood_114 : decode cX9_isGood 114 = .ok (.iconst 2, 1) := by decide +kernel
theorem dX9_isGood_115 : decode cX9_isGood 115 = .ok (.iload 8, 2) := by decide +kernel
theorem dX9_isGood_117 : decode cX9_isGood 117 = .ok (.imul, 1) := by decide +kernel
theorem dX9_isGood_118 : decode cX9_isGood 118 = .ok (.iconst 1, 1) := by decide +kernel
theorem dX9_isGood_119 : decode cX9_isGood 119 = .ok (.iadd, 1) := by decide +kernel
theorem dX9_isGood_120 : decode cX9_isGood 120 = .ok (.iload_n 3, 1) := by decide +kernel
theorem dX9_isGood_121 : decode cX9_isGood 121 = .ok (.if_icmp .lt 6, 3) := by decide +kernel
theorem dX9_isGood_124 : decode cX9_isGood 124 = .ok (.goto 44, 3) := by decide +kernel
theorem dX9_isGood_127 : decode cX9_isGood 127 = .ok (.iload 7, 2) := by decide +kernel
theorem dX9_isGood_129 : decode cX9_isGood 129 = .ok (.ifCond .eq 36, 3) := by decide +kernel
theorem dX9_isGood_132 : decode cX9_isGood 132 = .ok (.lload 4, 2) := by decide +kernel
theorem dX9_isGood_134 : decode cX9_isGood 134 = .ok (.aload_n 0, 1) := by decide +kernel
theorem dX9_isGood_135 : decode cX9_isGood 135 = .ok (.getfield 31, 3) := by decide +kernel
theorem dX9_isGood_138 : decode cX9_isGood 138 = .ok (.iconst 2, 1) := by decide +kernel
theorem dX9_isGood_139 : decode cX9_isGood 139 = .ok (.iload 8, 2) := by decide +kernel
theorem dX9_isGood_141 : decode cX9_isGood 141 = .ok (.imul, 1) := by decide +kernel
theorem dX9_isGood_142 : decode cX9_isGood 142 = .ok (.iaload, 1) := by decide +kernel
theorem dX9_isGood_143 : decode cX9_isGood 143 = .ok (.i2l, 1) := by decide +kernel
theorem dX9_isGood_144 : decode cX9_isGood 144 = .ok (.aload_n 0, 1) := by decide +kernel
theorem dX9_isGood_145 : decode cX9_isGood 145 = .ok (.getfield 31, 3) := by decide +kernel
theorem dX9_isGood_148 : decode cX9_isGood 148 = .ok (.iconst 2, 1) := by decide +kernel
theorem dX9_isGood_149 : decode cX9_isGood 149 = .ok (.iload 8, 2) := by decide +kernel
theorem dX9_isGood_151 : decode cX9_isGood 151 = .ok (.imul, 1) := by decide +kernel
theorem dX9_isGood_152 : decode cX9_isGood 152 = .ok (.iconst 1, 1) := by decide +kernel
theorem dX9_isGood_153 : decode cX9_isGood 153 = .ok (.iadd, 1) := by decide +kernel
theorem dX9_isGood_154 : decode cX9_isGood 154 = .ok (.iaload, 1) := by decide +kernel
theorem dX9_isGood_155 : decode cX9_isGood 155 = .ok (.i2l, 1) := by decide +kernel
theorem dX9_isGood_156 : decode cX9_isGood 156 = .ok (.ladd, 1) := by decide +kernel
theorem dX9_isGood_157 : decode cX9_isGood 157 = .ok (.lcmp, 1) := by decide +kernel
theorem dX9_isGood_158 : decode cX9_isGood 158 = .ok (.ifCond .lt 7, 3) := by decide +kernel
theorem dX9_isGood_161 : decode cX9_isGood 161 = .ok (.iconst 1, 1) := by decide +kernel
theorem dX9_isGood_162 : decode cX9_isGood 162 = .ok (.goto 4, 3) := by decide +kernel
theorem dX9_isGood_165 : decode cX9_isGood 165 = .ok (.iconst 0, 1) := by decide +kernel
theorem dX9_isGood_166 : decode cX9_isGood 166 = .ok (.istore 7, 2) := by decide +kernel
theorem dX9_isGood_168 : decode cX9_isGood 168 = .ok (.iinc 8 1, 3) := by decide +kernel
theorem dX9_isGood_171 : decode cX9_isGood 171 = .ok (.goto (-87), 3) := by decide +kernel
theorem dX9_isGood_174 : decode cX9_isGood 174 = .ok (.iload 7, 2) := by decide +kernel
theorem dX9_isGood_176 : decode cX9_isGood 176 = .ok (.ireturn, 1) := by decide +kernel
set_option maxRecDepth 20000 in
theorem ggX9_check_X9_know : GoodIn wsX9_check wsX9_know := goodIn_r _ [10, 11, 2, 3, 4, 12, 13, 14, 15, 16, 9, 17, 18, 19, 20, 21, 22, 23, 24, 25, 26, 27, 28, 29, 30, 31, 32, 33, 34, 35, 36, 37, 38, 39, 40, 41, 42, 43, 44, 45, 46, 47, 48, 49, 50, 51, 52, 53, 54, 55, 56, 57, 58, 59, 60, 61, 62, 63, 64, 65, 66, 67, 68, 69, 70, 71, 72, 73, 74, 75, 76, 77, 78, 79, 80, 81, 82, 83, 84, 85, 86, 87, 88, 89, 90, 91, 92, 93, 94, 95, 96, 97, 112, 113, 114, 115, 116, 117, 118, 119, 120, 121, 122, 123, 124, 125, 126, 127, 128, 129, 130, 131, 132, 133, 134, 135, 136, 137, 138, 139, 140, 141, 142, 143, 144, 145, 146, 147, 148] rfl (by decide +kernel)
set_option maxRecDepth 20000 in
theorem gX9_check_X9_know : GoodIn wsX9_check (wsV RX9 251 RX9 yX9_know wsX9_know) := goodIn_app (goodIn_of _ (by decide +kernel)) ggX9_check_X9_know
set_option maxRecDepth 20000 in
theorem ggX9_check_X9_found : GoodIn wsX9_check wsX9_found := goodIn_r _ [101, 102, 112, 113, 114, 115, 116, 117, 118, 119, 120, 121, 122, 123, 124, 125, 126, 127, 128, 129, 130, 131, 132, 133, 134, 135, 136, 137, 138, 139, 140, 141, 142, 143] rfl (by decide +kernel)
set_option maxRecDepth 20000 in
theorem gX9_check_X9_found : GoodIn wsX9_check (wsV RX9 107 RX9 yX9_found wsX9_found) := goodIn_app (goodIn_of _ (by decide +kernel)) ggX9_check_X9_found
set_option maxRecDepth 20000 in
theorem ggX9_check_X9_isGood : GoodIn wsX9_check wsX9_isGood := goodIn_r _ [106, 5, 3, 4, 29, 18, 19, 20, 9, 21, 22, 48, 49, 50, 112, 113, 114, 115, 116, 117, 118, 119, 120, 121, 122, 123, 124, 125, 126, 127, 128, 129, 130, 131, 132, 133, 134, 135, 136, 137, 138, 139, 140, 141, 142, 143, 144, 145, 146, 147, 148] rfl (by decide +kernel)
set_option maxRecDepth 20000 in
theorem gX9_check_X9_isGood : GoodIn wsX9_check (wsV RX9 278 RX9 yX9_isGood wsX9_isGood) := goodIn_app (goodIn_of _ (by decide +kernel)) ggX9_check_X9_isGood
set_option maxRecDepth 20000 in
theorem ggX9_check_X9_costOf : GoodIn wsX9_check wsX9_costOf := goodIn_r _ [45, 46, 3, 47, 30, 31, 32, 33, 18, 19, 20, 9, 21, 22, 48, 49, 50, 112, 113, 114, 115, 116, 117, 118, 119, 120, 121, 122, 123, 124, 125, 126, 127, 128, 129, 130, 131, 132, 133, 134, 135, 136, 137, 138, 139, 140, 141, 142, 143, 144, 145, 146, 147, 148] rfl (by decide +kernel)
set_option maxRecDepth 20000 in
theorem gX9_check_X9_costOf : GoodIn wsX9_check (wsV RX9 199 RX9 yX9_costOf wsX9_costOf) := goodIn_app (goodIn_of _ (by decide +kernel)) ggX9_check_X9_costOf
set_option maxRecDepth 20000 in
theorem ggX9_check_X9_cheapAt : GoodIn wsX9_check wsX9_cheapAt := goodIn_r _ [110, 13, 111, 91, 92, 32, 93, 6, 7, 8, 9, 10, 11, 2, 3, 4, 12, 14, 15, 16, 17, 18, 19, 20, 21, 22, 23, 24, 25, 26, 27, 28, 29, 30, 31, 33, 34, 35, 36, 37, 38, 39, 40, 41, 42, 43, 44, 45, 46, 47, 48, 49, 50, 51, 52, 53, 54, 55, 56, 57, 58, 59, 60, 61, 62, 63, 64, 65, 66, 67, 68, 69, 70, 71, 72, 73, 74, 75, 76, 77, 78, 79, 80, 81, 82, 83, 84, 85, 86, 87, 88, 89, 90, 94, 95, 96, 97, 112, 113, 114, 115, 116, 117, 118, 119, 120, 121, 122, 123, 124, 125, 126, 127, 128, 129, 130, 131, 132, 133, 134, 135, 136, 137, 138, 139, 140, 141, 142, 143, 144, 145, 146, 147, 148] rfl (by decide +kernel)
set_option maxRecDepth 20000 in
theorem gX9_check_X9_cheapAt : GoodIn wsX9_check (wsV RX9 258 RX9 yX9_cheapAt wsX9_cheapAt) := goodIn_app (goodIn_of _ (by decide +kernel)) ggX9_check_X9_cheapAt
