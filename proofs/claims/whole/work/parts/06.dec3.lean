theorem dX5_compare_134 : decode cX5_compare 134 = .ok (.aload_n 0, 1) := by decide +kernel
theorem dX5_compare_135 : decode cX5_compare 135 = .ok (.getfield 23, 3) := by decide +kernel
theorem dX5_compare_138 : decode cX5_compare 138 = .ok (.bipush 8, 2) := by decide +kernel
theorem dX5_compare_140 : decode cX5_compare 140 = .ok (.iload_n 2, 1) := by decide +kernel
theorem dX5_compare_141 : decode cX5_compare 141 = .ok (.imul, 1) := by decide +kernel
theorem dX5_compare_142 : decode cX5_compare 142 = .ok (.iload_n 3, 1) := by decide +kernel
theorem dX5_compare_143 : decode cX5_compare 143 = .ok (.iadd, 1) := by decide +kernel
theorem dX5_compare_144 : decode cX5_compare 144 = .ok (.iaload, 1) := by decide +kernel
theorem dX5_compare_145 : decode cX5_compare 145 = .ok (.isub, 1) := by decide +kernel
theorem dX5_compare_146 : decode cX5_compare 146 = .ok (.ireturn, 1) := by decide +kernel
theorem dX5_compare_147 : decode cX5_compare 147 = .ok (.iinc 3 1, 3) := by decide +kernel
theorem dX5_compare_150 : decode cX5_compare 150 = .ok (.goto (-72), 3) := by decide +kernel
theorem dX5_compare_153 : decode cX5_compare 153 = .ok (.aload_n 0, 1) := by decide +kernel
theorem dX5_compare_154 : decode cX5_compare 154 = .ok (.getfield 20, 3) := by decide +kernel
theorem dX5_compare_157 : decode cX5_compare 157 = .ok (.iload_n 1, 1) := by decide +kernel
theorem dX5_compare_158 : decode cX5_compare 158 = .ok (.iaload, 1) := by decide +kernel
theorem dX5_compare_159 : decode cX5_compare 159 = .ok (.aload_n 0, 1) := by decide +kernel
theorem dX5_compare_160 : decode cX5_compare 160 = .ok (.getfield 20, 3) := by decide +kernel
theorem dX5_compare_163 : decode cX5_compare 163 = .ok (.iload_n 2, 1) := by decide +kernel
theorem dX5_compare_164 : decode cX5_compare 164 = .ok (.iaload, 1) := by decide +kernel
theorem dX5_compare_165 : decode cX5_compare 165 = .ok (.isub, 1) := by decide +kernel
theorem dX5_compare_166 : decode cX5_compare 166 = .ok (.ireturn, 1) := by decide +kernel
theorem dX5_isTerm_0 : decode cX5_isTerm 0 = .ok (.iload_n 1, 1) := by decide +kernel
theorem dX5_isTerm_1 : decode cX5_isTerm 1 = .ok (.ifCond .lt 15, 3) := by decide +kernel
theorem dX5_isTerm_4 : decode cX5_isTerm 4 = .ok (.iload_n 1, 1) := by decide +kernel
theorem dX5_isTerm_5 : decode cX5_isTerm 5 = .ok (.aload_n 0, 1) := by decide +kernel
theorem dX5_isTerm_6 : decode cX5_isTerm 6 = .ok (.getfield 86, 3) := by decide +kernel
theorem dX5_isTerm_9 : decode cX5_isTerm 9 = .ok (.if_icmp .ge 7, 3) := by decide +kernel
theorem dX5_isTerm_12 : decode cX5_isTerm 12 = .ok (.iconst 1, 1) := by decide +kernel
theorem dX5_isTerm_13 : decode cX5_isTerm 13 = .ok (.goto 4, 3) := by decide +kernel
theorem dX5_isTerm_16 : decode cX5_isTerm 16 = .ok (.iconst 0, 1) := by decide +kernel
theorem dX5_isTerm_17 : decode cX5_isTerm 17 = .ok (.ireturn, 1) := by decide +kernel
set_option maxRecDepth 20000 in
theorem ggX5_row_X5_within : GoodIn wsX5_row wsX5_within := goodIn_r _ [10] (by decide +kernel) (by decide +kernel)
set_option maxRecDepth 20000 in
theorem gX5_row_X5_within : GoodIn wsX5_row (va_wsS RX5 80 yX5_within wsX5_within) := goodIn_app (goodIn_of _ (by decide +kernel)) ggX5_row_X5_within
set_option maxRecDepth 20000 in
theorem ggX5_row_X5_isTerm : GoodIn wsX5_row wsX5_isTerm := goodIn_r _ [14, 15, 16, 17, 18, 19, 20, 21, 22, 23, 24, 25, 26, 27, 28, 29, 30, 31, 32, 33, 34, 35, 36, 37, 38, 39, 40, 41, 42, 43] (by decide +kernel) (by decide +kernel)
set_option maxRecDepth 20000 in
theorem gX5_row_X5_isTerm : GoodIn wsX5_row (wsV RX5 103 RX5 yX5_isTerm wsX5_isTerm) := goodIn_app (goodIn_of _ (by decide +kernel)) ggX5_row_X5_isTerm
theorem dX5_row_0 : decode cX5_row 0 = .ok (.aload_n 0, 1) := by decide +kernel
theorem dX5_row_1 : decode cX5_row 1 = .ok (.iload_n 1, 1) := by decide +kernel
theorem dX5_row_2 : decode cX5_row 2 = .ok (.i2l, 1) := by decide +kernel
theorem dX5_row_3 : decode cX5_row 3 = .ok (.lconst 0, 1) := by decide +kernel
theorem dX5_row_4 : decode cX5_row 4 = .ok (.ldc2_w 101, 3) := by decide +kernel
theorem dX5_row_7 : decode cX5_row 7 = .ok (.invokestatic 80, 3) := by decide +kernel
theorem dX5_row_10 : decode cX5_row 10 = .ok (.ifCond .eq 24, 3) := by decide +kernel
theorem dX5_row_13 : decode cX5_row 13 = .ok (.aload_n 0, 1) := by decide +kernel
theorem dX5_row_14 : decode cX5_row 14 = .ok (.iload_n 2, 1) := by decide +kernel
theorem dX5_row_15 : decode cX5_row 15 = .ok (.invokevirtual 103, 3) := by decide +kernel
theorem dX5_row_18 : decode cX5_row 18 = .ok (.ifCond .eq 16, 3) := by decide +kernel
theorem dX5_row_21 : decode cX5_row 21 = .ok (.iload_n 3, 1) := by decide +kernel
theorem dX5_row_22 : decode cX5_row 22 = .ok (.iconst (-1), 1) := by decide +kernel
theorem dX5_row_23 : decode cX5_row 23 = .ok (.if_icmp .eq 15, 3) := by decide +kernel
theorem dX5_row_26 : decode cX5_row 26 = .ok (.aload_n 0, 1) := by decide +kernel
theorem dX5_row_27 : decode cX5_row 27 = .ok (.iload_n 3, 1) := by decide +kernel
theorem dX5_row_28 : decode cX5_row 28 = .ok (.invokevirtual 103, 3) := by decide +kernel
theorem dX5_row_31 : decode cX5_row 31 = .ok (.ifCond .ne 7, 3) := by decide +kernel
theorem dX5_row_34 : decode cX5_row 34 = .ok (.iconst 1, 1) := by decide +kernel
theorem dX5_row_35 : decode cX5_row 35 = .ok (.goto 17, 3) := by decide +kernel
theorem dX5_row_38 : decode cX5_row 38 = .ok (.aload_n 0, 1) := by decide +kernel
theorem dX5_row_39 : decode cX5_row 39 = .ok (.getfield 107, 3) := by decide +kernel
theorem dX5_row_42 : decode cX5_row 42 = .ok (.bipush 60, 2) := by decide +kernel
theorem dX5_row_44 : decode cX5_row 44 = .ok (.if_icmp .ne 7, 3) := by decide +kernel
theorem dX5_row_47 : decode cX5_row 47 = .ok (.iconst 2, 1) := by decide +kernel
theorem dX5_row_48 : decode cX5_row 48 = .ok (.goto 4, 3) := by decide +kernel
theorem dX5_row_51 : decode cX5_row 51 = .ok (.iconst 0, 1) := by decide +kernel
theorem dX5_row_52 : decode cX5_row 52 = .ok (.putfield 72, 3) := by decide +kernel
theorem dX5_row_55 : decode cX5_row 55 = .ok (.aload_n 0, 1) := by decide +kernel
theorem dX5_row_56 : decode cX5_row 56 = .ok (.getfield 72, 3) := by decide +kernel
theorem dX5_row_59 : decode cX5_row 59 = .ok (.ifCond .le 5, 3) := by decide +kernel
theorem dX5_row_62 : decode cX5_row 62 = .ok (.iconst 0, 1) := by decide +kernel
theorem dX5_row_63 : decode cX5_row 63 = .ok (.ireturn, 1) := by decide +kernel
theorem dX5_row_64 : decode cX5_row 64 = .ok (.aload_n 0, 1) := by decide +kernel
theorem dX5_row_65 : decode cX5_row 65 = .ok (.getfield 26, 3) := by decide +kernel
theorem dX5_row_68 : decode cX5_row 68 = .ok (.aload_n 0, 1) := by decide +kernel
theorem dX5_row_69 : decode cX5_row 69 = .ok (.getfield 107, 3) := by decide +kernel
theorem dX5_row_72 : decode cX5_row 72 = .ok (.iload_n 1, 1) := by decide +kernel
theorem dX5_row_73 : decode cX5_row 73 = .ok (.iastore, 1) := by decide +kernel
theorem dX5_row_74 : decode cX5_row 74 = .ok (.aload_n 0, 1) := by decide +kernel
theorem dX5_row_75 : decode cX5_row 75 = .ok (.getfield 29, 3) := by decide +kernel
theorem dX5_row_78 : decode cX5_row 78 = .ok (.aload_n 0, 1) := by decide +kernel
theorem dX5_row_79 : decode cX5_row 79 = .ok (.getfield 107, 3) := by decide +kernel
theorem dX5_row_82 : decode cX5_row 82 = .ok (.iload_n 2, 1) := by decide +kernel
theorem dX5_row_83 : decode cX5_row 83 = .ok (.iastore, 1) := by decide +kernel
theorem dX5_row_84 : decode cX5_row 84 = .ok (.aload_n 0, 1) := by decide +kernel
theorem dX5_row_85 : decode cX5_row 85 = .ok (.getfield 32, 3) := by decide +kernel
theorem dX5_row_88 : decode cX5_row 88 = .ok (.aload_n 0, 1) := by decide +kernel
theorem dX5_row_89 : decode cX5_row 89 = .ok (.getfield 107, 3) := by decide +kernel
theorem dX5_row_92 : decode cX5_row 92 = .ok (.iload_n 3, 1) := by decide +kernel
theorem dX5_row_93 : decode cX5_row 93 = .ok (.iastore, 1) := by decide +kernel
theorem dX5_row_94 : decode cX5_row 94 = .ok (.aload_n 0, 1) := by decide +kernel
theorem dX5_row_95 : decode cX5_row 95 = .ok (.dup, 1) := by decide +kernel
theorem dX5_row_96 : decode cX5_row 96 = .ok (.getfield 107, 3) := by decide +kernel
theorem dX5_row_99 : decode cX5_row 99 = .ok (.iconst 1, 1) := by decide +kernel
theorem dX5_row_100 : decode cX5_row 100 = .ok (.iadd, 1) := by decide +kernel
theorem dX5_row_101 : decode cX5_row 101 = .ok (.putfield 107, 3) := by decide +kernel
theorem dX5_row_104 : decode cX5_row 104 = .ok (.aload_n 0, 1) := by decide +kernel
theorem dX5_row_105 : decode cX5_row 105 = .ok (.getfield 107, 3) := by decide +kernel
theorem dX5_row_108 : decode cX5_row 108 = .ok (.ireturn, 1) := by decide +kernel
set_option maxRecDepth 20000 in
theorem ggX5_by_X5_within : GoodIn wsX5_by wsX5_within := goodIn_r _ [7] (by decide +kernel) (by decide +kernel)
set_option maxRecDepth 20000 in
theorem gX5_by_X5_within : GoodIn wsX5_by (va_wsS RX5 80 yX5_within wsX5_within) := goodIn_app (goodIn_of _ (by decide +kernel)) ggX5_by_X5_within
theorem dX5_by_0 : decode cX5_by 0 = .ok (.aload_n 0, 1) := by decide +kernel
theorem dX5_by_1 : decode cX5_by 1 = .ok (.iload_n 1, 1) := by decide +kernel
theorem dX5_by_2 : decode cX5_by 2 = .ok (.i2l, 1) := by decide +kernel
theorem dX5_by_3 : decode cX5_by 3 = .ok (.lconst 0, 1) := by decide +kernel
theorem dX5_by_4 : decode cX5_by 4 = .ok (.ldc2_w 101, 3) := by decide +kernel
theorem dX5_by_7 : decode cX5_by 7 = .ok (.invokestatic 80, 3) := by decide +kernel
theorem dX5_by_10 : decode cX5_by 10 = .ok (.ifCond .eq 7, 3) := by decide +kernel
theorem dX5_by_13 : decode cX5_by 13 = .ok (.iconst 0, 1) := by decide +kernel
theorem dX5_by_14 : decode cX5_by 14 = .ok (.goto 4, 3) := by decide +kernel
theorem dX5_by_17 : decode cX5_by 17 = .ok (.iconst 1, 1) := by decide +kernel
theorem dX5_by_18 : decode cX5_by 18 = .ok (.putfield 72, 3) := by decide +kernel
theorem dX5_by_21 : decode cX5_by 21 = .ok (.aload_n 0, 1) := by decide +kernel
theorem dX5_by_22 : decode cX5_by 22 = .ok (.getfield 110, 3) := by decide +kernel
theorem dX5_by_25 : decode cX5_by 25 = .ok (.istore_n 2, 1) := by decide +kernel
theorem dX5_by_26 : decode cX5_by 26 = .ok (.aload_n 0, 1) := by decide +kernel
theorem dX5_by_27 : decode cX5_by 27 = .ok (.aload_n 0, 1) := by decide +kernel
theorem dX5_by_28 : decode cX5_by 28 = .ok (.getfield 72, 3) := by decide +kernel
theorem dX5_by_31 : decode cX5_by 31 = .ok (.ifCond .ne 7, 3) := by decide +kernel
theorem dX5_by_34 : decode cX5_by 34 = .ok (.iload_n 1, 1) := by decide +kernel
theorem dX5_by_35 : decode cX5_by 35 = .ok (.goto 7, 3) := by decide +kernel
theorem dX5_by_38 : decode cX5_by 38 = .ok (.aload_n 0, 1) := by decide +kernel
theorem dX5_by_39 : decode cX5_by 39 = .ok (.getfield 110, 3) := by decide +kernel
theorem dX5_by_42 : decode cX5_by 42 = .ok (.putfield 110, 3) := by decide +kernel
theorem dX5_by_45 : decode cX5_by 45 = .ok (.aload_n 0, 1) := by decide +kernel
theorem dX5_by_46 : decode cX5_by 46 = .ok (.getfield 72, 3) := by decide +kernel
theorem dX5_by_49 : decode cX5_by 49 = .ok (.ifCond .ne 7, 3) := by decide +kernel
theorem dX5_by_52 : decode cX5_by 52 = .ok (.iload_n 2, 1) := by decide +kernel
theorem dX5_by_53 : decode cX5_by 53 = .ok (.goto 4, 3) := by decide +kernel
theorem dX5_by_56 : decode cX5_by 56 = .ok (.iconst 0, 1) := by decide +kernel
theorem dX5_by_57 : decode cX5_by 57 = .ok (.ireturn, 1) := by decide +kernel
set_option maxRecDepth 20000 in
theorem ggX5_separator_X5_within : GoodIn wsX5_separator wsX5_within := goodIn_r _ [8] (by decide +kernel) (by decide +kernel)
set_option maxRecDepth 20000 in
theorem gX5_separator_X5_within : GoodIn wsX5_separator (va_wsS RX5 80 yX5_within wsX5_within) := goodIn_app (goodIn_of _ (by decide +kernel)) ggX5_separator_X5_within
theorem dX5_separator_0 : decode cX5_separator 0 = .ok (.aload_n 0, 1) := by decide +kernel
theorem dX5_separator_1 : decode cX5_separator 1 = .ok (.iload_n 1, 1) := by decide +kernel
theorem dX5_separator_2 : decode cX5_separator 2 = .ok (.ifCond .eq 17, 3) := by decide +kernel
theorem dX5_separator_5 : decode cX5_separator 5 = .ok (.iload_n 1, 1) := by decide +kernel
theorem dX5_separator_6 : decode cX5_separator 6 = .ok (.i2l, 1) := by decide +kernel
theorem dX5_separator_7 : decode cX5_separator 7 = .ok (.ldc2_w 113, 3) := by decide +kernel
theorem dX5_separator_10 : decode cX5_separator 10 = .ok (.ldc2_w 115, 3) := by decide +kernel
theorem dX5_separator_13 : decode cX5_separator 13 = .ok (.invokestatic 80, 3) := by decide +kernel
theorem dX5_separator_16 : decode cX5_separator 16 = .ok (.ifCond .eq 7, 3) := by decide +kernel
theorem dX5_separator_19 : decode cX5_separator 19 = .ok (.iconst 0, 1) := by decide +kernel
theorem dX5_separator_20 : decode cX5_separator 20 = .ok (.goto 4, 3) := by decide +kernel
theorem dX5_separator_23 : decode cX5_separator 23 = .ok (.iconst 1, 1) := by decide +kernel
theorem dX5_separator_24 : decode cX5_separator 24 = .ok (.putfield 72, 3) := by decide +kernel
theorem dX5_separator_27 : decode cX5_separator 27 = .ok (.aload_n 0, 1) := by decide +kernel
theorem dX5_separator_28 : decode cX5_separator 28 = .ok (.getfield 117, 3) := by decide +kernel
theorem dX5_separator_31 : decode cX5_separator 31 = .ok (.istore_n 2, 1) := by decide +kernel
theorem dX5_separator_32 : decode cX5_separator 32 = .ok (.aload_n 0, 1) := by decide +kernel
theorem dX5_separator_33 : decode cX5_separator 33 = .ok (.aload_n 0, 1) := by decide +kernel
theorem dX5_separator_34 : decode cX5_separator 34 = .ok (.getfield 72, 3) := by decide +kernel
theorem dX5_separator_37 : decode cX5_separator 37 = .ok (.ifCond .ne 7, 3) := by decide +kernel
theorem dX5_separator_40 : decode cX5_separator 40 = .ok (.iload_n 1, 1) := by decide +kernel
theorem dX5_separator_41 : decode cX5_separator 41 = .ok (.goto 7, 3) := by decide +kernel
theorem dX5_separator_44 : decode cX5_separator 44 = .ok (.aload_n 0, 1) := by decide +kernel
theorem dX5_separator_45 : decode cX5_separator 45 = .ok (.getfield 117, 3) := by decide +kernel
theorem dX5_separator_48 : decode cX5_separator 48 = .ok (.putfield 117, 3) := by decide +kernel
theorem dX5_separator_51 : decode cX5_separator 51 = .ok (.aload_n 0, 1) := by decide +kernel
theorem dX5_separator_52 : decode cX5_separator 52 = .ok (.getfield 72, 3) := by decide +kernel
theorem dX5_separator_55 : decode cX5_separator 55 = .ok (.ifCond .ne 7, 3) := by decide +kernel
theorem dX5_separator_58 : decode cX5_separator 58 = .ok (.iload_n 2, 1) := by decide +kernel
theorem dX5_separator_59 : decode cX5_separator 59 = .ok (.goto 4, 3) := by decide +kernel
theorem dX5_separator_62 : decode cX5_separator 62 = .ok (.iconst 0, 1) := by decide +kernel
theorem dX5_separator_63 : decode cX5_separator 63 = .ok (.ireturn, 1) := by decide +kernel
set_option maxRecDepth 20000 in
theorem ggX5_own_X5_within : GoodIn wsX5_own wsX5_within := goodIn_r _ [7] (by decide +kernel) (by decide +kernel)
set_option maxRecDepth 20000 in
theorem gX5_own_X5_within : GoodIn wsX5_own (va_wsS RX5 80 yX5_within wsX5_within) := goodIn_app (goodIn_of _ (by decide +kernel)) ggX5_own_X5_within
theorem dX5_own_0 : decode cX5_own 0 = .ok (.aload_n 0, 1) := by decide +kernel
theorem dX5_own_1 : decode cX5_own 1 = .ok (.iload_n 1, 1) := by decide +kernel
theorem dX5_own_2 : decode cX5_own 2 = .ok (.i2l, 1) := by decide +kernel
theorem dX5_own_3 : decode cX5_own 3 = .ok (.lconst 0, 1) := by decide +kernel
theorem dX5_own_4 : decode cX5_own 4 = .ok (.ldc2_w 101, 3) := by decide +kernel
theorem dX5_own_7 : decode cX5_own 7 = .ok (.invokestatic 80, 3) := by decide +kernel
theorem dX5_own_10 : decode cX5_own 10 = .ok (.ifCond .eq 7, 3) := by decide +kernel
theorem dX5_own_13 : decode cX5_own 13 = .ok (.iconst 0, 1) := by decide +kernel
theorem dX5_own_14 : decode cX5_own 14 = .ok (.goto 4, 3) := by decide +kernel
theorem dX5_own_17 : decode cX5_own 17 = .ok (.iconst 1, 1) := by decide +kernel
theorem dX5_own_18 : decode cX5_own 18 = .ok (.putfield 72, 3) := by decide +kernel
theorem dX5_own_21 : decode cX5_own 21 = .ok (.aload_n 0, 1) := by decide +kernel
theorem dX5_own_22 : decode cX5_own 22 = .ok (.getfield 120, 3) := by decide +kernel
theorem dX5_own_25 : decode cX5_own 25 = .ok (.istore_n 2, 1) := by decide +kernel
theorem dX5_own_26 : decode cX5_own 26 = .ok (.aload_n 0, 1) := by decide +kernel
theorem dX5_own_27 : decode cX5_own 27 = .ok (.aload_n 0, 1) := by decide +kernel
theorem dX5_own_28 : decode cX5_own 28 = .ok (.getfield 72, 3) := by decide +kernel
theorem dX5_own_31 : decode cX5_own 31 = .ok (.ifCond .ne 7, 3) := by decide +kernel
theorem dX5_own_34 : decode cX5_own 34 = .ok (.iload_n 1, 1) := by decide +kernel
theorem dX5_own_35 : decode cX5_own 35 = .ok (.goto 7, 3) := by decide +kernel
theorem dX5_own_38 : decode cX5_own 38 = .ok (.aload_n 0, 1) := by decide +kernel
theorem dX5_own_39 : decode cX5_own 39 = .ok (.getfield 120, 3) := by decide +kernel
theorem dX5_own_42 : decode cX5_own 42 = .ok (.putfield 120, 3) := by decide +kernel
theorem dX5_own_45 : decode cX5_own 45 = .ok (.aload_n 0, 1) := by decide +kernel
theorem dX5_own_46 : decode cX5_own 46 = .ok (.getfield 72, 3) := by decide +kernel
theorem dX5_own_49 : decode cX5_own 49 = .ok (.ifCond .ne 7, 3) := by decide +kernel
theorem dX5_own_52 : decode cX5_own 52 = .ok (.iload_n 2, 1) := by decide +kernel
theorem dX5_own_53 : decode cX5_own 53 = .ok (.goto 4, 3) := by decide +kernel
theorem dX5_own_56 : decode cX5_own 56 = .ok (.iconst 0, 1) := by decide +kernel
theorem dX5_own_57 : decode cX5_own 57 = .ok (.ireturn, 1) := by decide +kernel
theorem dX5_lineUp_0 : decode cX5_lineUp 0 = .ok (.iconst 0, 1) := by decide +kernel
theorem dX5_lineUp_1 : decode cX5_lineUp 1 = .ok (.istore_n 1, 1) := by decide +kernel
theorem dX5_lineUp_2 : decode cX5_lineUp 2 = .ok (.iconst 0, 1) := by decide +kernel
theorem dX5_lineUp_3 : decode cX5_lineUp 3 = .ok (.istore_n 2, 1) := by decide +kernel
theorem dX5_lineUp_4 : decode cX5_lineUp 4 = .ok (.iload_n 2, 1) := by decide +kernel
theorem dX5_lineUp_5 : decode cX5_lineUp 5 = .ok (.iconst 3, 1) := by decide +kernel
theorem dX5_lineUp_6 : decode cX5_lineUp 6 = .ok (.if_icmp .ge 45, 3) := by decide +kernel
theorem dX5_lineUp_9 : decode cX5_lineUp 9 = .ok (.iconst 0, 1) := by decide +kernel
theorem dX5_lineUp_10 : decode cX5_lineUp 10 = .ok (.istore_n 3, 1) := by decide +kernel
theorem dX5_lineUp_11 : decode cX5_lineUp 11 = .ok (.iload_n 3, 1) := by decide +kernel
theorem dX5_lineUp_12 : decode cX5_lineUp 12 = .ok (.aload_n 0, 1) := by decide +kernel
theorem dX5_lineUp_13 : decode cX5_lineUp 13 = .ok (.getfield 107, 3) := by decide +kernel
theorem dX5_lineUp_16 : decode cX5_lineUp 16 = .ok (.if_icmp .ge 29, 3) := by decide +kernel
theorem dX5_lineUp_19 : decode cX5_lineUp 19 = .ok (.aload_n 0, 1) := by decide +kernel
theorem dX5_lineUp_20 : decode cX5_lineUp 20 = .ok (.getfield 26, 3) := by decide +kernel
theorem dX5_lineUp_23 : decode cX5_lineUp 23 = .ok (.iload_n 3, 1) := by decide +kernel
theorem dX5_lineUp_24 : decode cX5_lineUp 24 = .ok (.iaload, 1) := by decide +kernel
theorem dX5_lineUp_25 : decode cX5_lineUp 25 = .ok (.iload_n 2, 1) := by decide +kernel
theorem dX5_lineUp_26 : decode cX5_lineUp 26 = .ok (.if_icmp .ne 13, 3) := by decide +kernel
theorem dX5_lineUp_29 : decode cX5_lineUp 29 = .ok (.aload_n 0, 1) := by decide +kernel
theorem dX5_lineUp_30 : decode cX5_lineUp 30 = .ok (.getfield 63, 3) := by decide +kernel
theorem dX5_lineUp_33 : decode cX5_lineUp 33 = .ok (.iload_n 1, 1) := by decide +kernel
theorem dX5_lineUp_34 : decode cX5_lineUp 34 = .ok (.iload_n 3, 1) := by decide +kernel
theorem dX5_lineUp_35 : decode cX5_lineUp 35 = .ok (.iastore, 1) := by decide +kernel
theorem dX5_lineUp_36 : decode cX5_lineUp 36 = .ok (.iinc 1 1, 3) := by decide +kernel
theorem dX5_lineUp_39 : decode cX5_lineUp 39 = .ok (.iinc 3 1, 3) := by decide +kernel
theorem dX5_lineUp_42 : decode cX5_lineUp 42 = .ok (.goto (-31), 3) := by decide +kernel
theorem dX5_lineUp_45 : decode cX5_lineUp 45 = .ok (.iinc 2 1, 3) := by decide +kernel
theorem dX5_lineUp_48 : decode cX5_lineUp 48 = .ok (.goto (-44), 3) := by decide +kernel
theorem dX5_lineUp_51 : decode cX5_lineUp 51 = .ok (.return_, 1) := by decide +kernel
set_option maxRecDepth 20000 in
theorem ggX5_isSameKey_X5_compare : GoodIn wsX5_isSameKey wsX5_compare := goodIn_r _ [6, 7, 8, 9, 10, 11, 12, 5, 13, 14, 15, 16, 17, 18, 19, 20, 21, 22, 23, 24, 25, 26, 27, 28, 29, 30, 31, 32, 33, 34, 35, 36, 37, 38, 39, 40, 41, 42, 43, 44] (by decide +kernel) (by decide +kernel)
set_option maxRecDepth 20000 in
theorem gX5_isSameKey_X5_compare : GoodIn wsX5_isSameKey (wsV RX5 123 RX5 yX5_compare wsX5_compare) := goodIn_app (goodIn_of _ (by decide +kernel)) ggX5_isSameKey_X5_compare
theorem dX5_isSameKey_0 : decode cX5_isSameKey 0 = .ok (.aload_n 0, 1) := by decide +kernel
theorem dX5_isSameKey_1 : decode cX5_isSameKey 1 = .ok (.getfield 110, 3) := by decide +kernel
theorem dX5_isSameKey_4 : decode cX5_isSameKey 4 = .ok (.iconst 2, 1) := by decide +kernel
theorem dX5_isSameKey_5 : decode cX5_isSameKey 5 = .ok (.if_icmp .eq 28, 3) := by decide +kernel
theorem dX5_isSameKey_8 : decode cX5_isSameKey 8 = .ok (.aload_n 0, 1) := by decide +kernel
theorem dX5_isSameKey_9 : decode cX5_isSameKey 9 = .ok (.getfield 110, 3) := by decide +kernel
theorem dX5_isSameKey_12 : decode cX5_isSameKey 12 = .ok (.iconst 1, 1) := by decide +kernel
theorem dX5_isSameKey_13 : decode cX5_isSameKey 13 = .ok (.if_icmp .ne 15, 3) := by decide +kernel
theorem dX5_isSameKey_16 : decode cX5_isSameKey 16 = .ok (.aload_n 0, 1) := by decide +kernel
theorem dX5_isSameKey_17 : decode cX5_isSameKey 17 = .ok (.iload_n 1, 1) := by decide +kernel
theorem dX5_isSameKey_18 : decode cX5_isSameKey 18 = .ok (.iload_n 2, 1) := by decide +kernel
theorem dX5_isSameKey_19 : decode cX5_isSameKey 19 = .ok (.invokevirtual 123, 3) := by decide +kernel
theorem dX5_isSameKey_22 : decode cX5_isSameKey 22 = .ok (.ifCond .ne 15, 3) := by decide +kernel
theorem dX5_isSameKey_25 : decode cX5_isSameKey 25 = .ok (.goto 8, 3) := by decide +kernel
theorem dX5_isSameKey_28 : decode cX5_isSameKey 28 = .ok (.iload_n 1, 1) := by decide +kernel
theorem dX5_isSameKey_29 : decode cX5_isSameKey 29 = .ok (.iload_n 2, 1) := by decide +kernel
theorem dX5_isSameKey_30 : decode cX5_isSameKey 30 = .ok (.if_icmp .ne 7, 3) := by decide +kernel
theorem dX5_isSameKey_33 : decode cX5_isSameKey 33 = .ok (.iconst 1, 1) := by decide +kernel
theorem dX5_isSameKey_34 : decode cX5_isSameKey 34 = .ok (.goto 4, 3) := by decide +kernel
theorem dX5_isSameKey_37 : decode cX5_isSameKey 37 = .ok (.iconst 0, 1) := by decide +kernel
theorem dX5_isSameKey_38 : decode cX5_isSameKey 38 = .ok (.ireturn, 1) := by decide +kernel
set_option maxRecDepth 20000 in
theorem ggX5_findGroups_X5_isSameKey : GoodIn wsX5_findGroups wsX5_isSameKey := goodIn_r _ [13, 1, 14, 15, 16, 12, 17, 18, 19, 20, 21, 22, 23, 24, 25, 26, 27, 28, 29, 30, 31, 32, 33, 34, 35, 36, 37, 38, 39, 40, 41, 42, 43, 44, 45, 46, 47, 48, 49, 50, 51, 52, 53, 54, 55] (by decide +kernel) (by decide +kernel)
set_option maxRecDepth 20000 in
theorem gX5_findGroups_X5_isSameKey : GoodIn wsX5_findGroups (wsV RX5 130 RX5 yX5_isSameKey wsX5_isSameKey) := goodIn_app (goodIn_of _ (by decide +kernel)) ggX5_findGroups_X5_isSameKey
theorem dX5_findGroups_0 : decode cX5_findGroups 0 = .ok (.aload_n 0, 1) := by decide +kernel
theorem dX5_findGroups_1 : decode cX5_findGroups 1 = .ok (.aload_n 0, 1) := by decide +kernel
theorem dX5_findGroups_2 : decode cX5_findGroups 2 = .ok (.getfield 110, 3) := by decide +kernel
theorem dX5_findGroups_5 : decode cX5_findGroups 5 = .ok (.iconst 2, 1) := by decide +kernel
theorem dX5_findGroups_6 : decode cX5_findGroups 6 = .ok (.if_icmp .ne 7, 3) := by decide +kernel
theorem dX5_findGroups_9 : decode cX5_findGroups 9 = .ok (.iconst 1, 1) := by decide +kernel
theorem dX5_findGroups_10 : decode cX5_findGroups 10 = .ok (.goto 4, 3) := by decide +kernel
theorem dX5_findGroups_13 : decode cX5_findGroups 13 = .ok (.iconst 0, 1) := by decide +kernel
theorem dX5_findGroups_14 : decode cX5_findGroups 14 = .ok (.putfield 127, 3) := by decide +kernel
theorem dX5_findGroups_17 : decode cX5_findGroups 17 = .ok (.aload_n 0, 1) := by decide +kernel
theorem dX5_findGroups_18 : decode cX5_findGroups 18 = .ok (.getfield 35, 3) := by decide +kernel
theorem dX5_findGroups_21 : decode cX5_findGroups 21 = .ok (.iconst 0, 1) := by decide +kernel
theorem dX5_findGroups_22 : decode cX5_findGroups 22 = .ok (.iconst (-1), 1) := by decide +kernel
theorem dX5_findGroups_23 : decode cX5_findGroups 23 = .ok (.iastore, 1) := by decide +kernel
theorem dX5_findGroups_24 : decode cX5_findGroups 24 = .ok (.aload_n 0, 1) := by decide +kernel
theorem dX5_findGroups_25 : decode cX5_findGroups 25 = .ok (.getfield 38, 3) := by decide +kernel
theorem dX5_findGroups_28 : decode cX5_findGroups 28 = .ok (.iconst 0, 1) := by decide +kernel
theorem dX5_findGroups_29 : decode cX5_findGroups 29 = .ok (.iconst 0, 1) := by decide +kernel
theorem dX5_findGroups_30 : decode cX5_findGroups 30 = .ok (.iastore, 1) := by decide +kernel
theorem dX5_findGroups_31 : decode cX5_findGroups 31 = .ok (.iconst 0, 1) := by decide +kernel
theorem dX5_findGroups_32 : decode cX5_findGroups 32 = .ok (.istore_n 1, 1) := by decide +kernel
theorem dX5_findGroups_33 : decode cX5_findGroups 33 = .ok (.iload_n 1, 1) := by decide +kernel
theorem dX5_findGroups_34 : decode cX5_findGroups 34 = .ok (.aload_n 0, 1) := by decide +kernel
theorem dX5_findGroups_35 : decode cX5_findGroups 35 = .ok (.getfield 107, 3) := by decide +kernel
theorem dX5_findGroups_38 : decode cX5_findGroups 38 = .ok (.if_icmp .ge 138, 3) := by decide +kernel
theorem dX5_findGroups_41 : decode cX5_findGroups 41 = .ok (.aload_n 0, 1) := by decide +kernel
theorem dX5_findGroups_42 : decode cX5_findGroups 42 = .ok (.getfield 63, 3) := by decide +kernel
theorem dX5_findGroups_45 : decode cX5_findGroups 45 = .ok (.iload_n 1, 1) := by decide +kernel
theorem dX5_findGroups_46 : decode cX5_findGroups 46 = .ok (.iaload, 1) := by decide +kernel
theorem dX5_findGroups_47 : decode cX5_findGroups 47 = .ok (.istore_n 2, 1) := by decide +kernel
theorem dX5_findGroups_48 : decode cX5_findGroups 48 = .ok (.iconst 0, 1) := by decide +kernel
theorem dX5_findGroups_49 : decode cX5_findGroups 49 = .ok (.istore_n 3, 1) := by decide +kernel
theorem dX5_findGroups_50 : decode cX5_findGroups 50 = .ok (.iload_n 3, 1) := by decide +kernel
theorem dX5_findGroups_51 : decode cX5_findGroups 51 = .ok (.aload_n 0, 1) := by decide +kernel
theorem dX5_findGroups_52 : decode cX5_findGroups 52 = .ok (.getfield 127, 3) := by decide +kernel
theorem dX5_findGroups_55 : decode cX5_findGroups 55 = .ok (.if_icmp .ge 37, 3) := by decide +kernel
theorem dX5_findGroups_58 : decode cX5_findGroups 58 = .ok (.aload_n 0, 1) := by decide +kernel
theorem dX5_findGroups_59 : decode cX5_findGroups 59 = .ok (.getfield 38, 3) := by decide +kernel
theorem dX5_findGroups_62 : decode cX5_findGroups 62 = .ok (.iload_n 3, 1) := by decide +kernel
theorem dX5_findGroups_63 : decode cX5_findGroups 63 = .ok (.iaload, 1) := by decide +kernel
theorem dX5_findGroups_64 : decode cX5_findGroups 64 = .ok (.ifCond .le 28, 3) := by decide +kernel
theorem dX5_findGroups_67 : decode cX5_findGroups 67 = .ok (.aload_n 0, 1) := by decide +kernel
theorem dX5_findGroups_68 : decode cX5_findGroups 68 = .ok (.aload_n 0, 1) := by decide +kernel
theorem dX5_findGroups_69 : decode cX5_findGroups 69 = .ok (.getfield 35, 3) := by decide +kernel
theorem dX5_findGroups_72 : decode cX5_findGroups 72 = .ok (.iload_n 3, 1) := by decide +kernel
theorem dX5_findGroups_73 : decode cX5_findGroups 73 = .ok (.iaload, 1) := by decide +kernel
theorem dX5_findGroups_74 : decode cX5_findGroups 74 = .ok (.aload_n 0, 1) := by decide +kernel
theorem dX5_findGroups_75 : decode cX5_findGroups 75 = .ok (.getfield 29, 3) := by decide +kernel
theorem dX5_findGroups_78 : decode cX5_findGroups 78 = .ok (.iload_n 2, 1) := by decide +kernel
theorem dX5_findGroups_79 : decode cX5_findGroups 79 = .ok (.iaload, 1) := by decide +kernel
theorem dX5_findGroups_80 : decode cX5_findGroups 80 = .ok (.invokevirtual 130, 3) := by decide +kernel
theorem dX5_findGroups_83 : decode cX5_findGroups 83 = .ok (.ifCond .ne 9, 3) := by decide +kernel
theorem dX5_findGroups_86 : decode cX5_findGroups 86 = .ok (.iinc 3 1, 3) := by decide +kernel
theorem dX5_findGroups_89 : decode cX5_findGroups 89 = .ok (.goto (-39), 3) := by decide +kernel
theorem dX5_findGroups_92 : decode cX5_findGroups 92 = .ok (.iload_n 3, 1) := by decide +kernel
theorem dX5_findGroups_93 : decode cX5_findGroups 93 = .ok (.aload_n 0, 1) := by decide +kernel
theorem dX5_findGroups_94 : decode cX5_findGroups 94 = .ok (.getfield 127, 3) := by decide +kernel
theorem dX5_findGroups_97 : decode cX5_findGroups 97 = .ok (.if_icmp .eq 12, 3) := by decide +kernel
theorem dX5_findGroups_100 : decode cX5_findGroups 100 = .ok (.aload_n 0, 1) := by decide +kernel
theorem dX5_findGroups_101 : decode cX5_findGroups 101 = .ok (.getfield 38, 3) := by decide +kernel
theorem dX5_findGroups_104 : decode cX5_findGroups 104 = .ok (.iload_n 3, 1) := by decide +kernel
theorem dX5_findGroups_105 : decode cX5_findGroups 105 = .ok (.iaload, 1) := by decide +kernel
theorem dX5_findGroups_106 : decode cX5_findGroups 106 = .ok (.ifCond .ne 47, 3) := by decide +kernel
theorem dX5_findGroups_109 : decode cX5_findGroups 109 = .ok (.aload_n 0, 1) := by decide +kernel
theorem dX5_findGroups_110 : decode cX5_findGroups 110 = .ok (.iload_n 3, 1) := by decide +kernel
theorem dX5_findGroups_111 : decode cX5_findGroups 111 = .ok (.aload_n 0, 1) := by decide +kernel
theorem dX5_findGroups_112 : decode cX5_findGroups 112 = .ok (.getfield 127, 3) := by decide +kernel
theorem dX5_findGroups_115 : decode cX5_findGroups 115 = .ok (.if_icmp .ne 12, 3) := by decide +kernel
theorem dX5_findGroups_118 : decode cX5_findGroups 118 = .ok (.aload_n 0, 1) := by decide +kernel
theorem dX5_findGroups_119 : decode cX5_findGroups 119 = .ok (.getfield 127, 3) := by decide +kernel
theorem dX5_findGroups_122 : decode cX5_findGroups 122 = .ok (.iconst 1, 1) := by decide +kernel
theorem dX5_findGroups_123 : decode cX5_findGroups 123 = .ok (.iadd, 1) := by decide +kernel
theorem dX5_findGroups_124 : decode cX5_findGroups 124 = .ok (.goto 7, 3) := by decide +kernel
theorem dX5_findGroups_127 : decode cX5_findGroups 127 = .ok (.aload_n 0, 1) := by decide +kernel
theorem dX5_findGroups_128 : decode cX5_findGroups 128 = .ok (.getfield 127, 3) := by decide +kernel
theorem dX5_findGroups_131 : decode cX5_findGroups 131 = .ok (.putfield 127, 3) := by decide +kernel
theorem dX5_findGroups_134 : decode cX5_findGroups 134 = .ok (.aload_n 0, 1) := by decide +kernel
theorem dX5_findGroups_135 : decode cX5_findGroups 135 = .ok (.getfield 35, 3) := by decide +kernel
theorem dX5_findGroups_138 : decode cX5_findGroups 138 = .ok (.iload_n 3, 1) := by decide +kernel
theorem dX5_findGroups_139 : decode cX5_findGroups 139 = .ok (.aload_n 0, 1) := by decide +kernel
theorem dX5_findGroups_140 : decode cX5_findGroups 140 = .ok (.getfield 29, 3) := by decide +kernel
theorem dX5_findGroups_143 : decode cX5_findGroups 143 = .ok (.iload_n 2, 1) := by decide +kernel
theorem dX5_findGroups_144 : decode cX5_findGroups 144 = .ok (.iaload, 1) := by decide +kernel
theorem dX5_findGroups_145 : decode cX5_findGroups 145 = .ok (.iastore, 1) := by decide +kernel
theorem dX5_findGroups_146 : decode cX5_findGroups 146 = .ok (.aload_n 0, 1) := by decide +kernel
theorem dX5_findGroups_147 : decode cX5_findGroups 147 = .ok (.getfield 38, 3) := by decide +kernel
theorem dX5_findGroups_150 : decode cX5_findGroups 150 = .ok (.iload_n 3, 1) := by decide +kernel
theorem dX5_findGroups_151 : decode cX5_findGroups 151 = .ok (.iconst 0, 1) := by decide +kernel
theorem dX5_findGroups_152 : decode cX5_findGroups 152 = .ok (.iastore, 1) := by decide +kernel
theorem dX5_findGroups_153 : decode cX5_findGroups 153 = .ok (.aload_n 0, 1) := by decide +kernel
theorem dX5_findGroups_154 : decode cX5_findGroups 154 = .ok (.getfield 38, 3) := by decide +kernel
theorem dX5_findGroups_157 : decode cX5_findGroups 157 = .ok (.iload_n 3, 1) := by decide +kernel
theorem dX5_findGroups_158 : decode cX5_findGroups 158 = .ok (.dup2, 1) := by decide +kernel
theorem dX5_findGroups_159 : decode cX5_findGroups 159 = .ok (.iaload, 1) := by decide +kernel
theorem dX5_findGroups_160 : decode cX5_findGroups 160 = .ok (.iconst 1, 1) := by decide +kernel
theorem dX5_findGroups_161 : decode cX5_findGroups 161 = .ok (.iadd, 1) := by decide +kernel
theorem dX5_findGroups_162 : decode cX5_findGroups 162 = .ok (.iastore, 1) := by decide +kernel
theorem dX5_findGroups_163 : decode cX5_findGroups 163 = .ok (.aload_n 0, 1) := by decide +kernel
theorem dX5_findGroups_164 : decode cX5_findGroups 164 = .ok (.getfield 66, 3) := by decide +kernel
theorem dX5_findGroups_167 : decode cX5_findGroups 167 = .ok (.iload_n 1, 1) := by decide +kernel
theorem dX5_findGroups_168 : decode cX5_findGroups 168 = .ok (.iload_n 3, 1) := by decide +kernel
theorem dX5_findGroups_169 : decode cX5_findGroups 169 = .ok (.iastore, 1) := by decide +kernel
theorem dX5_findGroups_170 : decode cX5_findGroups 170 = .ok (.iinc 1 1, 3) := by decide +kernel
theorem dX5_findGroups_173 : decode cX5_findGroups 173 = .ok (.goto (-140), 3) := by decide +kernel
theorem dX5_findGroups_176 : decode cX5_findGroups 176 = .ok (.return_, 1) := by decide +kernel
set_option maxRecDepth 20000 in
theorem ggX5_gather_X5_compare : GoodIn wsX5_gather wsX5_compare := goodIn_r _ [11, 12, 13, 14, 15, 16, 17, 10, 18, 19, 20, 21, 22, 23, 24, 25, 26, 27, 28, 29, 30, 31, 32, 33, 34, 35, 36, 37, 38, 39, 40, 41, 42, 43, 44, 45, 46, 47, 48, 49] (by decide +kernel) (by decide +kernel)
set_option maxRecDepth 20000 in
theorem gX5_gather_X5_compare : GoodIn wsX5_gather (wsV RX5 123 RX5 yX5_compare wsX5_compare) := goodIn_app (goodIn_of _ (by decide +kernel)) ggX5_gather_X5_compare
theorem dX5_gather_0 : decode cX5_gather 0 = .ok (.aload_n 0, 1) := by decide +kernel
theorem dX5_gather_1 : decode cX5_gather 1 = .ok (.iconst 0, 1) := by decide +kernel
theorem dX5_gather_2 : decode cX5_gather 2 = .ok (.putfield 134, 3) := by decide +kernel
theorem dX5_gather_5 : decode cX5_gather 5 = .ok (.iconst 0, 1) := by decide +kernel
theorem dX5_gather_6 : decode cX5_gather 6 = .ok (.istore_n 3, 1) := by decide +kernel
theorem dX5_gather_7 : decode cX5_gather 7 = .ok (.iload_n 3, 1) := by decide +kernel
theorem dX5_gather_8 : decode cX5_gather 8 = .ok (.aload_n 0, 1) := by decide +kernel
theorem dX5_gather_9 : decode cX5_gather 9 = .ok (.getfield 107, 3) := by decide +kernel
theorem dX5_gather_12 : decode cX5_gather 12 = .ok (.if_icmp .ge 120, 3) := by decide +kernel
theorem dX5_gather_15 : decode cX5_gather 15 = .ok (.aload_n 0, 1) := by decide +kernel
theorem dX5_gather_16 : decode cX5_gather 16 = .ok (.getfield 32, 3) := by decide +kernel
theorem dX5_gather_19 : decode cX5_gather 19 = .ok (.aload_n 0, 1) := by decide +kernel
theorem dX5_gather_20 : decode cX5_gather 20 = .ok (.getfield 63, 3) := by decide +kernel
theorem dX5_gather_23 : decode cX5_gather 23 = .ok (.iload_n 3, 1) := by decide +kernel
theorem dX5_gather_24 : decode cX5_gather 24 = .ok (.iaload, 1) := by decide +kernel
theorem dX5_gather_25 : decode cX5_gather 25 = .ok (.iaload, 1) := by decide +kernel
theorem dX5_gather_26 : decode cX5_gather 26 = .ok (.istore 4, 2) := by decide +kernel
theorem dX5_gather_28 : decode cX5_gather 28 = .ok (.aload_n 0, 1) := by decide +kernel
theorem dX5_gather_29 : decode cX5_gather 29 = .ok (.getfield 66, 3) := by decide +kernel
theorem dX5_gather_32 : decode cX5_gather 32 = .ok (.iload_n 3, 1) := by decide +kernel
theorem dX5_gather_33 : decode cX5_gather 33 = .ok (.iaload, 1) := by decide +kernel
theorem dX5_gather_34 : decode cX5_gather 34 = .ok (.iload_n 1, 1) := by decide +kernel
theorem dX5_gather_35 : decode cX5_gather 35 = .ok (.if_icmp .ne 91, 3) := by decide +kernel
theorem dX5_gather_38 : decode cX5_gather 38 = .ok (.iload 4, 2) := by decide +kernel
theorem dX5_gather_40 : decode cX5_gather 40 = .ok (.iconst (-1), 1) := by decide +kernel
theorem dX5_gather_41 : decode cX5_gather 41 = .ok (.if_icmp .ne 6, 3) := by decide +kernel
theorem dX5_gather_44 : decode cX5_gather 44 = .ok (.goto 82, 3) := by decide +kernel
theorem dX5_gather_47 : decode cX5_gather 47 = .ok (.iconst 0, 1) := by decide +kernel
theorem dX5_gather_48 : decode cX5_gather 48 = .ok (.istore 5, 2) := by decide +kernel
theorem dX5_gather_50 : decode cX5_gather 50 = .ok (.iconst 0, 1) := by decide +kernel
theorem dX5_gather_51 : decode cX5_gather 51 = .ok (.istore 6, 2) := by decide +kernel
theorem dX5_gather_53 : decode cX5_gather 53 = .ok (.iload 6, 2) := by decide +kernel
theorem dX5_gather_55 : decode cX5_gather 55 = .ok (.aload_n 0, 1) := by decide +kernel
theorem dX5_gather_56 : decode cX5_gather 56 = .ok (.getfield 134, 3) := by decide +kernel
theorem dX5_gather_59 : decode cX5_gather 59 = .ok (.if_icmp .ge 41, 3) := by decide +kernel
theorem dX5_gather_62 : decode cX5_gather 62 = .ok (.iload_n 2, 1) := by decide +kernel
theorem dX5_gather_63 : decode cX5_gather 63 = .ok (.ifCond .eq 37, 3) := by decide +kernel
theorem dX5_gather_66 : decode cX5_gather 66 = .ok (.iload 5, 2) := by decide +kernel
theorem dX5_gather_68 : decode cX5_gather 68 = .ok (.ifCond .ne 19, 3) := by decide +kernel
theorem dX5_gather_71 : decode cX5_gather 71 = .ok (.aload_n 0, 1) := by decide +kernel
theorem dX5_gather_72 : decode cX5_gather 72 = .ok (.aload_n 0, 1) := by decide +kernel
theorem dX5_gather_73 : decode cX5_gather 73 = .ok (.getfield 69, 3) := by decide +kernel
theorem dX5_gather_76 : decode cX5_gather 76 = .ok (.iload 6, 2) := by decide +kernel
theorem dX5_gather_78 : decode cX5_gather 78 = .ok (.iaload, 1) := by decide +kernel
theorem dX5_gather_79 : decode cX5_gather 79 = .ok (.iload 4, 2) := by decide +kernel
theorem dX5_gather_81 : decode cX5_gather 81 = .ok (.invokevirtual 123, 3) := by decide +kernel
theorem dX5_gather_84 : decode cX5_gather 84 = .ok (.ifCond .ne 7, 3) := by decide +kernel
theorem dX5_gather_87 : decode cX5_gather 87 = .ok (.iconst 1, 1) := by decide +kernel
theorem dX5_gather_88 : decode cX5_gather 88 = .ok (.goto 4, 3) := by decide +kernel
theorem dX5_gather_91 : decode cX5_gather 91 = .ok (.iconst 0, 1) := by decide +kernel
theorem dX5_gather_92 : decode cX5_gather 92 = .ok (.istore 5, 2) := by decide +kernel
theorem dX5_gather_94 : decode cX5_gather 94 = .ok (.iinc 6 1, 3) := by decide +kernel
theorem dX5_gather_97 : decode cX5_gather 97 = .ok (.goto (-44), 3) := by decide +kernel
theorem dX5_gather_100 : decode cX5_gather 100 = .ok (.iload 5, 2) := by decide +kernel
theorem dX5_gather_102 : decode cX5_gather 102 = .ok (.ifCond .ne 24, 3) := by decide +kernel
theorem dX5_gather_105 : decode cX5_gather 105 = .ok (.aload_n 0, 1) := by decide +kernel
theorem dX5_gather_106 : decode cX5_gather 106 = .ok (.getfield 69, 3) := by decide +kernel
theorem dX5_gather_109 : decode cX5_gather 109 = .ok (.aload_n 0, 1) := by decide +kernel
theorem dX5_gather_110 : decode cX5_gather 110 = .ok (.getfield 134, 3) := by decide +kernel
theorem dX5_gather_113 : decode cX5_gather 113 = .ok (.iload 4, 2) := by decide +kernel
theorem dX5_gather_115 : decode cX5_gather 115 = .ok (.iastore, 1) := by decide +kernel
theorem dX5_gather_116 : decode cX5_gather 116 = .ok (.aload_n 0, 1) := by decide +kernel
theorem dX5_gather_117 : decode cX5_gather 117 = .ok (.dup, 1) := by decide +kernel
theorem dX5_gather_118 : decode cX5_gather 118 = .ok (.getfield 134, 3) := by decide +kernel
theorem dX5_gather_121 : decode cX5_gather 121 = .ok (.iconst 1, 1) := by decide +kernel
theorem dX5_gather_122 : decode cX5_gather 122 = .ok (.iadd, 1) := by decide +kernel
theorem dX5_gather_123 : decode cX5_gather 123 = .ok (.putfield 134, 3) := by decide +kernel
theorem dX5_gather_126 : decode cX5_gather 126 = .ok (.iinc 3 1, 3) := by decide +kernel
theorem dX5_gather_129 : decode cX5_gather 129 = .ok (.goto (-122), 3) := by decide +kernel
theorem dX5_gather_132 : decode cX5_gather 132 = .ok (.return_, 1) := by decide +kernel
theorem dX5_hasText_0 : decode cX5_hasText 0 = .ok (.iconst 0, 1) := by decide +kernel
theorem dX5_hasText_1 : decode cX5_hasText 1 = .ok (.istore_n 1, 1) := by decide +kernel
theorem dX5_hasText_2 : decode cX5_hasText 2 = .ok (.iconst 0, 1) := by decide +kernel
theorem dX5_hasText_3 : decode cX5_hasText 3 = .ok (.istore_n 2, 1) := by decide +kernel
theorem dX5_hasText_4 : decode cX5_hasText 4 = .ok (.iload_n 2, 1) := by decide +kernel
theorem dX5_hasText_5 : decode cX5_hasText 5 = .ok (.aload_n 0, 1) := by decide +kernel
theorem dX5_hasText_6 : decode cX5_hasText 6 = .ok (.getfield 134, 3) := by decide +kernel
theorem dX5_hasText_9 : decode cX5_hasText 9 = .ok (.if_icmp .ge 33, 3) := by decide +kernel
theorem dX5_hasText_12 : decode cX5_hasText 12 = .ok (.iload_n 1, 1) := by decide +kernel
theorem dX5_hasText_13 : decode cX5_hasText 13 = .ok (.ifCond .ne 17, 3) := by decide +kernel
theorem dX5_hasText_16 : decode cX5_hasText 16 = .ok (.aload_n 0, 1) := by decide +kernel
theorem dX5_hasText_17 : decode cX5_hasText 17 = .ok (.getfield 7, 3) := by decide +kernel
theorem dX5_hasText_20 : decode cX5_hasText 20 = .ok (.aload_n 0, 1) := by decide +kernel
theorem dX5_hasText_21 : decode cX5_hasText 21 = .ok (.getfield 69, 3) := by decide +kernel
theorem dX5_hasText_24 : decode cX5_hasText 24 = .ok (.iload_n 2, 1) := by decide +kernel
theorem dX5_hasText_25 : decode cX5_hasText 25 = .ok (.iaload, 1) := by decide +kernel
theorem dX5_hasText_26 : decode cX5_hasText 26 = .ok (.baload, 1) := by decide +kernel
theorem dX5_hasText_27 : decode cX5_hasText 27 = .ok (.ifCond .eq 7, 3) := by decide +kernel
theorem dX5_hasText_30 : decode cX5_hasText 30 = .ok (.iconst 1, 1) := by decide +kernel
theorem dX5_hasText_31 : decode cX5_hasText 31 = .ok (.goto 4, 3) := by decide +kernel
theorem dX5_hasText_34 : decode cX5_hasText 34 = .ok (.iconst 0, 1) := by decide +kernel
theorem dX5_hasText_35 : decode cX5_hasText 35 = .ok (.istore_n 1, 1) := by decide +kernel
theorem dX5_hasText_36 : decode cX5_hasText 36 = .ok (.iinc 2 1, 3) := by decide +kernel
theorem dX5_hasText_39 : decode cX5_hasText 39 = .ok (.goto (-35), 3) := by decide +kernel
theorem dX5_hasText_42 : decode cX5_hasText 42 = .ok (.iload_n 1, 1) := by decide +kernel
theorem dX5_hasText_43 : decode cX5_hasText 43 = .ok (.ireturn, 1) := by decide +kernel
theorem dX5_tellNumber_0 : decode cX5_tellNumber 0 = .ok (.lload_n 2, 1) := by decide +kernel
theorem dX5_tellNumber_1 : decode cX5_tellNumber 1 = .ok (.lconst 0, 1) := by decide +kernel
theorem dX5_tellNumber_2 : decode cX5_tellNumber 2 = .ok (.lcmp, 1) := by decide +kernel
theorem dX5_tellNumber_3 : decode cX5_tellNumber 3 = .ok (.ifCond .ge 8, 3) := by decide +kernel
theorem dX5_tellNumber_6 : decode cX5_tellNumber 6 = .ok (.lload_n 2, 1) := by decide +kernel
theorem dX5_tellNumber_7 : decode cX5_tellNumber 7 = .ok (.lneg, 1) := by decide +kernel
theorem dX5_tellNumber_8 : decode cX5_tellNumber 8 = .ok (.goto 4, 3) := by decide +kernel
theorem dX5_tellNumber_11 : decode cX5_tellNumber 11 = .ok (.lload_n 2, 1) := by decide +kernel
theorem dX5_tellNumber_12 : decode cX5_tellNumber 12 = .ok (.lstore 6, 2) := by decide +kernel
theorem dX5_tellNumber_14 : decode cX5_tellNumber 14 = .ok (.lload 4, 2) := by decide +kernel
theorem dX5_tellNumber_16 : decode cX5_tellNumber 16 = .ok (.lstore 8, 2) := by decide +kernel
theorem dX5_tellNumber_18 : decode cX5_tellNumber 18 = .ok (.lload 8, 2) := by decide +kernel
theorem dX5_tellNumber_20 : decode cX5_tellNumber 20 = .ok (.lconst 0, 1) := by decide +kernel
theorem dX5_tellNumber_21 : decode cX5_tellNumber 21 = .ok (.lcmp, 1) := by decide +kernel
theorem dX5_tellNumber_22 : decode cX5_tellNumber 22 = .ok (.ifCond .eq 21, 3) := by decide +kernel
theorem dX5_tellNumber_25 : decode cX5_tellNumber 25 = .ok (.lload 6, 2) := by decide +kernel
theorem dX5_tellNumber_27 : decode cX5_tellNumber 27 = .ok (.lload 8, 2) := by decide +kernel
theorem dX5_tellNumber_29 : decode cX5_tellNumber 29 = .ok (.lrem, 1) := by decide +kernel
theorem dX5_tellNumber_30 : decode cX5_tellNumber 30 = .ok (.lstore 10, 2) := by decide +kernel
theorem dX5_tellNumber_32 : decode cX5_tellNumber 32 = .ok (.lload 8, 2) := by decide +kernel
theorem dX5_tellNumber_34 : decode cX5_tellNumber 34 = .ok (.lstore 6, 2) := by decide +kernel
theorem dX5_tellNumber_36 : decode cX5_tellNumber 36 = .ok (.lload 10, 2) := by decide +kernel
theorem dX5_tellNumber_38 : decode cX5_tellNumber 38 = .ok (.lstore 8, 2) := by decide +kernel
theorem dX5_tellNumber_40 : decode cX5_tellNumber 40 = .ok (.goto (-22), 3) := by decide +kernel
theorem dX5_tellNumber_43 : decode cX5_tellNumber 43 = .ok (.aload_n 0, 1) := by decide +kernel
theorem dX5_tellNumber_44 : decode cX5_tellNumber 44 = .ok (.getfield 41, 3) := by decide +kernel
theorem dX5_tellNumber_47 : decode cX5_tellNumber 47 = .ok (.iload_n 1, 1) := by decide +kernel
theorem dX5_tellNumber_48 : decode cX5_tellNumber 48 = .ok (.iconst 0, 1) := by decide +kernel
theorem dX5_tellNumber_49 : decode cX5_tellNumber 49 = .ok (.iastore, 1) := by decide +kernel
theorem dX5_tellNumber_50 : decode cX5_tellNumber 50 = .ok (.aload_n 0, 1) := by decide +kernel
theorem dX5_tellNumber_51 : decode cX5_tellNumber 51 = .ok (.getfield 47, 3) := by decide +kernel
theorem dX5_tellNumber_54 : decode cX5_tellNumber 54 = .ok (.iload_n 1, 1) := by decide +kernel
theorem dX5_tellNumber_55 : decode cX5_tellNumber 55 = .ok (.lload_n 2, 1) := by decide +kernel
theorem dX5_tellNumber_56 : decode cX5_tellNumber 56 = .ok (.lload 6, 2) := by decide +kernel
theorem dX5_tellNumber_58 : decode cX5_tellNumber 58 = .ok (.ldiv, 1) := by decide +kernel
theorem dX5_tellNumber_59 : decode cX5_tellNumber 59 = .ok (.lastore, 1) := by decide +kernel
theorem dX5_tellNumber_60 : decode cX5_tellNumber 60 = .ok (.aload_n 0, 1) := by decide +kernel
theorem dX5_tellNumber_61 : decode cX5_tellNumber 61 = .ok (.getfield 51, 3) := by decide +kernel
theorem dX5_tellNumber_64 : decode cX5_tellNumber 64 = .ok (.iload_n 1, 1) := by decide +kernel
theorem dX5_tellNumber_65 : decode cX5_tellNumber 65 = .ok (.lload 4, 2) := by decide +kernel
theorem dX5_tellNumber_67 : decode cX5_tellNumber 67 = .ok (.lload 6, 2) := by decide +kernel
theorem dX5_tellNumber_69 : decode cX5_tellNumber 69 = .ok (.ldiv, 1) := by decide +kernel
theorem dX5_tellNumber_70 : decode cX5_tellNumber 70 = .ok (.lastore, 1) := by decide +kernel
theorem dX5_tellNumber_71 : decode cX5_tellNumber 71 = .ok (.return_, 1) := by decide +kernel
theorem dX5_fail_0 : decode cX5_fail 0 = .ok (.aload_n 0, 1) := by decide +kernel
theorem dX5_fail_1 : decode cX5_fail 1 = .ok (.getfield 41, 3) := by decide +kernel
theorem dX5_fail_4 : decode cX5_fail 4 = .ok (.iload_n 1, 1) := by decide +kernel
theorem dX5_fail_5 : decode cX5_fail 5 = .ok (.iconst 2, 1) := by decide +kernel
theorem dX5_fail_6 : decode cX5_fail 6 = .ok (.iastore, 1) := by decide +kernel
theorem dX5_fail_7 : decode cX5_fail 7 = .ok (.aload_n 0, 1) := by decide +kernel
theorem dX5_fail_8 : decode cX5_fail 8 = .ok (.getfield 44, 3) := by decide +kernel
theorem dX5_fail_11 : decode cX5_fail 11 = .ok (.iload_n 1, 1) := by decide +kernel
theorem dX5_fail_12 : decode cX5_fail 12 = .ok (.iload_n 2, 1) := by decide +kernel
theorem dX5_fail_13 : decode cX5_fail 13 = .ok (.iastore, 1) := by decide +kernel
theorem dX5_fail_14 : decode cX5_fail 14 = .ok (.return_, 1) := by decide +kernel
theorem dX5_say_0 : decode cX5_say 0 = .ok (.aload_n 0, 1) := by decide +kernel
theorem dX5_say_1 : decode cX5_say 1 = .ok (.getfield 57, 3) := by decide +kernel
theorem dX5_say_4 : decode cX5_say 4 = .ok (.iload_n 1, 1) := by decide +kernel
theorem dX5_say_5 : decode cX5_say 5 = .ok (.iaload, 1) := by decide +kernel
theorem dX5_say_6 : decode cX5_say 6 = .ok (.bipush 80, 2) := by decide +kernel
theorem dX5_say_8 : decode cX5_say 8 = .ok (.if_icmp .ge 20, 3) := by decide +kernel
theorem dX5_say_11 : decode cX5_say 11 = .ok (.aload_n 0, 1) := by decide +kernel
theorem dX5_say_12 : decode cX5_say 12 = .ok (.getfield 60, 3) := by decide +kernel
theorem dX5_say_15 : decode cX5_say 15 = .ok (.bipush 80, 2) := by decide +kernel
theorem dX5_say_17 : decode cX5_say 17 = .ok (.iload_n 1, 1) := by decide +kernel
theorem dX5_say_18 : decode cX5_say 18 = .ok (.imul, 1) := by decide +kernel
theorem dX5_say_19 : decode cX5_say 19 = .ok (.aload_n 0, 1) := by decide +kernel
theorem dX5_say_20 : decode cX5_say 20 = .ok (.getfield 57, 3) := by decide +kernel
theorem dX5_say_23 : decode cX5_say 23 = .ok (.iload_n 1, 1) := by decide +kernel
theorem dX5_say_24 : decode cX5_say 24 = .ok (.iaload, 1) := by decide +kernel
theorem dX5_say_25 : decode cX5_say 25 = .ok (.iadd, 1) := by decide +kernel
theorem dX5_say_26 : decode cX5_say 26 = .ok (.iload_n 2, 1) := by decide +kernel
theorem dX5_say_27 : decode cX5_say 27 = .ok (.iastore, 1) := by decide +kernel
theorem dX5_say_28 : decode cX5_say 28 = .ok (.aload_n 0, 1) := by decide +kernel
theorem dX5_say_29 : decode cX5_say 29 = .ok (.getfield 57, 3) := by decide +kernel
theorem dX5_say_32 : decode cX5_say 32 = .ok (.iload_n 1, 1) := by decide +kernel
theorem dX5_say_33 : decode cX5_say 33 = .ok (.dup2, 1) := by decide +kernel
theorem dX5_say_34 : decode cX5_say 34 = .ok (.iaload, 1) := by decide +kernel
theorem dX5_say_35 : decode cX5_say 35 = .ok (.iconst 1, 1) := by decide +kernel
theorem dX5_say_36 : decode cX5_say 36 = .ok (.iadd, 1) := by decide +kernel
theorem dX5_say_37 : decode cX5_say 37 = .ok (.iastore, 1) := by decide +kernel
theorem dX5_say_38 : decode cX5_say 38 = .ok (.return_, 1) := by decide +kernel
set_option maxRecDepth 20000 in
theorem ggX5_sayTerm_X5_say : GoodIn wsX5_sayTerm wsX5_say := goodIn_r _ [10, 11, 12, 13, 14, 15, 16, 17, 18, 19, 20, 21, 22, 23, 24, 25, 26, 27, 28, 29, 30, 31, 32, 33, 34, 35, 36, 37, 38, 39, 40] (by decide +kernel) (by decide +kernel)
set_option maxRecDepth 20000 in
theorem gX5_sayTerm_X5_say : GoodIn wsX5_sayTerm (wsV RX5 137 RX5 yX5_say wsX5_say) := goodIn_app (goodIn_of _ (by decide +kernel)) ggX5_sayTerm_X5_say
theorem dX5_sayTerm_0 : decode cX5_sayTerm 0 = .ok (.aload_n 0, 1) := by decide +kernel
theorem dX5_sayTerm_1 : decode cX5_sayTerm 1 = .ok (.getfield 7, 3) := by decide +kernel
theorem dX5_sayTerm_4 : decode cX5_sayTerm 4 = .ok (.iload_n 2, 1) := by decide +kernel
theorem dX5_sayTerm_5 : decode cX5_sayTerm 5 = .ok (.baload, 1) := by decide +kernel
theorem dX5_sayTerm_6 : decode cX5_sayTerm 6 = .ok (.ifCond .eq 38, 3) := by decide +kernel
theorem dX5_sayTerm_9 : decode cX5_sayTerm 9 = .ok (.iconst 0, 1) := by decide +kernel
theorem dX5_sayTerm_10 : decode cX5_sayTerm 10 = .ok (.istore_n 3, 1) := by decide +kernel
theorem dX5_sayTerm_11 : decode cX5_sayTerm 11 = .ok (.iload_n 3, 1) := by decide +kernel
theorem dX5_sayTerm_12 : decode cX5_sayTerm 12 = .ok (.aload_n 0, 1) := by decide +kernel
theorem dX5_sayTerm_13 : decode cX5_sayTerm 13 = .ok (.getfield 20, 3) := by decide +kernel
theorem dX5_sayTerm_16 : decode cX5_sayTerm 16 = .ok (.iload_n 2, 1) := by decide +kernel
theorem dX5_sayTerm_17 : decode cX5_sayTerm 17 = .ok (.iaload, 1) := by decide +kernel
theorem dX5_sayTerm_18 : decode cX5_sayTerm 18 = .ok (.if_icmp .ge 25, 3) := by decide +kernel
theorem dX5_sayTerm_21 : decode cX5_sayTerm 21 = .ok (.aload_n 0, 1) := by decide +kernel
theorem dX5_sayTerm_22 : decode cX5_sayTerm 22 = .ok (.iload_n 1, 1) := by decide +kernel
theorem dX5_sayTerm_23 : decode cX5_sayTerm 23 = .ok (.aload_n 0, 1) := by decide +kernel
theorem dX5_sayTerm_24 : decode cX5_sayTerm 24 = .ok (.getfield 23, 3) := by decide +kernel
theorem dX5_sayTerm_27 : decode cX5_sayTerm 27 = .ok (.bipush 8, 2) := by decide +kernel
theorem dX5_sayTerm_29 : decode cX5_sayTerm 29 = .ok (.iload_n 2, 1) := by decide +kernel
theorem dX5_sayTerm_30 : decode cX5_sayTerm 30 = .ok (.imul, 1) := by decide +kernel
theorem dX5_sayTerm_31 : decode cX5_sayTerm 31 = .ok (.iload_n 3, 1) := by decide +kernel
theorem dX5_sayTerm_32 : decode cX5_sayTerm 32 = .ok (.iadd, 1) := by decide +kernel
theorem dX5_sayTerm_33 : decode cX5_sayTerm 33 = .ok (.iaload, 1) := by decide +kernel
theorem dX5_sayTerm_34 : decode cX5_sayTerm 34 = .ok (.invokevirtual 137, 3) := by decide +kernel
theorem dX5_sayTerm_37 : decode cX5_sayTerm 37 = .ok (.iinc 3 1, 3) := by decide +kernel
theorem dX5_sayTerm_40 : decode cX5_sayTerm 40 = .ok (.goto (-29), 3) := by decide +kernel
theorem dX5_sayTerm_43 : decode cX5_sayTerm 43 = .ok (.return_, 1) := by decide +kernel
theorem dX5_sayTerm_44 : decode cX5_sayTerm 44 = .ok (.aload_n 0, 1) := by decide +kernel
theorem dX5_sayTerm_45 : decode cX5_sayTerm 45 = .ok (.getfield 13, 3) := by decide +kernel
theorem dX5_sayTerm_48 : decode cX5_sayTerm 48 = .ok (.iload_n 2, 1) := by decide +kernel
theorem dX5_sayTerm_49 : decode cX5_sayTerm 49 = .ok (.iaload, 1) := by decide +kernel
theorem dX5_sayTerm_50 : decode cX5_sayTerm 50 = .ok (.ifCond .ge 13, 3) := by decide +kernel
theorem dX5_sayTerm_53 : decode cX5_sayTerm 53 = .ok (.aload_n 0, 1) := by decide +kernel
theorem dX5_sayTerm_54 : decode cX5_sayTerm 54 = .ok (.getfield 13, 3) := by decide +kernel
theorem dX5_sayTerm_57 : decode cX5_sayTerm 57 = .ok (.iload_n 2, 1) := by decide +kernel
theorem dX5_sayTerm_58 : decode cX5_sayTerm 58 = .ok (.iaload, 1) := by decide +kernel
theorem dX5_sayTerm_59 : decode cX5_sayTerm 59 = .ok (.ineg, 1) := by decide +kernel
theorem dX5_sayTerm_60 : decode cX5_sayTerm 60 = .ok (.goto 9, 3) := by decide +kernel
theorem dX5_sayTerm_63 : decode cX5_sayTerm 63 = .ok (.aload_n 0, 1) := by decide +kernel
theorem dX5_sayTerm_64 : decode cX5_sayTerm 64 = .ok (.getfield 13, 3) := by decide +kernel
theorem dX5_sayTerm_67 : decode cX5_sayTerm 67 = .ok (.iload_n 2, 1) := by decide +kernel
theorem dX5_sayTerm_68 : decode cX5_sayTerm 68 = .ok (.iaload, 1) := by decide +kernel
theorem dX5_sayTerm_69 : decode cX5_sayTerm 69 = .ok (.istore_n 3, 1) := by decide +kernel
theorem dX5_sayTerm_70 : decode cX5_sayTerm 70 = .ok (.aload_n 0, 1) := by decide +kernel
theorem dX5_sayTerm_71 : decode cX5_sayTerm 71 = .ok (.getfield 13, 3) := by decide +kernel
theorem dX5_sayTerm_74 : decode cX5_sayTerm 74 = .ok (.iload_n 2, 1) := by decide +kernel
theorem dX5_sayTerm_75 : decode cX5_sayTerm 75 = .ok (.iaload, 1) := by decide +kernel
theorem dX5_sayTerm_76 : decode cX5_sayTerm 76 = .ok (.ifCond .ge 10, 3) := by decide +kernel
theorem dX5_sayTerm_79 : decode cX5_sayTerm 79 = .ok (.aload_n 0, 1) := by decide +kernel
theorem dX5_sayTerm_80 : decode cX5_sayTerm 80 = .ok (.iload_n 1, 1) := by decide +kernel
theorem dX5_sayTerm_81 : decode cX5_sayTerm 81 = .ok (.bipush 45, 2) := by decide +kernel
theorem dX5_sayTerm_83 : decode cX5_sayTerm 83 = .ok (.invokevirtual 137, 3) := by decide +kernel
theorem dX5_sayTerm_86 : decode cX5_sayTerm 86 = .ok (.iconst 1, 1) := by decide +kernel
theorem dX5_sayTerm_87 : decode cX5_sayTerm 87 = .ok (.istore 4, 2) := by decide +kernel
theorem dX5_sayTerm_89 : decode cX5_sayTerm 89 = .ok (.iconst 0, 1) := by decide +kernel
theorem dX5_sayTerm_90 : decode cX5_sayTerm 90 = .ok (.istore 5, 2) := by decide +kernel
theorem dX5_sayTerm_92 : decode cX5_sayTerm 92 = .ok (.iload 5, 2) := by decide +kernel
theorem dX5_sayTerm_94 : decode cX5_sayTerm 94 = .ok (.aload_n 0, 1) := by decide +kernel
theorem dX5_sayTerm_95 : decode cX5_sayTerm 95 = .ok (.getfield 17, 3) := by decide +kernel
theorem dX5_sayTerm_98 : decode cX5_sayTerm 98 = .ok (.iload_n 2, 1) := by decide +kernel
theorem dX5_sayTerm_99 : decode cX5_sayTerm 99 = .ok (.iaload, 1) := by decide +kernel
theorem dX5_sayTerm_100 : decode cX5_sayTerm 100 = .ok (.if_icmp .ge 16, 3) := by decide +kernel
theorem dX5_sayTerm_103 : decode cX5_sayTerm 103 = .ok (.iload 4, 2) := by decide +kernel
theorem dX5_sayTerm_105 : decode cX5_sayTerm 105 = .ok (.bipush 10, 2) := by decide +kernel
theorem dX5_sayTerm_107 : decode cX5_sayTerm 107 = .ok (.imul, 1) := by decide +kernel
theorem dX5_sayTerm_108 : decode cX5_sayTerm 108 = .ok (.istore 4, 2) := by decide +kernel
theorem dX5_sayTerm_110 : decode cX5_sayTerm 110 = .ok (.iinc 5 1, 3) := by decide +kernel
theorem dX5_sayTerm_113 : decode cX5_sayTerm 113 = .ok (.goto (-21), 3) := by decide +kernel
theorem dX5_sayTerm_116 : decode cX5_sayTerm 116 = .ok (.iload_n 3, 1) := by decide +kernel
theorem dX5_sayTerm_117 : decode cX5_sayTerm 117 = .ok (.iload 4, 2) := by decide +kernel
theorem dX5_sayTerm_119 : decode cX5_sayTerm 119 = .ok (.idiv, 1) := by decide +kernel
theorem dX5_sayTerm_120 : decode cX5_sayTerm 120 = .ok (.istore 5, 2) := by decide +kernel
theorem dX5_sayTerm_122 : decode cX5_sayTerm 122 = .ok (.iconst 1, 1) := by decide +kernel
theorem dX5_sayTerm_123 : decode cX5_sayTerm 123 = .ok (.istore 6, 2) := by decide +kernel
theorem dX5_sayTerm_125 : decode cX5_sayTerm 125 = .ok (.iload 5, 2) := by decide +kernel
theorem dX5_sayTerm_127 : decode cX5_sayTerm 127 = .ok (.iload 6, 2) := by decide +kernel
theorem dX5_sayTerm_129 : decode cX5_sayTerm 129 = .ok (.idiv, 1) := by decide +kernel
theorem dX5_sayTerm_130 : decode cX5_sayTerm 130 = .ok (.bipush 9, 2) := by decide +kernel
theorem dX5_sayTerm_132 : decode cX5_sayTerm 132 = .ok (.if_icmp .le 13, 3) := by decide +kernel
theorem dX5_sayTerm_135 : decode cX5_sayTerm 135 = .ok (.iload 6, 2) := by decide +kernel
theorem dX5_sayTerm_137 : decode cX5_sayTerm 137 = .ok (.bipush 10, 2) := by decide +kernel
theorem dX5_sayTerm_139 : decode cX5_sayTerm 139 = .ok (.imul, 1) := by decide +kernel
theorem dX5_sayTerm_140 : decode cX5_sayTerm 140 = .ok (.istore 6, 2) := by decide +kernel
theorem dX5_sayTerm_142 : decode cX5_sayTerm 142 = .ok (.goto (-17), 3) := by decide +kernel
theorem dX5_sayTerm_145 : decode cX5_sayTerm 145 = .ok (.iload 6, 2) := by decide +kernel
theorem dX5_sayTerm_147 : decode cX5_sayTerm 147 = .ok (.ifCond .le 29, 3) := by decide +kernel
theorem dX5_sayTerm_150 : decode cX5_sayTerm 150 = .ok (.aload_n 0, 1) := by decide +kernel
theorem dX5_sayTerm_151 : decode cX5_sayTerm 151 = .ok (.iload_n 1, 1) := by decide +kernel
theorem dX5_sayTerm_152 : decode cX5_sayTerm 152 = .ok (.bipush 48, 2) := by decide +kernel
theorem dX5_sayTerm_154 : decode cX5_sayTerm 154 = .ok (.iload 5, 2) := by decide +kernel
theorem dX5_sayTerm_156 : decode cX5_sayTerm 156 = .ok (.iload 6, 2) := by decide +kernel
theorem dX5_sayTerm_158 : decode cX5_sayTerm 158 = .ok (.idiv, 1) := by decide +kernel
theorem dX5_sayTerm_159 : decode cX5_sayTerm 159 = .ok (.bipush 10, 2) := by decide +kernel
theorem dX5_sayTerm_161 : decode cX5_sayTerm 161 = .ok (.irem, 1) := by decide +kernel
theorem dX5_sayTerm_162 : decode cX5_sayTerm 162 = .ok (.iadd, 1) := by decide +kernel
theorem dX5_sayTerm_163 : decode cX5_sayTerm 163 = .ok (.invokevirtual 137, 3) := by decide +kernel
theorem dX5_sayTerm_166 : decode cX5_sayTerm 166 = .ok (.iload 6, 2) := by decide +kernel
theorem dX5_sayTerm_168 : decode cX5_sayTerm 168 = .ok (.bipush 10, 2) := by decide +kernel
theorem dX5_sayTerm_170 : decode cX5_sayTerm 170 = .ok (.idiv, 1) := by decide +kernel
theorem dX5_sayTerm_171 : decode cX5_sayTerm 171 = .ok (.istore 6, 2) := by decide +kernel
theorem dX5_sayTerm_173 : decode cX5_sayTerm 173 = .ok (.goto (-28), 3) := by decide +kernel
theorem dX5_sayTerm_176 : decode cX5_sayTerm 176 = .ok (.aload_n 0, 1) := by decide +kernel
theorem dX5_sayTerm_177 : decode cX5_sayTerm 177 = .ok (.getfield 17, 3) := by decide +kernel
theorem dX5_sayTerm_180 : decode cX5_sayTerm 180 = .ok (.iload_n 2, 1) := by decide +kernel
theorem dX5_sayTerm_181 : decode cX5_sayTerm 181 = .ok (.iaload, 1) := by decide +kernel
theorem dX5_sayTerm_182 : decode cX5_sayTerm 182 = .ok (.ifCond .le 10, 3) := by decide +kernel
theorem dX5_sayTerm_185 : decode cX5_sayTerm 185 = .ok (.aload_n 0, 1) := by decide +kernel
theorem dX5_sayTerm_186 : decode cX5_sayTerm 186 = .ok (.iload_n 1, 1) := by decide +kernel
theorem dX5_sayTerm_187 : decode cX5_sayTerm 187 = .ok (.bipush 46, 2) := by decide +kernel
theorem dX5_sayTerm_189 : decode cX5_sayTerm 189 = .ok (.invokevirtual 137, 3) := by decide +kernel
theorem dX5_sayTerm_192 : decode cX5_sayTerm 192 = .ok (.iload 4, 2) := by decide +kernel
theorem dX5_sayTerm_194 : decode cX5_sayTerm 194 = .ok (.bipush 10, 2) := by decide +kernel
theorem dX5_sayTerm_196 : decode cX5_sayTerm 196 = .ok (.idiv, 1) := by decide +kernel
theorem dX5_sayTerm_197 : decode cX5_sayTerm 197 = .ok (.istore 7, 2) := by decide +kernel
theorem dX5_sayTerm_199 : decode cX5_sayTerm 199 = .ok (.iload 7, 2) := by decide +kernel
theorem dX5_sayTerm_201 : decode cX5_sayTerm 201 = .ok (.ifCond .le 28, 3) := by decide +kernel
theorem dX5_sayTerm_204 : decode cX5_sayTerm 204 = .ok (.aload_n 0, 1) := by decide +kernel
theorem dX5_sayTerm_205 : decode cX5_sayTerm 205 = .ok (.iload_n 1, 1) := by decide +kernel
theorem dX5_sayTerm_206 : decode cX5_sayTerm 206 = .ok (.bipush 48, 2) := by decide +kernel
theorem dX5_sayTerm_208 : decode cX5_sayTerm 208 = .ok (.iload_n 3, 1) := by decide +kernel
theorem dX5_sayTerm_209 : decode cX5_sayTerm 209 = .ok (.iload 7, 2) := by decide +kernel
theorem dX5_sayTerm_211 : decode cX5_sayTerm 211 = .ok (.idiv, 1) := by decide +kernel
theorem dX5_sayTerm_212 : decode cX5_sayTerm 212 = .ok (.bipush 10, 2) := by decide +kernel
theorem dX5_sayTerm_214 : decode cX5_sayTerm 214 = .ok (.irem, 1) := by decide +kernel
theorem dX5_sayTerm_215 : decode cX5_sayTerm 215 = .ok (.iadd, 1) := by decide +kernel
theorem dX5_sayTerm_216 : decode cX5_sayTerm 216 = .ok (.invokevirtual 137, 3) := by decide +kernel
theorem dX5_sayTerm_219 : decode cX5_sayTerm 219 = .ok (.iload 7, 2) := by decide +kernel
theorem dX5_sayTerm_221 : decode cX5_sayTerm 221 = .ok (.bipush 10, 2) := by decide +kernel
theorem dX5_sayTerm_223 : decode cX5_sayTerm 223 = .ok (.idiv, 1) := by decide +kernel
theorem dX5_sayTerm_224 : decode cX5_sayTerm 224 = .ok (.istore 7, 2) := by decide +kernel
theorem dX5_sayTerm_226 : decode cX5_sayTerm 226 = .ok (.goto (-27), 3) := by decide +kernel
theorem dX5_sayTerm_229 : decode cX5_sayTerm 229 = .ok (.return_, 1) := by decide +kernel
set_option maxRecDepth 20000 in
theorem ggX5_tellTerm_X5_sayTerm : GoodIn wsX5_tellTerm wsX5_sayTerm := goodIn_r _ [9, 3, 10, 11, 12, 13, 14, 15, 16, 8, 17, 18, 19, 31, 32, 33, 34, 35, 36, 37, 38, 39, 40, 41, 42, 43, 44, 45, 46, 47, 48, 49, 50, 51, 52, 53, 54, 55, 56, 57, 58] (by decide +kernel) (by decide +kernel)
set_option maxRecDepth 20000 in
theorem gX5_tellTerm_X5_sayTerm : GoodIn wsX5_tellTerm (wsV RX5 141 RX5 yX5_sayTerm wsX5_sayTerm) := goodIn_app (goodIn_of _ (by decide +kernel)) ggX5_tellTerm_X5_sayTerm
set_option maxRecDepth 20000 in
theorem ggX5_tellTerm_X5_thousandths : GoodIn wsX5_tellTerm wsX5_thousandths := goodIn_r _ [23, 12, 13, 24, 31, 32, 33, 34, 35, 36, 37, 38, 39, 40, 41, 42, 43, 44, 45, 46, 47, 48, 49, 50, 51, 52, 53, 54, 55, 56, 57, 58] (by decide +kernel) (by decide +kernel)
set_option maxRecDepth 20000 in
theorem gX5_tellTerm_X5_thousandths : GoodIn wsX5_tellTerm (wsV RX5 97 RX5 yX5_thousandths wsX5_thousandths) := goodIn_app (goodIn_of _ (by decide +kernel)) ggX5_tellTerm_X5_thousandths
set_option maxRecDepth 20000 in
theorem ggX5_tellTerm_X5_tellNumber : GoodIn wsX5_tellTerm wsX5_tellNumber := goodIn_r _ [28, 1, 29, 30, 31, 32, 33, 34, 35, 36, 37, 38, 39, 40, 41, 42, 43, 44, 45, 46, 47, 48, 49, 50, 51, 52, 53, 54, 55, 56, 57, 58] (by decide +kernel) (by decide +kernel)
set_option maxRecDepth 20000 in
theorem gX5_tellTerm_X5_tellNumber : GoodIn wsX5_tellTerm (wsV RX5 146 RX5 yX5_tellNumber wsX5_tellNumber) := goodIn_app (goodIn_of _ (by decide +kernel)) ggX5_tellTerm_X5_tellNumber
theorem dX5_tellTerm_0 : decode cX5_tellTerm 0 = .ok (.iload_n 2, 1) := by decide +kernel
theorem dX5_tellTerm_1 : decode cX5_tellTerm 1 = .ok (.iconst (-1), 1) := by decide +kernel
theorem dX5_tellTerm_2 : decode cX5_tellTerm 2 = .ok (.if_icmp .ne 11, 3) := by decide +kernel
theorem dX5_tellTerm_5 : decode cX5_tellTerm 5 = .ok (.aload_n 0, 1) := by decide +kernel
theorem dX5_tellTerm_6 : decode cX5_tellTerm 6 = .ok (.getfield 41, 3) := by decide +kernel
theorem dX5_tellTerm_9 : decode cX5_tellTerm 9 = .ok (.iload_n 1, 1) := by decide +kernel
theorem dX5_tellTerm_10 : decode cX5_tellTerm 10 = .ok (.iconst 3, 1) := by decide +kernel
theorem dX5_tellTerm_11 : decode cX5_tellTerm 11 = .ok (.iastore, 1) := by decide +kernel
theorem dX5_tellTerm_12 : decode cX5_tellTerm 12 = .ok (.return_, 1) := by decide +kernel
theorem dX5_tellTerm_13 : decode cX5_tellTerm 13 = .ok (.aload_n 0, 1) := by decide +kernel
theorem dX5_tellTerm_14 : decode cX5_tellTerm 14 = .ok (.getfield 54, 3) := by decide +kernel
theorem dX5_tellTerm_17 : decode cX5_tellTerm 17 = .ok (.iload_n 1, 1) := by decide +kernel
theorem dX5_tellTerm_18 : decode cX5_tellTerm 18 = .ok (.iload_n 2, 1) := by decide +kernel
theorem dX5_tellTerm_19 : decode cX5_tellTerm 19 = .ok (.iastore, 1) := by decide +kernel
theorem dX5_tellTerm_20 : decode cX5_tellTerm 20 = .ok (.aload_n 0, 1) := by decide +kernel
theorem dX5_tellTerm_21 : decode cX5_tellTerm 21 = .ok (.getfield 7, 3) := by decide +kernel
theorem dX5_tellTerm_24 : decode cX5_tellTerm 24 = .ok (.iload_n 2, 1) := by decide +kernel
theorem dX5_tellTerm_25 : decode cX5_tellTerm 25 = .ok (.baload, 1) := by decide +kernel
theorem dX5_tellTerm_26 : decode cX5_tellTerm 26 = .ok (.ifCond .eq 19, 3) := by decide +kernel
theorem dX5_tellTerm_29 : decode cX5_tellTerm 29 = .ok (.aload_n 0, 1) := by decide +kernel
theorem dX5_tellTerm_30 : decode cX5_tellTerm 30 = .ok (.getfield 41, 3) := by decide +kernel
theorem dX5_tellTerm_33 : decode cX5_tellTerm 33 = .ok (.iload_n 1, 1) := by decide +kernel
theorem dX5_tellTerm_34 : decode cX5_tellTerm 34 = .ok (.iconst 1, 1) := by decide +kernel
theorem dX5_tellTerm_35 : decode cX5_tellTerm 35 = .ok (.iastore, 1) := by decide +kernel
theorem dX5_tellTerm_36 : decode cX5_tellTerm 36 = .ok (.aload_n 0, 1) := by decide +kernel
theorem dX5_tellTerm_37 : decode cX5_tellTerm 37 = .ok (.iload_n 1, 1) := by decide +kernel
theorem dX5_tellTerm_38 : decode cX5_tellTerm 38 = .ok (.iload_n 2, 1) := by decide +kernel
theorem dX5_tellTerm_39 : decode cX5_tellTerm 39 = .ok (.invokevirtual 141, 3) := by decide +kernel
theorem dX5_tellTerm_42 : decode cX5_tellTerm 42 = .ok (.goto 16, 3) := by decide +kernel
theorem dX5_tellTerm_45 : decode cX5_tellTerm 45 = .ok (.aload_n 0, 1) := by decide +kernel
theorem dX5_tellTerm_46 : decode cX5_tellTerm 46 = .ok (.iload_n 1, 1) := by decide +kernel
theorem dX5_tellTerm_47 : decode cX5_tellTerm 47 = .ok (.aload_n 0, 1) := by decide +kernel
theorem dX5_tellTerm_48 : decode cX5_tellTerm 48 = .ok (.iload_n 2, 1) := by decide +kernel
theorem dX5_tellTerm_49 : decode cX5_tellTerm 49 = .ok (.invokevirtual 97, 3) := by decide +kernel
theorem dX5_tellTerm_52 : decode cX5_tellTerm 52 = .ok (.ldc2_w 144, 3) := by decide +kernel
theorem dX5_tellTerm_55 : decode cX5_tellTerm 55 = .ok (.invokevirtual 146, 3) := by decide +kernel
theorem dX5_tellTerm_58 : decode cX5_tellTerm 58 = .ok (.return_, 1) := by decide +kernel
set_option maxRecDepth 20000 in
theorem ggX5_outermost_X5_compare : GoodIn wsX5_outermost wsX5_compare := goodIn_r _ [7, 8, 9, 10, 11, 12, 13, 6, 14, 15, 16, 17, 18, 19, 20, 21, 22, 23, 24, 25, 26, 27, 28, 29, 30, 31, 32, 33, 34, 35, 36, 37, 38, 39, 40, 41, 42, 43, 44, 45] (by decide +kernel) (by decide +kernel)
set_option maxRecDepth 20000 in
theorem gX5_outermost_X5_compare : GoodIn wsX5_outermost (wsV RX5 123 RX5 yX5_compare wsX5_compare) := goodIn_app (goodIn_of _ (by decide +kernel)) ggX5_outermost_X5_compare
theorem dX5_outermost_0 : decode cX5_outermost 0 = .ok (.iconst (-1), 1) := by decide +kernel
theorem dX5_outermost_1 : decode cX5_outermost 1 = .ok (.istore_n 2, 1) := by decide +kernel
theorem dX5_outermost_2 : decode cX5_outermost 2 = .ok (.iconst 0, 1) := by decide +kernel
theorem dX5_outermost_3 : decode cX5_outermost 3 = .ok (.istore_n 3, 1) := by decide +kernel
theorem dX5_outermost_4 : decode cX5_outermost 4 = .ok (.iload_n 3, 1) := by decide +kernel
theorem dX5_outermost_5 : decode cX5_outermost 5 = .ok (.aload_n 0, 1) := by decide +kernel
theorem dX5_outermost_6 : decode cX5_outermost 6 = .ok (.getfield 134, 3) := by decide +kernel
theorem dX5_outermost_9 : decode cX5_outermost 9 = .ok (.if_icmp .ge 41, 3) := by decide +kernel
theorem dX5_outermost_12 : decode cX5_outermost 12 = .ok (.iload_n 2, 1) := by decide +kernel
theorem dX5_outermost_13 : decode cX5_outermost 13 = .ok (.iconst (-1), 1) := by decide +kernel
theorem dX5_outermost_14 : decode cX5_outermost 14 = .ok (.if_icmp .eq 19, 3) := by decide +kernel
theorem dX5_outermost_17 : decode cX5_outermost 17 = .ok (.aload_n 0, 1) := by decide +kernel
theorem dX5_outermost_18 : decode cX5_outermost 18 = .ok (.aload_n 0, 1) := by decide +kernel
theorem dX5_outermost_19 : decode cX5_outermost 19 = .ok (.getfield 69, 3) := by decide +kernel
theorem dX5_outermost_22 : decode cX5_outermost 22 = .ok (.iload_n 3, 1) := by decide +kernel
theorem dX5_outermost_23 : decode cX5_outermost 23 = .ok (.iaload, 1) := by decide +kernel
theorem dX5_outermost_24 : decode cX5_outermost 24 = .ok (.iload_n 2, 1) := by decide +kernel
theorem dX5_outermost_25 : decode cX5_outermost 25 = .ok (.invokevirtual 123, 3) := by decide +kernel
theorem dX5_outermost_28 : decode cX5_outermost 28 = .ok (.iload_n 1, 1) := by decide +kernel
theorem dX5_outermost_29 : decode cX5_outermost 29 = .ok (.imul, 1) := by decide +kernel
theorem dX5_outermost_30 : decode cX5_outermost 30 = .ok (.ifCond .le 12, 3) := by decide +kernel
theorem dX5_outermost_33 : decode cX5_outermost 33 = .ok (.aload_n 0, 1) := by decide +kernel
theorem dX5_outermost_34 : decode cX5_outermost 34 = .ok (.getfield 69, 3) := by decide +kernel
theorem dX5_outermost_37 : decode cX5_outermost 37 = .ok (.iload_n 3, 1) := by decide +kernel
theorem dX5_outermost_38 : decode cX5_outermost 38 = .ok (.iaload, 1) := by decide +kernel
theorem dX5_outermost_39 : decode cX5_outermost 39 = .ok (.goto 4, 3) := by decide +kernel
theorem dX5_outermost_42 : decode cX5_outermost 42 = .ok (.iload_n 2, 1) := by decide +kernel
theorem dX5_outermost_43 : decode cX5_outermost 43 = .ok (.istore_n 2, 1) := by decide +kernel
theorem dX5_outermost_44 : decode cX5_outermost 44 = .ok (.iinc 3 1, 3) := by decide +kernel
theorem dX5_outermost_47 : decode cX5_outermost 47 = .ok (.goto (-43), 3) := by decide +kernel
theorem dX5_outermost_50 : decode cX5_outermost 50 = .ok (.iload_n 2, 1) := by decide +kernel
theorem dX5_outermost_51 : decode cX5_outermost 51 = .ok (.ireturn, 1) := by decide +kernel
set_option maxRecDepth 20000 in
theorem ggX5_sum_X5_thousandths : GoodIn wsX5_sum wsX5_thousandths := goodIn_r _ [7, 8, 9, 10, 11, 12, 13, 14, 15, 16, 17, 18, 19, 20, 21, 22, 23, 24, 25, 26, 27, 28, 29, 30, 31, 32, 33, 34, 35, 36, 37, 38] (by decide +kernel) (by decide +kernel)
set_option maxRecDepth 20000 in
theorem gX5_sum_X5_thousandths : GoodIn wsX5_sum (wsV RX5 97 RX5 yX5_thousandths wsX5_thousandths) := goodIn_app (goodIn_of _ (by decide +kernel)) ggX5_sum_X5_thousandths
theorem dX5_sum_0 : decode cX5_sum 0 = .ok (.lconst 0, 1) := by decide +kernel
theorem dX5_sum_1 : decode cX5_sum 1 = .ok (.lstore_n 2, 1) := by decide +kernel
theorem dX5_sum_2 : decode cX5_sum 2 = .ok (.iconst 0, 1) := by decide +kernel
theorem dX5_sum_3 : decode cX5_sum 3 = .ok (.istore 4, 2) := by decide +kernel
theorem dX5_sum_5 : decode cX5_sum 5 = .ok (.iload 4, 2) := by decide +kernel
theorem dX5_sum_7 : decode cX5_sum 7 = .ok (.aload_n 0, 1) := by decide +kernel
theorem dX5_sum_8 : decode cX5_sum 8 = .ok (.getfield 134, 3) := by decide +kernel
theorem dX5_sum_11 : decode cX5_sum 11 = .ok (.if_icmp .ge 42, 3) := by decide +kernel
theorem dX5_sum_14 : decode cX5_sum 14 = .ok (.aload_n 0, 1) := by decide +kernel
theorem dX5_sum_15 : decode cX5_sum 15 = .ok (.aload_n 0, 1) := by decide +kernel
theorem dX5_sum_16 : decode cX5_sum 16 = .ok (.getfield 69, 3) := by decide +kernel
theorem dX5_sum_19 : decode cX5_sum 19 = .ok (.iload 4, 2) := by decide +kernel
theorem dX5_sum_21 : decode cX5_sum 21 = .ok (.iaload, 1) := by decide +kernel
theorem dX5_sum_22 : decode cX5_sum 22 = .ok (.invokevirtual 97, 3) := by decide +kernel
theorem dX5_sum_25 : decode cX5_sum 25 = .ok (.lstore 5, 2) := by decide +kernel
theorem dX5_sum_27 : decode cX5_sum 27 = .ok (.lload_n 2, 1) := by decide +kernel
theorem dX5_sum_28 : decode cX5_sum 28 = .ok (.iload_n 1, 1) := by decide +kernel
theorem dX5_sum_29 : decode cX5_sum 29 = .ok (.ifCond .eq 14, 3) := by decide +kernel
theorem dX5_sum_32 : decode cX5_sum 32 = .ok (.lload 5, 2) := by decide +kernel
theorem dX5_sum_34 : decode cX5_sum 34 = .ok (.lconst 0, 1) := by decide +kernel
theorem dX5_sum_35 : decode cX5_sum 35 = .ok (.lcmp, 1) := by decide +kernel
theorem dX5_sum_36 : decode cX5_sum 36 = .ok (.ifCond .ge 7, 3) := by decide +kernel
theorem dX5_sum_39 : decode cX5_sum 39 = .ok (.lconst 0, 1) := by decide +kernel
theorem dX5_sum_40 : decode cX5_sum 40 = .ok (.goto 5, 3) := by decide +kernel
theorem dX5_sum_43 : decode cX5_sum 43 = .ok (.lload 5, 2) := by decide +kernel
theorem dX5_sum_45 : decode cX5_sum 45 = .ok (.ladd, 1) := by decide +kernel
theorem dX5_sum_46 : decode cX5_sum 46 = .ok (.lstore_n 2, 1) := by decide +kernel
theorem dX5_sum_47 : decode cX5_sum 47 = .ok (.iinc 4 1, 3) := by decide +kernel
theorem dX5_sum_50 : decode cX5_sum 50 = .ok (.goto (-45), 3) := by decide +kernel
theorem dX5_sum_53 : decode cX5_sum 53 = .ok (.lload_n 2, 1) := by decide +kernel
theorem dX5_sum_54 : decode cX5_sum 54 = .ok (.lreturn, 1) := by decide +kernel
set_option maxRecDepth 20000 in
theorem ggX5_join_X5_say : GoodIn wsX5_join wsX5_say := goodIn_r _ [10, 5, 11, 26, 27, 28, 29, 30, 31, 32, 33, 34, 35, 36, 37, 38, 39, 40, 41, 42, 43, 44, 45, 46, 47, 48, 49, 50, 51, 52, 53] (by decide +kernel) (by decide +kernel)
set_option maxRecDepth 20000 in
theorem gX5_join_X5_say : GoodIn wsX5_join (wsV RX5 137 RX5 yX5_say wsX5_say) := goodIn_app (goodIn_of _ (by decide +kernel)) ggX5_join_X5_say
set_option maxRecDepth 20000 in
theorem ggX5_join_X5_sayTerm : GoodIn wsX5_join wsX5_sayTerm := goodIn_r _ [15, 16, 17, 18, 19, 20, 6, 7, 8, 9, 10, 5, 11, 26, 27, 28, 29, 30, 31, 32, 33, 34, 35, 36, 37, 38, 39, 40, 41, 42, 43, 44, 45, 46, 47, 48, 49, 50, 51, 52, 53] (by decide +kernel) (by decide +kernel)
set_option maxRecDepth 20000 in
theorem gX5_join_X5_sayTerm : GoodIn wsX5_join (wsV RX5 141 RX5 yX5_sayTerm wsX5_sayTerm) := goodIn_app (goodIn_of _ (by decide +kernel)) ggX5_join_X5_sayTerm
set_option maxRecDepth 20000 in
theorem ggX5_join_X5_fail : GoodIn wsX5_join wsX5_fail := goodIn_r _ [24, 4, 25, 26, 27, 28, 29, 30, 31, 32, 33, 34, 35, 36, 37, 38, 39, 40, 41, 42, 43, 44, 45, 46, 47, 48, 49, 50, 51, 52, 53] (by decide +kernel) (by decide +kernel)
set_option maxRecDepth 20000 in
theorem gX5_join_X5_fail : GoodIn wsX5_join (wsV RX5 150 RX5 yX5_fail wsX5_fail) := goodIn_app (goodIn_of _ (by decide +kernel)) ggX5_join_X5_fail
theorem dX5_join_0 : decode cX5_join 0 = .ok (.iconst 0, 1) := by decide +kernel
theorem dX5_join_1 : decode cX5_join 1 = .ok (.istore_n 2, 1) := by decide +kernel
theorem dX5_join_2 : decode cX5_join 2 = .ok (.iload_n 2, 1) := by decide +kernel
theorem dX5_join_3 : decode cX5_join 3 = .ok (.aload_n 0, 1) := by decide +kernel
theorem dX5_join_4 : decode cX5_join 4 = .ok (.getfield 134, 3) := by decide +kernel
theorem dX5_join_7 : decode cX5_join 7 = .ok (.if_icmp .ge 40, 3) := by decide +kernel
theorem dX5_join_10 : decode cX5_join 10 = .ok (.iload_n 2, 1) := by decide +kernel
theorem dX5_join_11 : decode cX5_join 11 = .ok (.ifCond .le 19, 3) := by decide +kernel
theorem dX5_join_14 : decode cX5_join 14 = .ok (.aload_n 0, 1) := by decide +kernel
theorem dX5_join_15 : decode cX5_join 15 = .ok (.getfield 117, 3) := by decide +kernel
theorem dX5_join_18 : decode cX5_join 18 = .ok (.ifCond .eq 12, 3) := by decide +kernel
theorem dX5_join_21 : decode cX5_join 21 = .ok (.aload_n 0, 1) := by decide +kernel
theorem dX5_join_22 : decode cX5_join 22 = .ok (.iload_n 1, 1) := by decide +kernel
theorem dX5_join_23 : decode cX5_join 23 = .ok (.aload_n 0, 1) := by decide +kernel
theorem dX5_join_24 : decode cX5_join 24 = .ok (.getfield 117, 3) := by decide +kernel
theorem dX5_join_27 : decode cX5_join 27 = .ok (.invokevirtual 137, 3) := by decide +kernel
theorem dX5_join_30 : decode cX5_join 30 = .ok (.aload_n 0, 1) := by decide +kernel
theorem dX5_join_31 : decode cX5_join 31 = .ok (.iload_n 1, 1) := by decide +kernel
theorem dX5_join_32 : decode cX5_join 32 = .ok (.aload_n 0, 1) := by decide +kernel
theorem dX5_join_33 : decode cX5_join 33 = .ok (.getfield 69, 3) := by decide +kernel
theorem dX5_join_36 : decode cX5_join 36 = .ok (.iload_n 2, 1) := by decide +kernel
theorem dX5_join_37 : decode cX5_join 37 = .ok (.iaload, 1) := by decide +kernel
theorem dX5_join_38 : decode cX5_join 38 = .ok (.invokevirtual 141, 3) := by decide +kernel
theorem dX5_join_41 : decode cX5_join 41 = .ok (.iinc 2 1, 3) := by decide +kernel
theorem dX5_join_44 : decode cX5_join 44 = .ok (.goto (-42), 3) := by decide +kernel
theorem dX5_join_47 : decode cX5_join 47 = .ok (.aload_n 0, 1) := by decide +kernel
theorem dX5_join_48 : decode cX5_join 48 = .ok (.getfield 41, 3) := by decide +kernel
theorem dX5_join_51 : decode cX5_join 51 = .ok (.iload_n 1, 1) := by decide +kernel
theorem dX5_join_52 : decode cX5_join 52 = .ok (.iconst 1, 1) := by decide +kernel
theorem dX5_join_53 : decode cX5_join 53 = .ok (.iastore, 1) := by decide +kernel
theorem dX5_join_54 : decode cX5_join 54 = .ok (.aload_n 0, 1) := by decide +kernel
theorem dX5_join_55 : decode cX5_join 55 = .ok (.getfield 57, 3) := by decide +kernel
theorem dX5_join_58 : decode cX5_join 58 = .ok (.iload_n 1, 1) := by decide +kernel
theorem dX5_join_59 : decode cX5_join 59 = .ok (.iaload, 1) := by decide +kernel
theorem dX5_join_60 : decode cX5_join 60 = .ok (.bipush 80, 2) := by decide +kernel
theorem dX5_join_62 : decode cX5_join 62 = .ok (.if_icmp .le 16, 3) := by decide +kernel
theorem dX5_join_65 : decode cX5_join 65 = .ok (.aload_n 0, 1) := by decide +kernel
theorem dX5_join_66 : decode cX5_join 66 = .ok (.getfield 57, 3) := by decide +kernel
theorem dX5_join_69 : decode cX5_join 69 = .ok (.iload_n 1, 1) := by decide +kernel
theorem dX5_join_70 : decode cX5_join 70 = .ok (.iconst 0, 1) := by decide +kernel
theorem dX5_join_71 : decode cX5_join 71 = .ok (.iastore, 1) := by decide +kernel
theorem dX5_join_72 : decode cX5_join 72 = .ok (.aload_n 0, 1) := by decide +kernel
theorem dX5_join_73 : decode cX5_join 73 = .ok (.iload_n 1, 1) := by decide +kernel
theorem dX5_join_74 : decode cX5_join 74 = .ok (.iconst 2, 1) := by decide +kernel
theorem dX5_join_75 : decode cX5_join 75 = .ok (.invokevirtual 150, 3) := by decide +kernel
theorem dX5_join_78 : decode cX5_join 78 = .ok (.return_, 1) := by decide +kernel
set_option maxRecDepth 20000 in
theorem ggX5_middle_X5_compare : GoodIn wsX5_middle wsX5_compare := goodIn_r _ [7, 8, 9, 10, 11, 12, 13, 6, 14, 15, 16, 17, 18, 19, 20, 21, 22, 23, 24, 25, 26, 27, 28, 29, 30, 31, 32, 33, 34, 35, 36, 37, 38, 39, 40, 41, 42, 43, 44, 45] (by decide +kernel) (by decide +kernel)
set_option maxRecDepth 20000 in
theorem gX5_middle_X5_compare : GoodIn wsX5_middle (wsV RX5 123 RX5 yX5_compare wsX5_compare) := goodIn_app (goodIn_of _ (by decide +kernel)) ggX5_middle_X5_compare
theorem dX5_middle_0 : decode cX5_middle 0 = .ok (.iconst (-1), 1) := by decide +kernel
theorem dX5_middle_1 : decode cX5_middle 1 = .ok (.istore_n 1, 1) := by decide +kernel
theorem dX5_middle_2 : decode cX5_middle 2 = .ok (.iconst 0, 1) := by decide +kernel
theorem dX5_middle_3 : decode cX5_middle 3 = .ok (.istore_n 2, 1) := by decide +kernel
theorem dX5_middle_4 : decode cX5_middle 4 = .ok (.iload_n 2, 1) := by decide +kernel
theorem dX5_middle_5 : decode cX5_middle 5 = .ok (.aload_n 0, 1) := by decide +kernel
theorem dX5_middle_6 : decode cX5_middle 6 = .ok (.getfield 134, 3) := by decide +kernel
theorem dX5_middle_9 : decode cX5_middle 9 = .ok (.if_icmp .ge 95, 3) := by decide +kernel
theorem dX5_middle_12 : decode cX5_middle 12 = .ok (.iconst 0, 1) := by decide +kernel
theorem dX5_middle_13 : decode cX5_middle 13 = .ok (.istore_n 3, 1) := by decide +kernel
theorem dX5_middle_14 : decode cX5_middle 14 = .ok (.iconst 0, 1) := by decide +kernel
theorem dX5_middle_15 : decode cX5_middle 15 = .ok (.istore 4, 2) := by decide +kernel
theorem dX5_middle_17 : decode cX5_middle 17 = .ok (.iload 4, 2) := by decide +kernel
theorem dX5_middle_19 : decode cX5_middle 19 = .ok (.aload_n 0, 1) := by decide +kernel
theorem dX5_middle_20 : decode cX5_middle 20 = .ok (.getfield 134, 3) := by decide +kernel
theorem dX5_middle_23 : decode cX5_middle 23 = .ok (.if_icmp .ge 52, 3) := by decide +kernel
theorem dX5_middle_26 : decode cX5_middle 26 = .ok (.aload_n 0, 1) := by decide +kernel
theorem dX5_middle_27 : decode cX5_middle 27 = .ok (.aload_n 0, 1) := by decide +kernel
