theorem dX5_middle_28 : decode cX5_middle 28 = .ok (.getfield 69, 3) := by decide +kernel
theorem dX5_middle_31 : decode cX5_middle 31 = .ok (.iload 4, 2) := by decide +kernel
theorem dX5_middle_33 : decode cX5_middle 33 = .ok (.iaload, 1) := by decide +kernel
theorem dX5_middle_34 : decode cX5_middle 34 = .ok (.aload_n 0, 1) := by decide +kernel
theorem dX5_middle_35 : decode cX5_middle 35 = .ok (.getfield 69, 3) := by decide +kernel
theorem dX5_middle_38 : decode cX5_middle 38 = .ok (.iload_n 2, 1) := by decide +kernel
theorem dX5_middle_39 : decode cX5_middle 39 = .ok (.iaload, 1) := by decide +kernel
theorem dX5_middle_40 : decode cX5_middle 40 = .ok (.invokevirtual 123, 3) := by decide +kernel
theorem dX5_middle_43 : decode cX5_middle 43 = .ok (.istore 5, 2) := by decide +kernel
theorem dX5_middle_45 : decode cX5_middle 45 = .ok (.iload_n 3, 1) := by decide +kernel
theorem dX5_middle_46 : decode cX5_middle 46 = .ok (.iload 5, 2) := by decide +kernel
theorem dX5_middle_48 : decode cX5_middle 48 = .ok (.ifCond .lt 14, 3) := by decide +kernel
theorem dX5_middle_51 : decode cX5_middle 51 = .ok (.iload 5, 2) := by decide +kernel
theorem dX5_middle_53 : decode cX5_middle 53 = .ok (.ifCond .ne 13, 3) := by decide +kernel
theorem dX5_middle_56 : decode cX5_middle 56 = .ok (.iload 4, 2) := by decide +kernel
theorem dX5_middle_58 : decode cX5_middle 58 = .ok (.iload_n 2, 1) := by decide +kernel
theorem dX5_middle_59 : decode cX5_middle 59 = .ok (.if_icmp .ge 7, 3) := by decide +kernel
theorem dX5_middle_62 : decode cX5_middle 62 = .ok (.iconst 1, 1) := by decide +kernel
theorem dX5_middle_63 : decode cX5_middle 63 = .ok (.goto 4, 3) := by decide +kernel
theorem dX5_middle_66 : decode cX5_middle 66 = .ok (.iconst 0, 1) := by decide +kernel
theorem dX5_middle_67 : decode cX5_middle 67 = .ok (.iadd, 1) := by decide +kernel
theorem dX5_middle_68 : decode cX5_middle 68 = .ok (.istore_n 3, 1) := by decide +kernel
theorem dX5_middle_69 : decode cX5_middle 69 = .ok (.iinc 4 1, 3) := by decide +kernel
theorem dX5_middle_72 : decode cX5_middle 72 = .ok (.goto (-55), 3) := by decide +kernel
theorem dX5_middle_75 : decode cX5_middle 75 = .ok (.iload_n 3, 1) := by decide +kernel
theorem dX5_middle_76 : decode cX5_middle 76 = .ok (.aload_n 0, 1) := by decide +kernel
theorem dX5_middle_77 : decode cX5_middle 77 = .ok (.getfield 134, 3) := by decide +kernel
theorem dX5_middle_80 : decode cX5_middle 80 = .ok (.iconst 1, 1) := by decide +kernel
theorem dX5_middle_81 : decode cX5_middle 81 = .ok (.isub, 1) := by decide +kernel
theorem dX5_middle_82 : decode cX5_middle 82 = .ok (.iconst 2, 1) := by decide +kernel
theorem dX5_middle_83 : decode cX5_middle 83 = .ok (.idiv, 1) := by decide +kernel
theorem dX5_middle_84 : decode cX5_middle 84 = .ok (.if_icmp .ne 12, 3) := by decide +kernel
theorem dX5_middle_87 : decode cX5_middle 87 = .ok (.aload_n 0, 1) := by decide +kernel
theorem dX5_middle_88 : decode cX5_middle 88 = .ok (.getfield 69, 3) := by decide +kernel
theorem dX5_middle_91 : decode cX5_middle 91 = .ok (.iload_n 2, 1) := by decide +kernel
theorem dX5_middle_92 : decode cX5_middle 92 = .ok (.iaload, 1) := by decide +kernel
theorem dX5_middle_93 : decode cX5_middle 93 = .ok (.goto 4, 3) := by decide +kernel
theorem dX5_middle_96 : decode cX5_middle 96 = .ok (.iload_n 1, 1) := by decide +kernel
theorem dX5_middle_97 : decode cX5_middle 97 = .ok (.istore_n 1, 1) := by decide +kernel
theorem dX5_middle_98 : decode cX5_middle 98 = .ok (.iinc 2 1, 3) := by decide +kernel
theorem dX5_middle_101 : decode cX5_middle 101 = .ok (.goto (-97), 3) := by decide +kernel
theorem dX5_middle_104 : decode cX5_middle 104 = .ok (.iload_n 1, 1) := by decide +kernel
theorem dX5_middle_105 : decode cX5_middle 105 = .ok (.ireturn, 1) := by decide +kernel
set_option maxRecDepth 20000 in
theorem ggX5_tellOwn_X5_outermost : GoodIn wsX5_tellOwn wsX5_outermost := goodIn_r _ [8, 2, 9, 10, 11, 12, 7, 13, 14, 15, 16, 17, 18, 19, 20, 21, 22, 23, 59, 60, 61, 62, 63, 64, 65, 66, 67, 68, 69, 70, 71, 72, 73, 74, 75, 76, 77, 78, 79, 80, 81, 82, 83, 84, 85, 86] (by decide +kernel) (by decide +kernel)
set_option maxRecDepth 20000 in
theorem gX5_tellOwn_X5_outermost : GoodIn wsX5_tellOwn (wsV RX5 153 RX5 yX5_outermost wsX5_outermost) := goodIn_app (goodIn_of _ (by decide +kernel)) ggX5_tellOwn_X5_outermost
set_option maxRecDepth 20000 in
theorem ggX5_tellOwn_X5_thousandths : GoodIn wsX5_tellOwn wsX5_thousandths := goodIn_r _ [20, 21, 22, 23, 59, 60, 61, 62, 63, 64, 65, 66, 67, 68, 69, 70, 71, 72, 73, 74, 75, 76, 77, 78, 79, 80, 81, 82, 83, 84, 85, 86] (by decide +kernel) (by decide +kernel)
set_option maxRecDepth 20000 in
theorem gX5_tellOwn_X5_thousandths : GoodIn wsX5_tellOwn (wsV RX5 97 RX5 yX5_thousandths wsX5_thousandths) := goodIn_app (goodIn_of _ (by decide +kernel)) ggX5_tellOwn_X5_thousandths
set_option maxRecDepth 20000 in
theorem ggX5_tellOwn_X5_tellNumber : GoodIn wsX5_tellOwn wsX5_tellNumber := goodIn_r _ [27, 28, 29, 30, 59, 60, 61, 62, 63, 64, 65, 66, 67, 68, 69, 70, 71, 72, 73, 74, 75, 76, 77, 78, 79, 80, 81, 82, 83, 84, 85, 86] (by decide +kernel) (by decide +kernel)
set_option maxRecDepth 20000 in
theorem gX5_tellOwn_X5_tellNumber : GoodIn wsX5_tellOwn (wsV RX5 146 RX5 yX5_tellNumber wsX5_tellNumber) := goodIn_app (goodIn_of _ (by decide +kernel)) ggX5_tellOwn_X5_tellNumber
set_option maxRecDepth 20000 in
theorem ggX5_tellOwn_X5_middle : GoodIn wsX5_tellOwn wsX5_middle := goodIn_r _ [34, 2, 9, 10, 11, 12, 7, 13, 14, 15, 16, 17, 18, 19, 20, 21, 22, 23, 59, 60, 61, 62, 63, 64, 65, 66, 67, 68, 69, 70, 71, 72, 73, 74, 75, 76, 77, 78, 79, 80, 81, 82, 83, 84, 85, 86] (by decide +kernel) (by decide +kernel)
set_option maxRecDepth 20000 in
theorem gX5_tellOwn_X5_middle : GoodIn wsX5_tellOwn (wsV RX5 157 RX5 yX5_middle wsX5_middle) := goodIn_app (goodIn_of _ (by decide +kernel)) ggX5_tellOwn_X5_middle
set_option maxRecDepth 20000 in
theorem ggX5_tellOwn_X5_tellTerm : GoodIn wsX5_tellOwn wsX5_tellTerm := goodIn_r _ [38, 28, 39, 14, 3, 40, 41, 42, 7, 43, 15, 16, 21, 22, 44, 45, 46, 47, 48, 49, 17, 18, 19, 20, 23, 24, 25, 26, 27, 29, 30, 59, 60, 61, 62, 63, 64, 65, 66, 67, 68, 69, 70, 71, 72, 73, 74, 75, 76, 77, 78, 79, 80, 81, 82, 83, 84, 85, 86] (by decide +kernel) (by decide +kernel)
set_option maxRecDepth 20000 in
theorem gX5_tellOwn_X5_tellTerm : GoodIn wsX5_tellOwn (wsV RX5 161 RX5 yX5_tellTerm wsX5_tellTerm) := goodIn_app (goodIn_of _ (by decide +kernel)) ggX5_tellOwn_X5_tellTerm
set_option maxRecDepth 20000 in
theorem ggX5_tellOwn_X5_fail : GoodIn wsX5_tellOwn wsX5_fail := goodIn_r _ [53, 28, 54, 59, 60, 61, 62, 63, 64, 65, 66, 67, 68, 69, 70, 71, 72, 73, 74, 75, 76, 77, 78, 79, 80, 81, 82, 83, 84, 85, 86] (by decide +kernel) (by decide +kernel)
set_option maxRecDepth 20000 in
theorem gX5_tellOwn_X5_fail : GoodIn wsX5_tellOwn (wsV RX5 150 RX5 yX5_fail wsX5_fail) := goodIn_app (goodIn_of _ (by decide +kernel)) ggX5_tellOwn_X5_fail
set_option maxRecDepth 20000 in
theorem ggX5_tellOwn_X5_sum : GoodIn wsX5_tellOwn wsX5_sum := goodIn_r _ [58, 2, 9, 17, 18, 19, 7, 20, 21, 22, 23, 59, 60, 61, 62, 63, 64, 65, 66, 67, 68, 69, 70, 71, 72, 73, 74, 75, 76, 77, 78, 79, 80, 81, 82, 83, 84, 85, 86] (by decide +kernel) (by decide +kernel)
set_option maxRecDepth 20000 in
theorem gX5_tellOwn_X5_sum : GoodIn wsX5_tellOwn (wsV RX5 164 RX5 yX5_sum wsX5_sum) := goodIn_app (goodIn_of _ (by decide +kernel)) ggX5_tellOwn_X5_sum
theorem dX5_tellOwn_0 : decode cX5_tellOwn 0 = .ok (.aload_n 0, 1) := by decide +kernel
theorem dX5_tellOwn_1 : decode cX5_tellOwn 1 = .ok (.getfield 120, 3) := by decide +kernel
theorem dX5_tellOwn_4 : decode cX5_tellOwn 4 = .ok (.ifCond .ne 44, 3) := by decide +kernel
theorem dX5_tellOwn_7 : decode cX5_tellOwn 7 = .ok (.aload_n 0, 1) := by decide +kernel
theorem dX5_tellOwn_8 : decode cX5_tellOwn 8 = .ok (.iload_n 1, 1) := by decide +kernel
theorem dX5_tellOwn_9 : decode cX5_tellOwn 9 = .ok (.aload_n 0, 1) := by decide +kernel
theorem dX5_tellOwn_10 : decode cX5_tellOwn 10 = .ok (.getfield 134, 3) := by decide +kernel
theorem dX5_tellOwn_13 : decode cX5_tellOwn 13 = .ok (.ifCond .ne 7, 3) := by decide +kernel
theorem dX5_tellOwn_16 : decode cX5_tellOwn 16 = .ok (.lconst 0, 1) := by decide +kernel
theorem dX5_tellOwn_17 : decode cX5_tellOwn 17 = .ok (.goto 22, 3) := by decide +kernel
theorem dX5_tellOwn_20 : decode cX5_tellOwn 20 = .ok (.aload_n 0, 1) := by decide +kernel
theorem dX5_tellOwn_21 : decode cX5_tellOwn 21 = .ok (.aload_n 0, 1) := by decide +kernel
theorem dX5_tellOwn_22 : decode cX5_tellOwn 22 = .ok (.iconst 1, 1) := by decide +kernel
theorem dX5_tellOwn_23 : decode cX5_tellOwn 23 = .ok (.invokevirtual 153, 3) := by decide +kernel
theorem dX5_tellOwn_26 : decode cX5_tellOwn 26 = .ok (.invokevirtual 97, 3) := by decide +kernel
theorem dX5_tellOwn_29 : decode cX5_tellOwn 29 = .ok (.aload_n 0, 1) := by decide +kernel
theorem dX5_tellOwn_30 : decode cX5_tellOwn 30 = .ok (.aload_n 0, 1) := by decide +kernel
theorem dX5_tellOwn_31 : decode cX5_tellOwn 31 = .ok (.iconst (-1), 1) := by decide +kernel
theorem dX5_tellOwn_32 : decode cX5_tellOwn 32 = .ok (.invokevirtual 153, 3) := by decide +kernel
theorem dX5_tellOwn_35 : decode cX5_tellOwn 35 = .ok (.invokevirtual 97, 3) := by decide +kernel
theorem dX5_tellOwn_38 : decode cX5_tellOwn 38 = .ok (.lsub, 1) := by decide +kernel
theorem dX5_tellOwn_39 : decode cX5_tellOwn 39 = .ok (.ldc2_w 144, 3) := by decide +kernel
theorem dX5_tellOwn_42 : decode cX5_tellOwn 42 = .ok (.invokevirtual 146, 3) := by decide +kernel
theorem dX5_tellOwn_45 : decode cX5_tellOwn 45 = .ok (.goto 58, 3) := by decide +kernel
theorem dX5_tellOwn_48 : decode cX5_tellOwn 48 = .ok (.aload_n 0, 1) := by decide +kernel
theorem dX5_tellOwn_49 : decode cX5_tellOwn 49 = .ok (.getfield 120, 3) := by decide +kernel
theorem dX5_tellOwn_52 : decode cX5_tellOwn 52 = .ok (.iconst 1, 1) := by decide +kernel
theorem dX5_tellOwn_53 : decode cX5_tellOwn 53 = .ok (.if_icmp .ne 15, 3) := by decide +kernel
theorem dX5_tellOwn_56 : decode cX5_tellOwn 56 = .ok (.aload_n 0, 1) := by decide +kernel
theorem dX5_tellOwn_57 : decode cX5_tellOwn 57 = .ok (.iload_n 1, 1) := by decide +kernel
theorem dX5_tellOwn_58 : decode cX5_tellOwn 58 = .ok (.aload_n 0, 1) := by decide +kernel
theorem dX5_tellOwn_59 : decode cX5_tellOwn 59 = .ok (.invokevirtual 157, 3) := by decide +kernel
theorem dX5_tellOwn_62 : decode cX5_tellOwn 62 = .ok (.invokevirtual 161, 3) := by decide +kernel
theorem dX5_tellOwn_65 : decode cX5_tellOwn 65 = .ok (.goto 38, 3) := by decide +kernel
theorem dX5_tellOwn_68 : decode cX5_tellOwn 68 = .ok (.aload_n 0, 1) := by decide +kernel
theorem dX5_tellOwn_69 : decode cX5_tellOwn 69 = .ok (.getfield 134, 3) := by decide +kernel
theorem dX5_tellOwn_72 : decode cX5_tellOwn 72 = .ok (.ifCond .ne 12, 3) := by decide +kernel
theorem dX5_tellOwn_75 : decode cX5_tellOwn 75 = .ok (.aload_n 0, 1) := by decide +kernel
theorem dX5_tellOwn_76 : decode cX5_tellOwn 76 = .ok (.iload_n 1, 1) := by decide +kernel
theorem dX5_tellOwn_77 : decode cX5_tellOwn 77 = .ok (.iconst 3, 1) := by decide +kernel
theorem dX5_tellOwn_78 : decode cX5_tellOwn 78 = .ok (.invokevirtual 150, 3) := by decide +kernel
theorem dX5_tellOwn_81 : decode cX5_tellOwn 81 = .ok (.goto 22, 3) := by decide +kernel
theorem dX5_tellOwn_84 : decode cX5_tellOwn 84 = .ok (.aload_n 0, 1) := by decide +kernel
theorem dX5_tellOwn_85 : decode cX5_tellOwn 85 = .ok (.iload_n 1, 1) := by decide +kernel
theorem dX5_tellOwn_86 : decode cX5_tellOwn 86 = .ok (.aload_n 0, 1) := by decide +kernel
theorem dX5_tellOwn_87 : decode cX5_tellOwn 87 = .ok (.iconst 1, 1) := by decide +kernel
theorem dX5_tellOwn_88 : decode cX5_tellOwn 88 = .ok (.invokevirtual 164, 3) := by decide +kernel
theorem dX5_tellOwn_91 : decode cX5_tellOwn 91 = .ok (.ldc2_w 144, 3) := by decide +kernel
theorem dX5_tellOwn_94 : decode cX5_tellOwn 94 = .ok (.aload_n 0, 1) := by decide +kernel
theorem dX5_tellOwn_95 : decode cX5_tellOwn 95 = .ok (.getfield 134, 3) := by decide +kernel
theorem dX5_tellOwn_98 : decode cX5_tellOwn 98 = .ok (.i2l, 1) := by decide +kernel
theorem dX5_tellOwn_99 : decode cX5_tellOwn 99 = .ok (.lmul, 1) := by decide +kernel
theorem dX5_tellOwn_100 : decode cX5_tellOwn 100 = .ok (.invokevirtual 146, 3) := by decide +kernel
theorem dX5_tellOwn_103 : decode cX5_tellOwn 103 = .ok (.return_, 1) := by decide +kernel
set_option maxRecDepth 20000 in
theorem ggX5_tell_X5_hasText : GoodIn wsX5_tell wsX5_hasText := goodIn_r _ [13, 6, 14, 8, 72, 73, 74, 75, 76, 77, 78, 79, 80, 81, 82, 83, 84, 85, 86, 87, 88, 89, 90, 91, 92, 93, 94, 95, 96, 97, 98, 99] (by decide +kernel) (by decide +kernel)
set_option maxRecDepth 20000 in
theorem gX5_tell_X5_hasText : GoodIn wsX5_tell (wsV RX5 168 RX5 yX5_hasText wsX5_hasText) := goodIn_app (goodIn_of _ (by decide +kernel)) ggX5_tell_X5_hasText
set_option maxRecDepth 20000 in
theorem ggX5_tell_X5_fail : GoodIn wsX5_tell wsX5_fail := goodIn_r _ [18, 19, 1, 72, 73, 74, 75, 76, 77, 78, 79, 80, 81, 82, 83, 84, 85, 86, 87, 88, 89, 90, 91, 92, 93, 94, 95, 96, 97, 98, 99] (by decide +kernel) (by decide +kernel)
set_option maxRecDepth 20000 in
theorem gX5_tell_X5_fail : GoodIn wsX5_tell (wsV RX5 150 RX5 yX5_fail wsX5_fail) := goodIn_app (goodIn_of _ (by decide +kernel)) ggX5_tell_X5_fail
set_option maxRecDepth 20000 in
theorem ggX5_tell_X5_tellNumber : GoodIn wsX5_tell wsX5_tellNumber := goodIn_r _ [23, 19, 2, 3, 72, 73, 74, 75, 76, 77, 78, 79, 80, 81, 82, 83, 84, 85, 86, 87, 88, 89, 90, 91, 92, 93, 94, 95, 96, 97, 98, 99] (by decide +kernel) (by decide +kernel)
set_option maxRecDepth 20000 in
theorem gX5_tell_X5_tellNumber : GoodIn wsX5_tell (wsV RX5 146 RX5 yX5_tellNumber wsX5_tellNumber) := goodIn_app (goodIn_of _ (by decide +kernel)) ggX5_tell_X5_tellNumber
set_option maxRecDepth 20000 in
theorem ggX5_tell_X5_sum : GoodIn wsX5_tell wsX5_sum := goodIn_r _ [27, 6, 8, 28, 29, 30, 12, 31, 32, 33, 34, 72, 73, 74, 75, 76, 77, 78, 79, 80, 81, 82, 83, 84, 85, 86, 87, 88, 89, 90, 91, 92, 93, 94, 95, 96, 97, 98, 99] (by decide +kernel) (by decide +kernel)
set_option maxRecDepth 20000 in
theorem gX5_tell_X5_sum : GoodIn wsX5_tell (wsV RX5 164 RX5 yX5_sum wsX5_sum) := goodIn_app (goodIn_of _ (by decide +kernel)) ggX5_tell_X5_sum
set_option maxRecDepth 20000 in
theorem ggX5_tell_X5_outermost : GoodIn wsX5_tell wsX5_outermost := goodIn_r _ [38, 6, 8, 39, 40, 41, 12, 42, 14, 43, 44, 28, 29, 30, 31, 32, 33, 34, 72, 73, 74, 75, 76, 77, 78, 79, 80, 81, 82, 83, 84, 85, 86, 87, 88, 89, 90, 91, 92, 93, 94, 95, 96, 97, 98, 99] (by decide +kernel) (by decide +kernel)
set_option maxRecDepth 20000 in
theorem gX5_tell_X5_outermost : GoodIn wsX5_tell (wsV RX5 153 RX5 yX5_outermost wsX5_outermost) := goodIn_app (goodIn_of _ (by decide +kernel)) ggX5_tell_X5_outermost
set_option maxRecDepth 20000 in
theorem ggX5_tell_X5_tellTerm : GoodIn wsX5_tell wsX5_tellTerm := goodIn_r _ [48, 19, 4, 14, 7, 49, 50, 51, 12, 52, 43, 44, 32, 33, 53, 54, 55, 56, 5, 57, 28, 29, 30, 31, 34, 20, 21, 22, 23, 2, 3, 72, 73, 74, 75, 76, 77, 78, 79, 80, 81, 82, 83, 84, 85, 86, 87, 88, 89, 90, 91, 92, 93, 94, 95, 96, 97, 98, 99] (by decide +kernel) (by decide +kernel)
set_option maxRecDepth 20000 in
theorem gX5_tell_X5_tellTerm : GoodIn wsX5_tell (wsV RX5 161 RX5 yX5_tellTerm wsX5_tellTerm) := goodIn_app (goodIn_of _ (by decide +kernel)) ggX5_tell_X5_tellTerm
set_option maxRecDepth 20000 in
theorem ggX5_tell_X5_join : GoodIn wsX5_tell wsX5_join := goodIn_r _ [61, 6, 62, 8, 19, 5, 53, 54, 55, 12, 56, 57, 49, 50, 51, 52, 14, 43, 44, 32, 33, 15, 16, 17, 18, 1, 72, 73, 74, 75, 76, 77, 78, 79, 80, 81, 82, 83, 84, 85, 86, 87, 88, 89, 90, 91, 92, 93, 94, 95, 96, 97, 98, 99] (by decide +kernel) (by decide +kernel)
set_option maxRecDepth 20000 in
theorem gX5_tell_X5_join : GoodIn wsX5_tell (wsV RX5 172 RX5 yX5_join wsX5_join) := goodIn_app (goodIn_of _ (by decide +kernel)) ggX5_tell_X5_join
set_option maxRecDepth 20000 in
theorem ggX5_tell_X5_tellOwn : GoodIn wsX5_tell wsX5_tellOwn := goodIn_r _ [66, 67, 6, 7, 35, 36, 37, 12, 38, 8, 39, 40, 41, 42, 14, 43, 44, 28, 29, 30, 31, 32, 33, 34, 20, 21, 22, 23, 19, 2, 3, 68, 69, 70, 71, 45, 46, 47, 48, 4, 49, 50, 51, 52, 53, 54, 55, 56, 5, 57, 15, 16, 17, 18, 1, 24, 25, 26, 27, 72, 73, 74, 75, 76, 77, 78, 79, 80, 81, 82, 83, 84, 85, 86, 87, 88, 89, 90, 91, 92, 93, 94, 95, 96, 97, 98, 99] (by decide +kernel) (by decide +kernel)
set_option maxRecDepth 20000 in
theorem gX5_tell_X5_tellOwn : GoodIn wsX5_tell (wsV RX5 176 RX5 yX5_tellOwn wsX5_tellOwn) := goodIn_app (goodIn_of _ (by decide +kernel)) ggX5_tell_X5_tellOwn
theorem dX5_tell_0 : decode cX5_tell 0 = .ok (.aload_n 0, 1) := by decide +kernel
theorem dX5_tell_1 : decode cX5_tell 1 = .ok (.getfield 44, 3) := by decide +kernel
theorem dX5_tell_4 : decode cX5_tell 4 = .ok (.iload_n 1, 1) := by decide +kernel
theorem dX5_tell_5 : decode cX5_tell 5 = .ok (.iconst 0, 1) := by decide +kernel
theorem dX5_tell_6 : decode cX5_tell 6 = .ok (.iastore, 1) := by decide +kernel
theorem dX5_tell_7 : decode cX5_tell 7 = .ok (.aload_n 0, 1) := by decide +kernel
theorem dX5_tell_8 : decode cX5_tell 8 = .ok (.getfield 47, 3) := by decide +kernel
theorem dX5_tell_11 : decode cX5_tell 11 = .ok (.iload_n 1, 1) := by decide +kernel
theorem dX5_tell_12 : decode cX5_tell 12 = .ok (.lconst 0, 1) := by decide +kernel
theorem dX5_tell_13 : decode cX5_tell 13 = .ok (.lastore, 1) := by decide +kernel
theorem dX5_tell_14 : decode cX5_tell 14 = .ok (.aload_n 0, 1) := by decide +kernel
theorem dX5_tell_15 : decode cX5_tell 15 = .ok (.getfield 51, 3) := by decide +kernel
theorem dX5_tell_18 : decode cX5_tell 18 = .ok (.iload_n 1, 1) := by decide +kernel
theorem dX5_tell_19 : decode cX5_tell 19 = .ok (.lconst 1, 1) := by decide +kernel
theorem dX5_tell_20 : decode cX5_tell 20 = .ok (.lastore, 1) := by decide +kernel
theorem dX5_tell_21 : decode cX5_tell 21 = .ok (.aload_n 0, 1) := by decide +kernel
theorem dX5_tell_22 : decode cX5_tell 22 = .ok (.getfield 54, 3) := by decide +kernel
theorem dX5_tell_25 : decode cX5_tell 25 = .ok (.iload_n 1, 1) := by decide +kernel
theorem dX5_tell_26 : decode cX5_tell 26 = .ok (.iconst (-1), 1) := by decide +kernel
theorem dX5_tell_27 : decode cX5_tell 27 = .ok (.iastore, 1) := by decide +kernel
theorem dX5_tell_28 : decode cX5_tell 28 = .ok (.aload_n 0, 1) := by decide +kernel
theorem dX5_tell_29 : decode cX5_tell 29 = .ok (.getfield 57, 3) := by decide +kernel
theorem dX5_tell_32 : decode cX5_tell 32 = .ok (.iload_n 1, 1) := by decide +kernel
theorem dX5_tell_33 : decode cX5_tell 33 = .ok (.iconst 0, 1) := by decide +kernel
theorem dX5_tell_34 : decode cX5_tell 34 = .ok (.iastore, 1) := by decide +kernel
theorem dX5_tell_35 : decode cX5_tell 35 = .ok (.iload_n 2, 1) := by decide +kernel
theorem dX5_tell_36 : decode cX5_tell 36 = .ok (.iconst 1, 1) := by decide +kernel
theorem dX5_tell_37 : decode cX5_tell 37 = .ok (.if_icmp .eq 14, 3) := by decide +kernel
theorem dX5_tell_40 : decode cX5_tell 40 = .ok (.iload_n 2, 1) := by decide +kernel
theorem dX5_tell_41 : decode cX5_tell 41 = .ok (.iconst 2, 1) := by decide +kernel
theorem dX5_tell_42 : decode cX5_tell 42 = .ok (.if_icmp .eq 9, 3) := by decide +kernel
theorem dX5_tell_45 : decode cX5_tell 45 = .ok (.iload_n 2, 1) := by decide +kernel
theorem dX5_tell_46 : decode cX5_tell 46 = .ok (.bipush 7, 2) := by decide +kernel
theorem dX5_tell_48 : decode cX5_tell 48 = .ok (.if_icmp .ne 17, 3) := by decide +kernel
theorem dX5_tell_51 : decode cX5_tell 51 = .ok (.aload_n 0, 1) := by decide +kernel
theorem dX5_tell_52 : decode cX5_tell 52 = .ok (.invokevirtual 168, 3) := by decide +kernel
theorem dX5_tell_55 : decode cX5_tell 55 = .ok (.ifCond .eq 10, 3) := by decide +kernel
theorem dX5_tell_58 : decode cX5_tell 58 = .ok (.aload_n 0, 1) := by decide +kernel
theorem dX5_tell_59 : decode cX5_tell 59 = .ok (.iload_n 1, 1) := by decide +kernel
theorem dX5_tell_60 : decode cX5_tell 60 = .ok (.iconst 1, 1) := by decide +kernel
theorem dX5_tell_61 : decode cX5_tell 61 = .ok (.invokevirtual 150, 3) := by decide +kernel
theorem dX5_tell_64 : decode cX5_tell 64 = .ok (.return_, 1) := by decide +kernel
theorem dX5_tell_65 : decode cX5_tell 65 = .ok (.iload_n 2, 1) := by decide +kernel
theorem dX5_tell_66 : decode cX5_tell 66 = .ok (.tableswitch 164 0 6 #[42, 56, 72, 105, 118, 131, 156], 42) := by decide +kernel
theorem dX5_tell_108 : decode cX5_tell 108 = .ok (.aload_n 0, 1) := by decide +kernel
theorem dX5_tell_109 : decode cX5_tell 109 = .ok (.iload_n 1, 1) := by decide +kernel
theorem dX5_tell_110 : decode cX5_tell 110 = .ok (.aload_n 0, 1) := by decide +kernel
theorem dX5_tell_111 : decode cX5_tell 111 = .ok (.getfield 134, 3) := by decide +kernel
theorem dX5_tell_114 : decode cX5_tell 114 = .ok (.i2l, 1) := by decide +kernel
theorem dX5_tell_115 : decode cX5_tell 115 = .ok (.lconst 1, 1) := by decide +kernel
theorem dX5_tell_116 : decode cX5_tell 116 = .ok (.invokevirtual 146, 3) := by decide +kernel
theorem dX5_tell_119 : decode cX5_tell 119 = .ok (.goto 116, 3) := by decide +kernel
theorem dX5_tell_122 : decode cX5_tell 122 = .ok (.aload_n 0, 1) := by decide +kernel
theorem dX5_tell_123 : decode cX5_tell 123 = .ok (.iload_n 1, 1) := by decide +kernel
theorem dX5_tell_124 : decode cX5_tell 124 = .ok (.aload_n 0, 1) := by decide +kernel
theorem dX5_tell_125 : decode cX5_tell 125 = .ok (.iconst 0, 1) := by decide +kernel
theorem dX5_tell_126 : decode cX5_tell 126 = .ok (.invokevirtual 164, 3) := by decide +kernel
theorem dX5_tell_129 : decode cX5_tell 129 = .ok (.ldc2_w 144, 3) := by decide +kernel
theorem dX5_tell_132 : decode cX5_tell 132 = .ok (.invokevirtual 146, 3) := by decide +kernel
theorem dX5_tell_135 : decode cX5_tell 135 = .ok (.goto 100, 3) := by decide +kernel
theorem dX5_tell_138 : decode cX5_tell 138 = .ok (.aload_n 0, 1) := by decide +kernel
theorem dX5_tell_139 : decode cX5_tell 139 = .ok (.iload_n 1, 1) := by decide +kernel
theorem dX5_tell_140 : decode cX5_tell 140 = .ok (.aload_n 0, 1) := by decide +kernel
theorem dX5_tell_141 : decode cX5_tell 141 = .ok (.iconst 0, 1) := by decide +kernel
theorem dX5_tell_142 : decode cX5_tell 142 = .ok (.invokevirtual 164, 3) := by decide +kernel
theorem dX5_tell_145 : decode cX5_tell 145 = .ok (.aload_n 0, 1) := by decide +kernel
theorem dX5_tell_146 : decode cX5_tell 146 = .ok (.getfield 134, 3) := by decide +kernel
theorem dX5_tell_149 : decode cX5_tell 149 = .ok (.ifCond .ne 7, 3) := by decide +kernel
theorem dX5_tell_152 : decode cX5_tell 152 = .ok (.lconst 1, 1) := by decide +kernel
theorem dX5_tell_153 : decode cX5_tell 153 = .ok (.goto 12, 3) := by decide +kernel
theorem dX5_tell_156 : decode cX5_tell 156 = .ok (.ldc2_w 144, 3) := by decide +kernel
theorem dX5_tell_159 : decode cX5_tell 159 = .ok (.aload_n 0, 1) := by decide +kernel
theorem dX5_tell_160 : decode cX5_tell 160 = .ok (.getfield 134, 3) := by decide +kernel
theorem dX5_tell_163 : decode cX5_tell 163 = .ok (.i2l, 1) := by decide +kernel
theorem dX5_tell_164 : decode cX5_tell 164 = .ok (.lmul, 1) := by decide +kernel
theorem dX5_tell_165 : decode cX5_tell 165 = .ok (.invokevirtual 146, 3) := by decide +kernel
theorem dX5_tell_168 : decode cX5_tell 168 = .ok (.goto 67, 3) := by decide +kernel
theorem dX5_tell_171 : decode cX5_tell 171 = .ok (.aload_n 0, 1) := by decide +kernel
theorem dX5_tell_172 : decode cX5_tell 172 = .ok (.iload_n 1, 1) := by decide +kernel
theorem dX5_tell_173 : decode cX5_tell 173 = .ok (.aload_n 0, 1) := by decide +kernel
theorem dX5_tell_174 : decode cX5_tell 174 = .ok (.iconst (-1), 1) := by decide +kernel
theorem dX5_tell_175 : decode cX5_tell 175 = .ok (.invokevirtual 153, 3) := by decide +kernel
theorem dX5_tell_178 : decode cX5_tell 178 = .ok (.invokevirtual 161, 3) := by decide +kernel
theorem dX5_tell_181 : decode cX5_tell 181 = .ok (.goto 54, 3) := by decide +kernel
theorem dX5_tell_184 : decode cX5_tell 184 = .ok (.aload_n 0, 1) := by decide +kernel
theorem dX5_tell_185 : decode cX5_tell 185 = .ok (.iload_n 1, 1) := by decide +kernel
theorem dX5_tell_186 : decode cX5_tell 186 = .ok (.aload_n 0, 1) := by decide +kernel
theorem dX5_tell_187 : decode cX5_tell 187 = .ok (.iconst 1, 1) := by decide +kernel
theorem dX5_tell_188 : decode cX5_tell 188 = .ok (.invokevirtual 153, 3) := by decide +kernel
theorem dX5_tell_191 : decode cX5_tell 191 = .ok (.invokevirtual 161, 3) := by decide +kernel
theorem dX5_tell_194 : decode cX5_tell 194 = .ok (.goto 41, 3) := by decide +kernel
theorem dX5_tell_197 : decode cX5_tell 197 = .ok (.aload_n 0, 1) := by decide +kernel
theorem dX5_tell_198 : decode cX5_tell 198 = .ok (.iload_n 1, 1) := by decide +kernel
theorem dX5_tell_199 : decode cX5_tell 199 = .ok (.aload_n 0, 1) := by decide +kernel
theorem dX5_tell_200 : decode cX5_tell 200 = .ok (.getfield 134, 3) := by decide +kernel
theorem dX5_tell_203 : decode cX5_tell 203 = .ok (.ifCond .ne 7, 3) := by decide +kernel
theorem dX5_tell_206 : decode cX5_tell 206 = .ok (.iconst (-1), 1) := by decide +kernel
theorem dX5_tell_207 : decode cX5_tell 207 = .ok (.goto 9, 3) := by decide +kernel
theorem dX5_tell_210 : decode cX5_tell 210 = .ok (.aload_n 0, 1) := by decide +kernel
theorem dX5_tell_211 : decode cX5_tell 211 = .ok (.getfield 69, 3) := by decide +kernel
theorem dX5_tell_214 : decode cX5_tell 214 = .ok (.iconst 0, 1) := by decide +kernel
theorem dX5_tell_215 : decode cX5_tell 215 = .ok (.iaload, 1) := by decide +kernel
theorem dX5_tell_216 : decode cX5_tell 216 = .ok (.invokevirtual 161, 3) := by decide +kernel
theorem dX5_tell_219 : decode cX5_tell 219 = .ok (.goto 16, 3) := by decide +kernel
theorem dX5_tell_222 : decode cX5_tell 222 = .ok (.aload_n 0, 1) := by decide +kernel
theorem dX5_tell_223 : decode cX5_tell 223 = .ok (.iload_n 1, 1) := by decide +kernel
theorem dX5_tell_224 : decode cX5_tell 224 = .ok (.invokevirtual 172, 3) := by decide +kernel
theorem dX5_tell_227 : decode cX5_tell 227 = .ok (.goto 8, 3) := by decide +kernel
theorem dX5_tell_230 : decode cX5_tell 230 = .ok (.aload_n 0, 1) := by decide +kernel
theorem dX5_tell_231 : decode cX5_tell 231 = .ok (.iload_n 1, 1) := by decide +kernel
theorem dX5_tell_232 : decode cX5_tell 232 = .ok (.invokevirtual 176, 3) := by decide +kernel
theorem dX5_tell_235 : decode cX5_tell 235 = .ok (.return_, 1) := by decide +kernel
set_option maxRecDepth 20000 in
theorem ggX5_run_X5_within : GoodIn wsX5_run wsX5_within := goodIn_r _ [7] (by decide +kernel) (by decide +kernel)
set_option maxRecDepth 20000 in
theorem gX5_run_X5_within : GoodIn wsX5_run (va_wsS RX5 80 yX5_within wsX5_within) := goodIn_app (goodIn_of _ (by decide +kernel)) ggX5_run_X5_within
set_option maxRecDepth 20000 in
theorem ggX5_run_X5_lineUp : GoodIn wsX5_run wsX5_lineUp := goodIn_r _ [11, 12, 13, 14, 107, 108, 109, 110, 111, 112, 113, 114, 115, 116, 117, 118, 119, 120, 121, 122, 123, 124, 125, 126, 127, 128, 129, 130, 131, 132, 133, 134] (by decide +kernel) (by decide +kernel)
set_option maxRecDepth 20000 in
theorem gX5_run_X5_lineUp : GoodIn wsX5_run (wsV RX5 181 RX5 yX5_lineUp wsX5_lineUp) := goodIn_app (goodIn_of _ (by decide +kernel)) ggX5_run_X5_lineUp
set_option maxRecDepth 20000 in
theorem ggX5_run_X5_findGroups : GoodIn wsX5_run wsX5_findGroups := goodIn_r _ [18, 19, 3, 20, 21, 12, 14, 22, 23, 24, 25, 26, 6, 27, 28, 29, 30, 31, 32, 33, 34, 35, 36, 37, 38, 39, 40, 41, 107, 108, 109, 110, 111, 112, 113, 114, 115, 116, 117, 118, 119, 120, 121, 122, 123, 124, 125, 126, 127, 128, 129, 130, 131, 132, 133, 134] (by decide +kernel) (by decide +kernel)
set_option maxRecDepth 20000 in
theorem gX5_run_X5_findGroups : GoodIn wsX5_run (wsV RX5 184 RX5 yX5_findGroups wsX5_findGroups) := goodIn_app (goodIn_of _ (by decide +kernel)) ggX5_run_X5_findGroups
set_option maxRecDepth 20000 in
theorem ggX5_run_X5_gather : GoodIn wsX5_run wsX5_gather := goodIn_r _ [45, 46, 12, 47, 14, 23, 48, 28, 29, 30, 6, 31, 32, 33, 34, 35, 36, 37, 38, 39, 40, 41, 107, 108, 109, 110, 111, 112, 113, 114, 115, 116, 117, 118, 119, 120, 121, 122, 123, 124, 125, 126, 127, 128, 129, 130, 131, 132, 133, 134] (by decide +kernel) (by decide +kernel)
set_option maxRecDepth 20000 in
theorem gX5_run_X5_gather : GoodIn wsX5_run (wsV RX5 187 RX5 yX5_gather wsX5_gather) := goodIn_app (goodIn_of _ (by decide +kernel)) ggX5_run_X5_gather
set_option maxRecDepth 20000 in
theorem ggX5_run_X5_tell : GoodIn wsX5_run wsX5_tell := goodIn_r _ [52, 53, 54, 55, 56, 57, 46, 58, 48, 59, 60, 61, 6, 62, 32, 63, 64, 65, 66, 67, 68, 69, 70, 71, 72, 73, 74, 75, 35, 36, 37, 38, 39, 40, 41, 76, 77, 78, 79, 28, 29, 30, 31, 33, 34, 80, 81, 82, 83, 84, 85, 86, 87, 88, 89, 90, 91, 92, 93, 94, 95, 96, 97, 98, 99, 100, 101, 102, 103, 104, 105, 106, 107, 108, 109, 110, 111, 112, 113, 114, 115, 116, 117, 118, 119, 120, 121, 122, 123, 124, 125, 126, 127, 128, 129, 130, 131, 132, 133, 134] (by decide +kernel) (by decide +kernel)
set_option maxRecDepth 20000 in
theorem gX5_run_X5_tell : GoodIn wsX5_run (wsV RX5 191 RX5 yX5_tell wsX5_tell) := goodIn_app (goodIn_of _ (by decide +kernel)) ggX5_run_X5_tell
theorem dX5_run_0 : decode cX5_run 0 = .ok (.aload_n 0, 1) := by decide +kernel
theorem dX5_run_1 : decode cX5_run 1 = .ok (.iload_n 1, 1) := by decide +kernel
theorem dX5_run_2 : decode cX5_run 2 = .ok (.i2l, 1) := by decide +kernel
theorem dX5_run_3 : decode cX5_run 3 = .ok (.lconst 0, 1) := by decide +kernel
theorem dX5_run_4 : decode cX5_run 4 = .ok (.ldc2_w 179, 3) := by decide +kernel
theorem dX5_run_7 : decode cX5_run 7 = .ok (.invokestatic 80, 3) := by decide +kernel
theorem dX5_run_10 : decode cX5_run 10 = .ok (.ifCond .eq 7, 3) := by decide +kernel
theorem dX5_run_13 : decode cX5_run 13 = .ok (.iconst 0, 1) := by decide +kernel
theorem dX5_run_14 : decode cX5_run 14 = .ok (.goto 4, 3) := by decide +kernel
theorem dX5_run_17 : decode cX5_run 17 = .ok (.iconst 1, 1) := by decide +kernel
theorem dX5_run_18 : decode cX5_run 18 = .ok (.putfield 72, 3) := by decide +kernel
theorem dX5_run_21 : decode cX5_run 21 = .ok (.aload_n 0, 1) := by decide +kernel
theorem dX5_run_22 : decode cX5_run 22 = .ok (.getfield 72, 3) := by decide +kernel
theorem dX5_run_25 : decode cX5_run 25 = .ok (.ifCond .le 5, 3) := by decide +kernel
theorem dX5_run_28 : decode cX5_run 28 = .ok (.iconst 0, 1) := by decide +kernel
theorem dX5_run_29 : decode cX5_run 29 = .ok (.ireturn, 1) := by decide +kernel
theorem dX5_run_30 : decode cX5_run 30 = .ok (.aload_n 0, 1) := by decide +kernel
theorem dX5_run_31 : decode cX5_run 31 = .ok (.invokevirtual 181, 3) := by decide +kernel
theorem dX5_run_34 : decode cX5_run 34 = .ok (.aload_n 0, 1) := by decide +kernel
theorem dX5_run_35 : decode cX5_run 35 = .ok (.invokevirtual 184, 3) := by decide +kernel
theorem dX5_run_38 : decode cX5_run 38 = .ok (.iconst 0, 1) := by decide +kernel
theorem dX5_run_39 : decode cX5_run 39 = .ok (.istore_n 3, 1) := by decide +kernel
theorem dX5_run_40 : decode cX5_run 40 = .ok (.iload_n 3, 1) := by decide +kernel
theorem dX5_run_41 : decode cX5_run 41 = .ok (.aload_n 0, 1) := by decide +kernel
theorem dX5_run_42 : decode cX5_run 42 = .ok (.getfield 127, 3) := by decide +kernel
theorem dX5_run_45 : decode cX5_run 45 = .ok (.if_icmp .ge 21, 3) := by decide +kernel
theorem dX5_run_48 : decode cX5_run 48 = .ok (.aload_n 0, 1) := by decide +kernel
theorem dX5_run_49 : decode cX5_run 49 = .ok (.iload_n 3, 1) := by decide +kernel
theorem dX5_run_50 : decode cX5_run 50 = .ok (.iload_n 2, 1) := by decide +kernel
theorem dX5_run_51 : decode cX5_run 51 = .ok (.invokevirtual 187, 3) := by decide +kernel
theorem dX5_run_54 : decode cX5_run 54 = .ok (.aload_n 0, 1) := by decide +kernel
theorem dX5_run_55 : decode cX5_run 55 = .ok (.iload_n 3, 1) := by decide +kernel
theorem dX5_run_56 : decode cX5_run 56 = .ok (.iload_n 1, 1) := by decide +kernel
theorem dX5_run_57 : decode cX5_run 57 = .ok (.invokevirtual 191, 3) := by decide +kernel
theorem dX5_run_60 : decode cX5_run 60 = .ok (.iinc 3 1, 3) := by decide +kernel
theorem dX5_run_63 : decode cX5_run 63 = .ok (.goto (-23), 3) := by decide +kernel
theorem dX5_run_66 : decode cX5_run 66 = .ok (.aload_n 0, 1) := by decide +kernel
theorem dX5_run_67 : decode cX5_run 67 = .ok (.getfield 127, 3) := by decide +kernel
theorem dX5_run_70 : decode cX5_run 70 = .ok (.ireturn, 1) := by decide +kernel
theorem dX5_isGroup_0 : decode cX5_isGroup 0 = .ok (.aload_n 0, 1) := by decide +kernel
theorem dX5_isGroup_1 : decode cX5_isGroup 1 = .ok (.iload_n 1, 1) := by decide +kernel
theorem dX5_isGroup_2 : decode cX5_isGroup 2 = .ok (.ifCond .lt 15, 3) := by decide +kernel
theorem dX5_isGroup_5 : decode cX5_isGroup 5 = .ok (.iload_n 1, 1) := by decide +kernel
theorem dX5_isGroup_6 : decode cX5_isGroup 6 = .ok (.aload_n 0, 1) := by decide +kernel
theorem dX5_isGroup_7 : decode cX5_isGroup 7 = .ok (.getfield 127, 3) := by decide +kernel
theorem dX5_isGroup_10 : decode cX5_isGroup 10 = .ok (.if_icmp .ge 7, 3) := by decide +kernel
theorem dX5_isGroup_13 : decode cX5_isGroup 13 = .ok (.iconst 0, 1) := by decide +kernel
theorem dX5_isGroup_14 : decode cX5_isGroup 14 = .ok (.goto 4, 3) := by decide +kernel
theorem dX5_isGroup_17 : decode cX5_isGroup 17 = .ok (.iconst 1, 1) := by decide +kernel
theorem dX5_isGroup_18 : decode cX5_isGroup 18 = .ok (.putfield 72, 3) := by decide +kernel
theorem dX5_isGroup_21 : decode cX5_isGroup 21 = .ok (.aload_n 0, 1) := by decide +kernel
theorem dX5_isGroup_22 : decode cX5_isGroup 22 = .ok (.getfield 72, 3) := by decide +kernel
theorem dX5_isGroup_25 : decode cX5_isGroup 25 = .ok (.ifCond .ne 7, 3) := by decide +kernel
theorem dX5_isGroup_28 : decode cX5_isGroup 28 = .ok (.iconst 1, 1) := by decide +kernel
theorem dX5_isGroup_29 : decode cX5_isGroup 29 = .ok (.goto 4, 3) := by decide +kernel
theorem dX5_isGroup_32 : decode cX5_isGroup 32 = .ok (.iconst 0, 1) := by decide +kernel
theorem dX5_isGroup_33 : decode cX5_isGroup 33 = .ok (.ireturn, 1) := by decide +kernel
set_option maxRecDepth 20000 in
theorem ggX5_key_X5_isGroup : GoodIn wsX5_key wsX5_isGroup := goodIn_r _ [6, 7, 8, 9, 10, 11, 12, 13, 14, 15, 16, 17, 18, 19, 20, 21, 22, 23, 24, 25, 26, 27, 28, 29, 30, 31, 32, 33, 34, 35, 36] (by decide +kernel) (by decide +kernel)
set_option maxRecDepth 20000 in
theorem gX5_key_X5_isGroup : GoodIn wsX5_key (wsV RX5 194 RX5 yX5_isGroup wsX5_isGroup) := goodIn_app (goodIn_of _ (by decide +kernel)) ggX5_key_X5_isGroup
theorem dX5_key_0 : decode cX5_key 0 = .ok (.aload_n 0, 1) := by decide +kernel
theorem dX5_key_1 : decode cX5_key 1 = .ok (.iload_n 1, 1) := by decide +kernel
theorem dX5_key_2 : decode cX5_key 2 = .ok (.invokevirtual 194, 3) := by decide +kernel
theorem dX5_key_5 : decode cX5_key 5 = .ok (.ifCond .eq 12, 3) := by decide +kernel
theorem dX5_key_8 : decode cX5_key 8 = .ok (.aload_n 0, 1) := by decide +kernel
theorem dX5_key_9 : decode cX5_key 9 = .ok (.getfield 35, 3) := by decide +kernel
theorem dX5_key_12 : decode cX5_key 12 = .ok (.iload_n 1, 1) := by decide +kernel
theorem dX5_key_13 : decode cX5_key 13 = .ok (.iaload, 1) := by decide +kernel
theorem dX5_key_14 : decode cX5_key 14 = .ok (.goto 4, 3) := by decide +kernel
theorem dX5_key_17 : decode cX5_key 17 = .ok (.iconst 0, 1) := by decide +kernel
theorem dX5_key_18 : decode cX5_key 18 = .ok (.ireturn, 1) := by decide +kernel
set_option maxRecDepth 20000 in
theorem ggX5_rows_X5_isGroup : GoodIn wsX5_rows wsX5_isGroup := goodIn_r _ [6, 7, 8, 9, 10, 11, 12, 13, 14, 15, 16, 17, 18, 19, 20, 21, 22, 23, 24, 25, 26, 27, 28, 29, 30, 31, 32, 33, 34, 35, 36] (by decide +kernel) (by decide +kernel)
set_option maxRecDepth 20000 in
theorem gX5_rows_X5_isGroup : GoodIn wsX5_rows (wsV RX5 194 RX5 yX5_isGroup wsX5_isGroup) := goodIn_app (goodIn_of _ (by decide +kernel)) ggX5_rows_X5_isGroup
theorem dX5_rows_0 : decode cX5_rows 0 = .ok (.aload_n 0, 1) := by decide +kernel
theorem dX5_rows_1 : decode cX5_rows 1 = .ok (.iload_n 1, 1) := by decide +kernel
theorem dX5_rows_2 : decode cX5_rows 2 = .ok (.invokevirtual 194, 3) := by decide +kernel
theorem dX5_rows_5 : decode cX5_rows 5 = .ok (.ifCond .eq 12, 3) := by decide +kernel
theorem dX5_rows_8 : decode cX5_rows 8 = .ok (.aload_n 0, 1) := by decide +kernel
theorem dX5_rows_9 : decode cX5_rows 9 = .ok (.getfield 38, 3) := by decide +kernel
theorem dX5_rows_12 : decode cX5_rows 12 = .ok (.iload_n 1, 1) := by decide +kernel
theorem dX5_rows_13 : decode cX5_rows 13 = .ok (.iaload, 1) := by decide +kernel
theorem dX5_rows_14 : decode cX5_rows 14 = .ok (.goto 4, 3) := by decide +kernel
theorem dX5_rows_17 : decode cX5_rows 17 = .ok (.iconst 0, 1) := by decide +kernel
theorem dX5_rows_18 : decode cX5_rows 18 = .ok (.ireturn, 1) := by decide +kernel
set_option maxRecDepth 20000 in
theorem ggX5_sort_X5_isGroup : GoodIn wsX5_sort wsX5_isGroup := goodIn_r _ [6, 7, 8, 9, 10, 11, 12, 13, 14, 15, 16, 17, 18, 19, 20, 21, 22, 23, 24, 25, 26, 27, 28, 29, 30, 31, 32, 33, 34, 35, 36] (by decide +kernel) (by decide +kernel)
set_option maxRecDepth 20000 in
theorem gX5_sort_X5_isGroup : GoodIn wsX5_sort (wsV RX5 194 RX5 yX5_isGroup wsX5_isGroup) := goodIn_app (goodIn_of _ (by decide +kernel)) ggX5_sort_X5_isGroup
theorem dX5_sort_0 : decode cX5_sort 0 = .ok (.aload_n 0, 1) := by decide +kernel
theorem dX5_sort_1 : decode cX5_sort 1 = .ok (.iload_n 1, 1) := by decide +kernel
theorem dX5_sort_2 : decode cX5_sort 2 = .ok (.invokevirtual 194, 3) := by decide +kernel
theorem dX5_sort_5 : decode cX5_sort 5 = .ok (.ifCond .eq 12, 3) := by decide +kernel
theorem dX5_sort_8 : decode cX5_sort 8 = .ok (.aload_n 0, 1) := by decide +kernel
theorem dX5_sort_9 : decode cX5_sort 9 = .ok (.getfield 41, 3) := by decide +kernel
theorem dX5_sort_12 : decode cX5_sort 12 = .ok (.iload_n 1, 1) := by decide +kernel
theorem dX5_sort_13 : decode cX5_sort 13 = .ok (.iaload, 1) := by decide +kernel
theorem dX5_sort_14 : decode cX5_sort 14 = .ok (.goto 4, 3) := by decide +kernel
theorem dX5_sort_17 : decode cX5_sort 17 = .ok (.iconst 0, 1) := by decide +kernel
theorem dX5_sort_18 : decode cX5_sort 18 = .ok (.ireturn, 1) := by decide +kernel
set_option maxRecDepth 20000 in
theorem ggX5_why_X5_isGroup : GoodIn wsX5_why wsX5_isGroup := goodIn_r _ [6, 7, 8, 9, 10, 11, 12, 13, 14, 15, 16, 17, 18, 19, 20, 21, 22, 23, 24, 25, 26, 27, 28, 29, 30, 31, 32, 33, 34, 35, 36] (by decide +kernel) (by decide +kernel)
set_option maxRecDepth 20000 in
theorem gX5_why_X5_isGroup : GoodIn wsX5_why (wsV RX5 194 RX5 yX5_isGroup wsX5_isGroup) := goodIn_app (goodIn_of _ (by decide +kernel)) ggX5_why_X5_isGroup
theorem dX5_why_0 : decode cX5_why 0 = .ok (.aload_n 0, 1) := by decide +kernel
theorem dX5_why_1 : decode cX5_why 1 = .ok (.iload_n 1, 1) := by decide +kernel
theorem dX5_why_2 : decode cX5_why 2 = .ok (.invokevirtual 194, 3) := by decide +kernel
theorem dX5_why_5 : decode cX5_why 5 = .ok (.ifCond .eq 12, 3) := by decide +kernel
theorem dX5_why_8 : decode cX5_why 8 = .ok (.aload_n 0, 1) := by decide +kernel
theorem dX5_why_9 : decode cX5_why 9 = .ok (.getfield 44, 3) := by decide +kernel
theorem dX5_why_12 : decode cX5_why 12 = .ok (.iload_n 1, 1) := by decide +kernel
theorem dX5_why_13 : decode cX5_why 13 = .ok (.iaload, 1) := by decide +kernel
theorem dX5_why_14 : decode cX5_why 14 = .ok (.goto 4, 3) := by decide +kernel
theorem dX5_why_17 : decode cX5_why 17 = .ok (.iconst 0, 1) := by decide +kernel
theorem dX5_why_18 : decode cX5_why 18 = .ok (.ireturn, 1) := by decide +kernel
set_option maxRecDepth 20000 in
theorem ggX5_value_X5_isGroup : GoodIn wsX5_value wsX5_isGroup := goodIn_r _ [8, 9, 1, 13, 14, 15, 16, 17, 18, 19, 20, 21, 22, 23, 24, 25, 26, 27, 28, 29, 30, 31, 32, 33, 34, 35, 36, 37, 38, 39, 40] (by decide +kernel) (by decide +kernel)
set_option maxRecDepth 20000 in
theorem gX5_value_X5_isGroup : GoodIn wsX5_value (wsV RX5 194 RX5 yX5_isGroup wsX5_isGroup) := goodIn_app (goodIn_of _ (by decide +kernel)) ggX5_value_X5_isGroup
set_option maxRecDepth 20000 in
theorem ggX5_value_X5_within : GoodIn wsX5_value wsX5_within := goodIn_r _ [12] (by decide +kernel) (by decide +kernel)
set_option maxRecDepth 20000 in
theorem gX5_value_X5_within : GoodIn wsX5_value (va_wsS RX5 80 yX5_within wsX5_within) := goodIn_app (goodIn_of _ (by decide +kernel)) ggX5_value_X5_within
theorem dX5_value_0 : decode cX5_value 0 = .ok (.aload_n 0, 1) := by decide +kernel
theorem dX5_value_1 : decode cX5_value 1 = .ok (.iload_n 1, 1) := by decide +kernel
theorem dX5_value_2 : decode cX5_value 2 = .ok (.invokevirtual 194, 3) := by decide +kernel
theorem dX5_value_5 : decode cX5_value 5 = .ok (.ifCond .ne 5, 3) := by decide +kernel
theorem dX5_value_8 : decode cX5_value 8 = .ok (.lconst 0, 1) := by decide +kernel
theorem dX5_value_9 : decode cX5_value 9 = .ok (.lreturn, 1) := by decide +kernel
theorem dX5_value_10 : decode cX5_value 10 = .ok (.aload_n 0, 1) := by decide +kernel
theorem dX5_value_11 : decode cX5_value 11 = .ok (.iload_n 2, 1) := by decide +kernel
theorem dX5_value_12 : decode cX5_value 12 = .ok (.i2l, 1) := by decide +kernel
theorem dX5_value_13 : decode cX5_value 13 = .ok (.lconst 0, 1) := by decide +kernel
theorem dX5_value_14 : decode cX5_value 14 = .ok (.lconst 1, 1) := by decide +kernel
theorem dX5_value_15 : decode cX5_value 15 = .ok (.invokestatic 80, 3) := by decide +kernel
theorem dX5_value_18 : decode cX5_value 18 = .ok (.ifCond .eq 7, 3) := by decide +kernel
theorem dX5_value_21 : decode cX5_value 21 = .ok (.iconst 0, 1) := by decide +kernel
theorem dX5_value_22 : decode cX5_value 22 = .ok (.goto 4, 3) := by decide +kernel
theorem dX5_value_25 : decode cX5_value 25 = .ok (.iconst 2, 1) := by decide +kernel
theorem dX5_value_26 : decode cX5_value 26 = .ok (.putfield 72, 3) := by decide +kernel
theorem dX5_value_29 : decode cX5_value 29 = .ok (.aload_n 0, 1) := by decide +kernel
theorem dX5_value_30 : decode cX5_value 30 = .ok (.getfield 72, 3) := by decide +kernel
theorem dX5_value_33 : decode cX5_value 33 = .ok (.ifCond .le 7, 3) := by decide +kernel
theorem dX5_value_36 : decode cX5_value 36 = .ok (.lconst 0, 1) := by decide +kernel
theorem dX5_value_37 : decode cX5_value 37 = .ok (.goto 22, 3) := by decide +kernel
theorem dX5_value_40 : decode cX5_value 40 = .ok (.iload_n 2, 1) := by decide +kernel
theorem dX5_value_41 : decode cX5_value 41 = .ok (.ifCond .ne 12, 3) := by decide +kernel
theorem dX5_value_44 : decode cX5_value 44 = .ok (.aload_n 0, 1) := by decide +kernel
theorem dX5_value_45 : decode cX5_value 45 = .ok (.getfield 47, 3) := by decide +kernel
theorem dX5_value_48 : decode cX5_value 48 = .ok (.iload_n 1, 1) := by decide +kernel
theorem dX5_value_49 : decode cX5_value 49 = .ok (.laload, 1) := by decide +kernel
theorem dX5_value_50 : decode cX5_value 50 = .ok (.goto 9, 3) := by decide +kernel
theorem dX5_value_53 : decode cX5_value 53 = .ok (.aload_n 0, 1) := by decide +kernel
theorem dX5_value_54 : decode cX5_value 54 = .ok (.getfield 51, 3) := by decide +kernel
theorem dX5_value_57 : decode cX5_value 57 = .ok (.iload_n 1, 1) := by decide +kernel
theorem dX5_value_58 : decode cX5_value 58 = .ok (.laload, 1) := by decide +kernel
theorem dX5_value_59 : decode cX5_value 59 = .ok (.lreturn, 1) := by decide +kernel
set_option maxRecDepth 20000 in
theorem ggX5_term_X5_isGroup : GoodIn wsX5_term wsX5_isGroup := goodIn_r _ [6, 7, 8, 9, 10, 11, 12, 13, 14, 15, 16, 17, 18, 19, 20, 21, 22, 23, 24, 25, 26, 27, 28, 29, 30, 31, 32, 33, 34, 35, 36] (by decide +kernel) (by decide +kernel)
set_option maxRecDepth 20000 in
theorem gX5_term_X5_isGroup : GoodIn wsX5_term (wsV RX5 194 RX5 yX5_isGroup wsX5_isGroup) := goodIn_app (goodIn_of _ (by decide +kernel)) ggX5_term_X5_isGroup
theorem dX5_term_0 : decode cX5_term 0 = .ok (.aload_n 0, 1) := by decide +kernel
theorem dX5_term_1 : decode cX5_term 1 = .ok (.iload_n 1, 1) := by decide +kernel
theorem dX5_term_2 : decode cX5_term 2 = .ok (.invokevirtual 194, 3) := by decide +kernel
theorem dX5_term_5 : decode cX5_term 5 = .ok (.ifCond .eq 12, 3) := by decide +kernel
theorem dX5_term_8 : decode cX5_term 8 = .ok (.aload_n 0, 1) := by decide +kernel
theorem dX5_term_9 : decode cX5_term 9 = .ok (.getfield 54, 3) := by decide +kernel
theorem dX5_term_12 : decode cX5_term 12 = .ok (.iload_n 1, 1) := by decide +kernel
theorem dX5_term_13 : decode cX5_term 13 = .ok (.iaload, 1) := by decide +kernel
theorem dX5_term_14 : decode cX5_term 14 = .ok (.goto 4, 3) := by decide +kernel
theorem dX5_term_17 : decode cX5_term 17 = .ok (.iconst 0, 1) := by decide +kernel
theorem dX5_term_18 : decode cX5_term 18 = .ok (.ireturn, 1) := by decide +kernel
set_option maxRecDepth 20000 in
theorem ggX5_length_X5_isGroup : GoodIn wsX5_length wsX5_isGroup := goodIn_r _ [6, 7, 8, 9, 10, 11, 12, 13, 14, 15, 16, 17, 18, 19, 20, 21, 22, 23, 24, 25, 26, 27, 28, 29, 30, 31, 32, 33, 34, 35, 36] (by decide +kernel) (by decide +kernel)
set_option maxRecDepth 20000 in
theorem gX5_length_X5_isGroup : GoodIn wsX5_length (wsV RX5 194 RX5 yX5_isGroup wsX5_isGroup) := goodIn_app (goodIn_of _ (by decide +kernel)) ggX5_length_X5_isGroup
theorem dX5_length_0 : decode cX5_length 0 = .ok (.aload_n 0, 1) := by decide +kernel
theorem dX5_length_1 : decode cX5_length 1 = .ok (.iload_n 1, 1) := by decide +kernel
theorem dX5_length_2 : decode cX5_length 2 = .ok (.invokevirtual 194, 3) := by decide +kernel
theorem dX5_length_5 : decode cX5_length 5 = .ok (.ifCond .eq 12, 3) := by decide +kernel
theorem dX5_length_8 : decode cX5_length 8 = .ok (.aload_n 0, 1) := by decide +kernel
theorem dX5_length_9 : decode cX5_length 9 = .ok (.getfield 57, 3) := by decide +kernel
theorem dX5_length_12 : decode cX5_length 12 = .ok (.iload_n 1, 1) := by decide +kernel
theorem dX5_length_13 : decode cX5_length 13 = .ok (.iaload, 1) := by decide +kernel
theorem dX5_length_14 : decode cX5_length 14 = .ok (.goto 4, 3) := by decide +kernel
theorem dX5_length_17 : decode cX5_length 17 = .ok (.iconst 0, 1) := by decide +kernel
theorem dX5_length_18 : decode cX5_length 18 = .ok (.ireturn, 1) := by decide +kernel
set_option maxRecDepth 20000 in
theorem ggX5_charAt_X5_isGroup : GoodIn wsX5_charAt wsX5_isGroup := goodIn_r _ [8, 9, 2, 10, 11, 12, 13, 14, 15, 16, 17, 18, 19, 20, 21, 22, 23, 24, 25, 26, 27, 28, 29, 30, 31, 32, 33, 34, 35, 36, 37] (by decide +kernel) (by decide +kernel)
set_option maxRecDepth 20000 in
theorem gX5_charAt_X5_isGroup : GoodIn wsX5_charAt (wsV RX5 194 RX5 yX5_isGroup wsX5_isGroup) := goodIn_app (goodIn_of _ (by decide +kernel)) ggX5_charAt_X5_isGroup
theorem dX5_charAt_0 : decode cX5_charAt 0 = .ok (.aload_n 0, 1) := by decide +kernel
theorem dX5_charAt_1 : decode cX5_charAt 1 = .ok (.iload_n 1, 1) := by decide +kernel
theorem dX5_charAt_2 : decode cX5_charAt 2 = .ok (.invokevirtual 194, 3) := by decide +kernel
theorem dX5_charAt_5 : decode cX5_charAt 5 = .ok (.ifCond .ne 5, 3) := by decide +kernel
theorem dX5_charAt_8 : decode cX5_charAt 8 = .ok (.iconst 0, 1) := by decide +kernel
theorem dX5_charAt_9 : decode cX5_charAt 9 = .ok (.ireturn, 1) := by decide +kernel
theorem dX5_charAt_10 : decode cX5_charAt 10 = .ok (.aload_n 0, 1) := by decide +kernel
theorem dX5_charAt_11 : decode cX5_charAt 11 = .ok (.iload_n 2, 1) := by decide +kernel
theorem dX5_charAt_12 : decode cX5_charAt 12 = .ok (.ifCond .lt 17, 3) := by decide +kernel
theorem dX5_charAt_15 : decode cX5_charAt 15 = .ok (.iload_n 2, 1) := by decide +kernel
theorem dX5_charAt_16 : decode cX5_charAt 16 = .ok (.aload_n 0, 1) := by decide +kernel
theorem dX5_charAt_17 : decode cX5_charAt 17 = .ok (.getfield 57, 3) := by decide +kernel
theorem dX5_charAt_20 : decode cX5_charAt 20 = .ok (.iload_n 1, 1) := by decide +kernel
theorem dX5_charAt_21 : decode cX5_charAt 21 = .ok (.iaload, 1) := by decide +kernel
theorem dX5_charAt_22 : decode cX5_charAt 22 = .ok (.if_icmp .ge 7, 3) := by decide +kernel
theorem dX5_charAt_25 : decode cX5_charAt 25 = .ok (.iconst 0, 1) := by decide +kernel
theorem dX5_charAt_26 : decode cX5_charAt 26 = .ok (.goto 4, 3) := by decide +kernel
theorem dX5_charAt_29 : decode cX5_charAt 29 = .ok (.iconst 1, 1) := by decide +kernel
theorem dX5_charAt_30 : decode cX5_charAt 30 = .ok (.putfield 72, 3) := by decide +kernel
theorem dX5_charAt_33 : decode cX5_charAt 33 = .ok (.aload_n 0, 1) := by decide +kernel
theorem dX5_charAt_34 : decode cX5_charAt 34 = .ok (.getfield 72, 3) := by decide +kernel
theorem dX5_charAt_37 : decode cX5_charAt 37 = .ok (.ifCond .le 7, 3) := by decide +kernel
theorem dX5_charAt_40 : decode cX5_charAt 40 = .ok (.iconst 0, 1) := by decide +kernel
theorem dX5_charAt_41 : decode cX5_charAt 41 = .ok (.goto 14, 3) := by decide +kernel
theorem dX5_charAt_44 : decode cX5_charAt 44 = .ok (.aload_n 0, 1) := by decide +kernel
theorem dX5_charAt_45 : decode cX5_charAt 45 = .ok (.getfield 60, 3) := by decide +kernel
theorem dX5_charAt_48 : decode cX5_charAt 48 = .ok (.bipush 80, 2) := by decide +kernel
theorem dX5_charAt_50 : decode cX5_charAt 50 = .ok (.iload_n 1, 1) := by decide +kernel
theorem dX5_charAt_51 : decode cX5_charAt 51 = .ok (.imul, 1) := by decide +kernel
theorem dX5_charAt_52 : decode cX5_charAt 52 = .ok (.iload_n 2, 1) := by decide +kernel
theorem dX5_charAt_53 : decode cX5_charAt 53 = .ok (.iadd, 1) := by decide +kernel
theorem dX5_charAt_54 : decode cX5_charAt 54 = .ok (.iaload, 1) := by decide +kernel
theorem dX5_charAt_55 : decode cX5_charAt 55 = .ok (.ireturn, 1) := by decide +kernel
set_option maxRecDepth 20000 in
theorem ggX5_having_X5_isGroup : GoodIn wsX5_having wsX5_isGroup := goodIn_r _ [13, 14, 5, 18, 19, 20, 21, 22, 23, 24, 25, 26, 27, 28, 29, 30, 31, 32, 33, 34, 35, 36, 37, 38, 39, 40, 41, 42, 43, 44, 45] (by decide +kernel) (by decide +kernel)
set_option maxRecDepth 20000 in
theorem gX5_having_X5_isGroup : GoodIn wsX5_having (wsV RX5 194 RX5 yX5_isGroup wsX5_isGroup) := goodIn_app (goodIn_of _ (by decide +kernel)) ggX5_having_X5_isGroup
set_option maxRecDepth 20000 in
theorem ggX5_having_X5_within : GoodIn wsX5_having wsX5_within := goodIn_r _ [17] (by decide +kernel) (by decide +kernel)
set_option maxRecDepth 20000 in
theorem gX5_having_X5_within : GoodIn wsX5_having (va_wsS RX5 80 yX5_within wsX5_within) := goodIn_app (goodIn_of _ (by decide +kernel)) ggX5_having_X5_within
theorem dX5_having_0 : decode cX5_having 0 = .ok (.aload_n 0, 1) := by decide +kernel
theorem dX5_having_1 : decode cX5_having 1 = .ok (.iload_n 1, 1) := by decide +kernel
theorem dX5_having_2 : decode cX5_having 2 = .ok (.invokevirtual 194, 3) := by decide +kernel
theorem dX5_having_5 : decode cX5_having 5 = .ok (.ifCond .ne 5, 3) := by decide +kernel
theorem dX5_having_8 : decode cX5_having 8 = .ok (.iconst 0, 1) := by decide +kernel
theorem dX5_having_9 : decode cX5_having 9 = .ok (.ireturn, 1) := by decide +kernel
theorem dX5_having_10 : decode cX5_having 10 = .ok (.aload_n 0, 1) := by decide +kernel
theorem dX5_having_11 : decode cX5_having 11 = .ok (.iload_n 2, 1) := by decide +kernel
theorem dX5_having_12 : decode cX5_having 12 = .ok (.i2l, 1) := by decide +kernel
theorem dX5_having_13 : decode cX5_having 13 = .ok (.lconst 0, 1) := by decide +kernel
theorem dX5_having_14 : decode cX5_having 14 = .ok (.ldc2_w 101, 3) := by decide +kernel
theorem dX5_having_17 : decode cX5_having 17 = .ok (.invokestatic 80, 3) := by decide +kernel
theorem dX5_having_20 : decode cX5_having 20 = .ok (.ifCond .eq 32, 3) := by decide +kernel
theorem dX5_having_23 : decode cX5_having 23 = .ok (.lload_n 3, 1) := by decide +kernel
theorem dX5_having_24 : decode cX5_having 24 = .ok (.ldc2_w 197, 3) := by decide +kernel
theorem dX5_having_27 : decode cX5_having 27 = .ok (.ldc2_w 199, 3) := by decide +kernel
theorem dX5_having_30 : decode cX5_having 30 = .ok (.invokestatic 80, 3) := by decide +kernel
theorem dX5_having_33 : decode cX5_having 33 = .ok (.ifCond .eq 19, 3) := by decide +kernel
theorem dX5_having_36 : decode cX5_having 36 = .ok (.lload 5, 2) := by decide +kernel
theorem dX5_having_38 : decode cX5_having 38 = .ok (.lconst 1, 1) := by decide +kernel
theorem dX5_having_39 : decode cX5_having 39 = .ok (.ldc2_w 78, 3) := by decide +kernel
theorem dX5_having_42 : decode cX5_having 42 = .ok (.invokestatic 80, 3) := by decide +kernel
theorem dX5_having_45 : decode cX5_having 45 = .ok (.ifCond .eq 7, 3) := by decide +kernel
theorem dX5_having_48 : decode cX5_having 48 = .ok (.iconst 0, 1) := by decide +kernel
theorem dX5_having_49 : decode cX5_having 49 = .ok (.goto 4, 3) := by decide +kernel
theorem dX5_having_52 : decode cX5_having 52 = .ok (.iconst 2, 1) := by decide +kernel
theorem dX5_having_53 : decode cX5_having 53 = .ok (.putfield 72, 3) := by decide +kernel
theorem dX5_having_56 : decode cX5_having 56 = .ok (.aload_n 0, 1) := by decide +kernel
theorem dX5_having_57 : decode cX5_having 57 = .ok (.getfield 72, 3) := by decide +kernel
theorem dX5_having_60 : decode cX5_having 60 = .ok (.ifCond .gt 12, 3) := by decide +kernel
theorem dX5_having_63 : decode cX5_having 63 = .ok (.aload_n 0, 1) := by decide +kernel
theorem dX5_having_64 : decode cX5_having 64 = .ok (.getfield 41, 3) := by decide +kernel
theorem dX5_having_67 : decode cX5_having 67 = .ok (.iload_n 1, 1) := by decide +kernel
theorem dX5_having_68 : decode cX5_having 68 = .ok (.iaload, 1) := by decide +kernel
theorem dX5_having_69 : decode cX5_having 69 = .ok (.ifCond .eq 5, 3) := by decide +kernel
theorem dX5_having_72 : decode cX5_having 72 = .ok (.iconst 0, 1) := by decide +kernel
theorem dX5_having_73 : decode cX5_having 73 = .ok (.ireturn, 1) := by decide +kernel
theorem dX5_having_74 : decode cX5_having 74 = .ok (.aload_n 0, 1) := by decide +kernel
theorem dX5_having_75 : decode cX5_having 75 = .ok (.getfield 47, 3) := by decide +kernel
theorem dX5_having_78 : decode cX5_having 78 = .ok (.iload_n 1, 1) := by decide +kernel
theorem dX5_having_79 : decode cX5_having 79 = .ok (.laload, 1) := by decide +kernel
theorem dX5_having_80 : decode cX5_having 80 = .ok (.lload 5, 2) := by decide +kernel
theorem dX5_having_82 : decode cX5_having 82 = .ok (.lmul, 1) := by decide +kernel
theorem dX5_having_83 : decode cX5_having 83 = .ok (.lstore 7, 2) := by decide +kernel
theorem dX5_having_85 : decode cX5_having 85 = .ok (.lload_n 3, 1) := by decide +kernel
theorem dX5_having_86 : decode cX5_having 86 = .ok (.aload_n 0, 1) := by decide +kernel
theorem dX5_having_87 : decode cX5_having 87 = .ok (.getfield 51, 3) := by decide +kernel
theorem dX5_having_90 : decode cX5_having 90 = .ok (.iload_n 1, 1) := by decide +kernel
theorem dX5_having_91 : decode cX5_having 91 = .ok (.laload, 1) := by decide +kernel
theorem dX5_having_92 : decode cX5_having 92 = .ok (.lmul, 1) := by decide +kernel
theorem dX5_having_93 : decode cX5_having 93 = .ok (.lstore 9, 2) := by decide +kernel
theorem dX5_having_95 : decode cX5_having 95 = .ok (.iload_n 2, 1) := by decide +kernel
theorem dX5_having_96 : decode cX5_having 96 = .ok (.ifCond .ne 19, 3) := by decide +kernel
theorem dX5_having_99 : decode cX5_having 99 = .ok (.lload 7, 2) := by decide +kernel
theorem dX5_having_101 : decode cX5_having 101 = .ok (.lload 9, 2) := by decide +kernel
theorem dX5_having_103 : decode cX5_having 103 = .ok (.lcmp, 1) := by decide +kernel
theorem dX5_having_104 : decode cX5_having 104 = .ok (.ifCond .ge 7, 3) := by decide +kernel
theorem dX5_having_107 : decode cX5_having 107 = .ok (.iconst 1, 1) := by decide +kernel
theorem dX5_having_108 : decode cX5_having 108 = .ok (.goto 41, 3) := by decide +kernel
theorem dX5_having_111 : decode cX5_having 111 = .ok (.iconst 0, 1) := by decide +kernel
theorem dX5_having_112 : decode cX5_having 112 = .ok (.goto 37, 3) := by decide +kernel
theorem dX5_having_115 : decode cX5_having 115 = .ok (.iload_n 2, 1) := by decide +kernel
theorem dX5_having_116 : decode cX5_having 116 = .ok (.iconst 1, 1) := by decide +kernel
theorem dX5_having_117 : decode cX5_having 117 = .ok (.if_icmp .ne 19, 3) := by decide +kernel
theorem dX5_having_120 : decode cX5_having 120 = .ok (.lload 7, 2) := by decide +kernel
theorem dX5_having_122 : decode cX5_having 122 = .ok (.lload 9, 2) := by decide +kernel
theorem dX5_having_124 : decode cX5_having 124 = .ok (.lcmp, 1) := by decide +kernel
theorem dX5_having_125 : decode cX5_having 125 = .ok (.ifCond .ne 7, 3) := by decide +kernel
theorem dX5_having_128 : decode cX5_having 128 = .ok (.iconst 1, 1) := by decide +kernel
theorem dX5_having_129 : decode cX5_having 129 = .ok (.goto 20, 3) := by decide +kernel
theorem dX5_having_132 : decode cX5_having 132 = .ok (.iconst 0, 1) := by decide +kernel
theorem dX5_having_133 : decode cX5_having 133 = .ok (.goto 16, 3) := by decide +kernel
theorem dX5_having_136 : decode cX5_having 136 = .ok (.lload 7, 2) := by decide +kernel
theorem dX5_having_138 : decode cX5_having 138 = .ok (.lload 9, 2) := by decide +kernel
theorem dX5_having_140 : decode cX5_having 140 = .ok (.lcmp, 1) := by decide +kernel
theorem dX5_having_141 : decode cX5_having 141 = .ok (.ifCond .le 7, 3) := by decide +kernel
theorem dX5_having_144 : decode cX5_having 144 = .ok (.iconst 1, 1) := by decide +kernel
theorem dX5_having_145 : decode cX5_having 145 = .ok (.goto 4, 3) := by decide +kernel
theorem dX5_having_148 : decode cX5_having 148 = .ok (.iconst 0, 1) := by decide +kernel
theorem dX5_having_149 : decode cX5_having 149 = .ok (.ireturn, 1) := by decide +kernel
set_option maxRecDepth 20000 in
theorem ggX5_told_X5_within : GoodIn wsX5_told wsX5_within := goodIn_r _ [9] (by decide +kernel) (by decide +kernel)
set_option maxRecDepth 20000 in
theorem gX5_told_X5_within : GoodIn wsX5_told (va_wsS RX5 80 yX5_within wsX5_within) := goodIn_app (goodIn_of _ (by decide +kernel)) ggX5_told_X5_within
theorem dX5_told_0 : decode cX5_told 0 = .ok (.aload_n 0, 1) := by decide +kernel
theorem dX5_told_1 : decode cX5_told 1 = .ok (.iload_n 1, 1) := by decide +kernel
theorem dX5_told_2 : decode cX5_told 2 = .ok (.i2l, 1) := by decide +kernel
theorem dX5_told_3 : decode cX5_told 3 = .ok (.lconst 0, 1) := by decide +kernel
theorem dX5_told_4 : decode cX5_told 4 = .ok (.ldc2_w 101, 3) := by decide +kernel
theorem dX5_told_7 : decode cX5_told 7 = .ok (.invokestatic 80, 3) := by decide +kernel
theorem dX5_told_10 : decode cX5_told 10 = .ok (.ifCond .eq 7, 3) := by decide +kernel
theorem dX5_told_13 : decode cX5_told 13 = .ok (.iconst 0, 1) := by decide +kernel
theorem dX5_told_14 : decode cX5_told 14 = .ok (.goto 4, 3) := by decide +kernel
theorem dX5_told_17 : decode cX5_told 17 = .ok (.iconst 1, 1) := by decide +kernel
theorem dX5_told_18 : decode cX5_told 18 = .ok (.putfield 72, 3) := by decide +kernel
theorem dX5_told_21 : decode cX5_told 21 = .ok (.aload_n 0, 1) := by decide +kernel
theorem dX5_told_22 : decode cX5_told 22 = .ok (.getfield 72, 3) := by decide +kernel
theorem dX5_told_25 : decode cX5_told 25 = .ok (.ifCond .le 7, 3) := by decide +kernel
theorem dX5_told_28 : decode cX5_told 28 = .ok (.iconst 0, 1) := by decide +kernel
theorem dX5_told_29 : decode cX5_told 29 = .ok (.goto 30, 3) := by decide +kernel
theorem dX5_told_32 : decode cX5_told 32 = .ok (.iload_n 1, 1) := by decide +kernel
theorem dX5_told_33 : decode cX5_told 33 = .ok (.ifCond .ne 10, 3) := by decide +kernel
theorem dX5_told_36 : decode cX5_told 36 = .ok (.aload_n 0, 1) := by decide +kernel
theorem dX5_told_37 : decode cX5_told 37 = .ok (.getfield 86, 3) := by decide +kernel
theorem dX5_told_40 : decode cX5_told 40 = .ok (.goto 19, 3) := by decide +kernel
theorem dX5_told_43 : decode cX5_told 43 = .ok (.iload_n 1, 1) := by decide +kernel
theorem dX5_told_44 : decode cX5_told 44 = .ok (.iconst 1, 1) := by decide +kernel
theorem dX5_told_45 : decode cX5_told 45 = .ok (.if_icmp .ne 10, 3) := by decide +kernel
theorem dX5_told_48 : decode cX5_told 48 = .ok (.aload_n 0, 1) := by decide +kernel
theorem dX5_told_49 : decode cX5_told 49 = .ok (.getfield 107, 3) := by decide +kernel
theorem dX5_told_52 : decode cX5_told 52 = .ok (.goto 7, 3) := by decide +kernel
theorem dX5_told_55 : decode cX5_told 55 = .ok (.aload_n 0, 1) := by decide +kernel
theorem dX5_told_56 : decode cX5_told 56 = .ok (.getfield 127, 3) := by decide +kernel
theorem dX5_told_59 : decode cX5_told 59 = .ok (.ireturn, 1) := by decide +kernel
theorem dJ13_compare_74951_0 : decode cJ13_compare_74951 0 = .ok (.lload_n 0, 1) := by decide +kernel
theorem dJ13_compare_74951_1 : decode cJ13_compare_74951 1 = .ok (.lload_n 2, 1) := by decide +kernel
theorem dJ13_compare_74951_2 : decode cJ13_compare_74951 2 = .ok (.lcmp, 1) := by decide +kernel
theorem dJ13_compare_74951_3 : decode cJ13_compare_74951 3 = .ok (.ifCond .ge 7, 3) := by decide +kernel
theorem dJ13_compare_74951_6 : decode cJ13_compare_74951 6 = .ok (.iconst (-1), 1) := by decide +kernel
theorem dJ13_compare_74951_7 : decode cJ13_compare_74951 7 = .ok (.goto 14, 3) := by decide +kernel
theorem dJ13_compare_74951_10 : decode cJ13_compare_74951 10 = .ok (.lload_n 0, 1) := by decide +kernel
theorem dJ13_compare_74951_11 : decode cJ13_compare_74951 11 = .ok (.lload_n 2, 1) := by decide +kernel
theorem dJ13_compare_74951_12 : decode cJ13_compare_74951 12 = .ok (.lcmp, 1) := by decide +kernel
theorem dJ13_compare_74951_13 : decode cJ13_compare_74951 13 = .ok (.ifCond .ne 7, 3) := by decide +kernel
theorem dJ13_compare_74951_16 : decode cJ13_compare_74951 16 = .ok (.iconst 0, 1) := by decide +kernel
theorem dJ13_compare_74951_17 : decode cJ13_compare_74951 17 = .ok (.goto 4, 3) := by decide +kernel
theorem dJ13_compare_74951_20 : decode cJ13_compare_74951 20 = .ok (.iconst 1, 1) := by decide +kernel
theorem dJ13_compare_74951_21 : decode cJ13_compare_74951 21 = .ok (.ireturn, 1) := by decide +kernel
theorem dJ9_abs_0f7a4_0 : decode cJ9_abs_0f7a4 0 = .ok (.iload_n 0, 1) := by decide +kernel
theorem dJ9_abs_0f7a4_1 : decode cJ9_abs_0f7a4 1 = .ok (.ifCond .ge 8, 3) := by decide +kernel
theorem dJ9_abs_0f7a4_4 : decode cJ9_abs_0f7a4 4 = .ok (.iload_n 0, 1) := by decide +kernel
theorem dJ9_abs_0f7a4_5 : decode cJ9_abs_0f7a4 5 = .ok (.ineg, 1) := by decide +kernel
theorem dJ9_abs_0f7a4_6 : decode cJ9_abs_0f7a4 6 = .ok (.goto 4, 3) := by decide +kernel
theorem dJ9_abs_0f7a4_9 : decode cJ9_abs_0f7a4 9 = .ok (.iload_n 0, 1) := by decide +kernel
theorem dJ9_abs_0f7a4_10 : decode cJ9_abs_0f7a4 10 = .ok (.ireturn, 1) := by decide +kernel
theorem dJ9_abs_067f4_0 : decode cJ9_abs_067f4 0 = .ok (.lload_n 0, 1) := by decide +kernel
theorem dJ9_abs_067f4_1 : decode cJ9_abs_067f4 1 = .ok (.lconst 0, 1) := by decide +kernel
theorem dJ9_abs_067f4_2 : decode cJ9_abs_067f4 2 = .ok (.lcmp, 1) := by decide +kernel
theorem dJ9_abs_067f4_3 : decode cJ9_abs_067f4 3 = .ok (.ifCond .ge 8, 3) := by decide +kernel
theorem dJ9_abs_067f4_6 : decode cJ9_abs_067f4 6 = .ok (.lload_n 0, 1) := by decide +kernel
theorem dJ9_abs_067f4_7 : decode cJ9_abs_067f4 7 = .ok (.lneg, 1) := by decide +kernel
theorem dJ9_abs_067f4_8 : decode cJ9_abs_067f4 8 = .ok (.goto 4, 3) := by decide +kernel
theorem dJ9_abs_067f4_11 : decode cJ9_abs_067f4 11 = .ok (.lload_n 0, 1) := by decide +kernel
theorem dJ9_abs_067f4_12 : decode cJ9_abs_067f4 12 = .ok (.lreturn, 1) := by decide +kernel
theorem dJ9_max_7cf53_0 : decode cJ9_max_7cf53 0 = .ok (.iload_n 0, 1) := by decide +kernel
theorem dJ9_max_7cf53_1 : decode cJ9_max_7cf53 1 = .ok (.iload_n 1, 1) := by decide +kernel
theorem dJ9_max_7cf53_2 : decode cJ9_max_7cf53 2 = .ok (.if_icmp .lt 7, 3) := by decide +kernel
theorem dJ9_max_7cf53_5 : decode cJ9_max_7cf53 5 = .ok (.iload_n 0, 1) := by decide +kernel
theorem dJ9_max_7cf53_6 : decode cJ9_max_7cf53 6 = .ok (.goto 4, 3) := by decide +kernel
theorem dJ9_max_7cf53_9 : decode cJ9_max_7cf53 9 = .ok (.iload_n 1, 1) := by decide +kernel
theorem dJ9_max_7cf53_10 : decode cJ9_max_7cf53 10 = .ok (.ireturn, 1) := by decide +kernel
theorem dJ9_max_f86c9_0 : decode cJ9_max_f86c9 0 = .ok (.lload_n 0, 1) := by decide +kernel
theorem dJ9_max_f86c9_1 : decode cJ9_max_f86c9 1 = .ok (.lload_n 2, 1) := by decide +kernel
theorem dJ9_max_f86c9_2 : decode cJ9_max_f86c9 2 = .ok (.lcmp, 1) := by decide +kernel
theorem dJ9_max_f86c9_3 : decode cJ9_max_f86c9 3 = .ok (.ifCond .lt 7, 3) := by decide +kernel
theorem dJ9_max_f86c9_6 : decode cJ9_max_f86c9 6 = .ok (.lload_n 0, 1) := by decide +kernel
theorem dJ9_max_f86c9_7 : decode cJ9_max_f86c9 7 = .ok (.goto 4, 3) := by decide +kernel
theorem dJ9_max_f86c9_10 : decode cJ9_max_f86c9 10 = .ok (.lload_n 2, 1) := by decide +kernel
theorem dJ9_max_f86c9_11 : decode cJ9_max_f86c9 11 = .ok (.lreturn, 1) := by decide +kernel
