theorem dX0_init_0 : decode cX0_init 0 = .ok (.aload_n 0, 1) := by decide +kernel
theorem dX0_init_1 : decode cX0_init 1 = .ok (.invokespecial 3, 3) := by decide +kernel
theorem dX0_init_4 : decode cX0_init 4 = .ok (.aload_n 0, 1) := by decide +kernel
theorem dX0_init_5 : decode cX0_init 5 = .ok (.bipush 60, 2) := by decide +kernel
theorem dX0_init_7 : decode cX0_init 7 = .ok (.newarray .int, 2) := by decide +kernel
theorem dX0_init_9 : decode cX0_init 9 = .ok (.putfield 9, 3) := by decide +kernel
theorem dX0_init_12 : decode cX0_init 12 = .ok (.aload_n 0, 1) := by decide +kernel
theorem dX0_init_13 : decode cX0_init 13 = .ok (.bipush 60, 2) := by decide +kernel
theorem dX0_init_15 : decode cX0_init 15 = .ok (.newarray .int, 2) := by decide +kernel
theorem dX0_init_17 : decode cX0_init 17 = .ok (.putfield 15, 3) := by decide +kernel
theorem dX0_init_20 : decode cX0_init 20 = .ok (.aload_n 0, 1) := by decide +kernel
theorem dX0_init_21 : decode cX0_init 21 = .ok (.bipush 60, 2) := by decide +kernel
theorem dX0_init_23 : decode cX0_init 23 = .ok (.newarray .int, 2) := by decide +kernel
theorem dX0_init_25 : decode cX0_init 25 = .ok (.putfield 18, 3) := by decide +kernel
theorem dX0_init_28 : decode cX0_init 28 = .ok (.aload_n 0, 1) := by decide +kernel
theorem dX0_init_29 : decode cX0_init 29 = .ok (.bipush 60, 2) := by decide +kernel
theorem dX0_init_31 : decode cX0_init 31 = .ok (.newarray .int, 2) := by decide +kernel
theorem dX0_init_33 : decode cX0_init 33 = .ok (.putfield 21, 3) := by decide +kernel
theorem dX0_init_36 : decode cX0_init 36 = .ok (.aload_n 0, 1) := by decide +kernel
theorem dX0_init_37 : decode cX0_init 37 = .ok (.bipush 60, 2) := by decide +kernel
theorem dX0_init_39 : decode cX0_init 39 = .ok (.newarray .long, 2) := by decide +kernel
theorem dX0_init_41 : decode cX0_init 41 = .ok (.putfield 24, 3) := by decide +kernel
theorem dX0_init_44 : decode cX0_init 44 = .ok (.aload_n 0, 1) := by decide +kernel
theorem dX0_init_45 : decode cX0_init 45 = .ok (.bipush 60, 2) := by decide +kernel
theorem dX0_init_47 : decode cX0_init 47 = .ok (.newarray .long, 2) := by decide +kernel
theorem dX0_init_49 : decode cX0_init 49 = .ok (.putfield 28, 3) := by decide +kernel
theorem dX0_init_52 : decode cX0_init 52 = .ok (.aload_n 0, 1) := by decide +kernel
theorem dX0_init_53 : decode cX0_init 53 = .ok (.bipush 60, 2) := by decide +kernel
theorem dX0_init_55 : decode cX0_init 55 = .ok (.newarray .int, 2) := by decide +kernel
theorem dX0_init_57 : decode cX0_init 57 = .ok (.putfield 31, 3) := by decide +kernel
theorem dX0_init_60 : decode cX0_init 60 = .ok (.aload_n 0, 1) := by decide +kernel
theorem dX0_init_61 : decode cX0_init 61 = .ok (.bipush 60, 2) := by decide +kernel
theorem dX0_init_63 : decode cX0_init 63 = .ok (.newarray .int, 2) := by decide +kernel
theorem dX0_init_65 : decode cX0_init 65 = .ok (.putfield 34, 3) := by decide +kernel
theorem dX0_init_68 : decode cX0_init 68 = .ok (.aload_n 0, 1) := by decide +kernel
theorem dX0_init_69 : decode cX0_init 69 = .ok (.bipush 60, 2) := by decide +kernel
theorem dX0_init_71 : decode cX0_init 71 = .ok (.newarray .int, 2) := by decide +kernel
theorem dX0_init_73 : decode cX0_init 73 = .ok (.putfield 37, 3) := by decide +kernel
theorem dX0_init_76 : decode cX0_init 76 = .ok (.aload_n 0, 1) := by decide +kernel
theorem dX0_init_77 : decode cX0_init 77 = .ok (.sipush 600, 3) := by decide +kernel
theorem dX0_init_80 : decode cX0_init 80 = .ok (.newarray .char, 2) := by decide +kernel
theorem dX0_init_82 : decode cX0_init 82 = .ok (.putfield 40, 3) := by decide +kernel
theorem dX0_init_85 : decode cX0_init 85 = .ok (.aload_n 0, 1) := by decide +kernel
theorem dX0_init_86 : decode cX0_init 86 = .ok (.iconst 0, 1) := by decide +kernel
theorem dX0_init_87 : decode cX0_init 87 = .ok (.putfield 44, 3) := by decide +kernel
theorem dX0_init_90 : decode cX0_init 90 = .ok (.aload_n 0, 1) := by decide +kernel
theorem dX0_init_91 : decode cX0_init 91 = .ok (.iconst 0, 1) := by decide +kernel
theorem dX0_init_92 : decode cX0_init 92 = .ok (.putfield 48, 3) := by decide +kernel
theorem dX0_init_95 : decode cX0_init 95 = .ok (.return_, 1) := by decide +kernel
theorem dX0_clear_0 : decode cX0_clear 0 = .ok (.aload_n 0, 1) := by decide +kernel
theorem dX0_clear_1 : decode cX0_clear 1 = .ok (.iconst 0, 1) := by decide +kernel
theorem dX0_clear_2 : decode cX0_clear 2 = .ok (.putfield 48, 3) := by decide +kernel
theorem dX0_clear_5 : decode cX0_clear 5 = .ok (.aload_n 0, 1) := by decide +kernel
theorem dX0_clear_6 : decode cX0_clear 6 = .ok (.iconst 0, 1) := by decide +kernel
theorem dX0_clear_7 : decode cX0_clear 7 = .ok (.putfield 44, 3) := by decide +kernel
theorem dX0_clear_10 : decode cX0_clear 10 = .ok (.return_, 1) := by decide +kernel
theorem dX0_open_0 : decode cX0_open 0 = .ok (.aload_n 0, 1) := by decide +kernel
theorem dX0_open_1 : decode cX0_open 1 = .ok (.getfield 9, 3) := by decide +kernel
theorem dX0_open_4 : decode cX0_open 4 = .ok (.aload_n 0, 1) := by decide +kernel
theorem dX0_open_5 : decode cX0_open 5 = .ok (.getfield 48, 3) := by decide +kernel
theorem dX0_open_8 : decode cX0_open 8 = .ok (.iload_n 1, 1) := by decide +kernel
theorem dX0_open_9 : decode cX0_open 9 = .ok (.iastore, 1) := by decide +kernel
theorem dX0_open_10 : decode cX0_open 10 = .ok (.aload_n 0, 1) := by decide +kernel
theorem dX0_open_11 : decode cX0_open 11 = .ok (.getfield 15, 3) := by decide +kernel
theorem dX0_open_14 : decode cX0_open 14 = .ok (.aload_n 0, 1) := by decide +kernel
theorem dX0_open_15 : decode cX0_open 15 = .ok (.getfield 48, 3) := by decide +kernel
theorem dX0_open_18 : decode cX0_open 18 = .ok (.iconst 0, 1) := by decide +kernel
theorem dX0_open_19 : decode cX0_open 19 = .ok (.iastore, 1) := by decide +kernel
theorem dX0_open_20 : decode cX0_open 20 = .ok (.aload_n 0, 1) := by decide +kernel
theorem dX0_open_21 : decode cX0_open 21 = .ok (.getfield 18, 3) := by decide +kernel
theorem dX0_open_24 : decode cX0_open 24 = .ok (.aload_n 0, 1) := by decide +kernel
theorem dX0_open_25 : decode cX0_open 25 = .ok (.getfield 48, 3) := by decide +kernel
theorem dX0_open_28 : decode cX0_open 28 = .ok (.iconst 3, 1) := by decide +kernel
theorem dX0_open_29 : decode cX0_open 29 = .ok (.iastore, 1) := by decide +kernel
theorem dX0_open_30 : decode cX0_open 30 = .ok (.aload_n 0, 1) := by decide +kernel
theorem dX0_open_31 : decode cX0_open 31 = .ok (.getfield 21, 3) := by decide +kernel
theorem dX0_open_34 : decode cX0_open 34 = .ok (.aload_n 0, 1) := by decide +kernel
theorem dX0_open_35 : decode cX0_open 35 = .ok (.getfield 48, 3) := by decide +kernel
theorem dX0_open_38 : decode cX0_open 38 = .ok (.iconst 0, 1) := by decide +kernel
theorem dX0_open_39 : decode cX0_open 39 = .ok (.iastore, 1) := by decide +kernel
theorem dX0_open_40 : decode cX0_open 40 = .ok (.aload_n 0, 1) := by decide +kernel
theorem dX0_open_41 : decode cX0_open 41 = .ok (.getfield 24, 3) := by decide +kernel
theorem dX0_open_44 : decode cX0_open 44 = .ok (.aload_n 0, 1) := by decide +kernel
theorem dX0_open_45 : decode cX0_open 45 = .ok (.getfield 48, 3) := by decide +kernel
theorem dX0_open_48 : decode cX0_open 48 = .ok (.lconst 0, 1) := by decide +kernel
theorem dX0_open_49 : decode cX0_open 49 = .ok (.lastore, 1) := by decide +kernel
theorem dX0_open_50 : decode cX0_open 50 = .ok (.aload_n 0, 1) := by decide +kernel
theorem dX0_open_51 : decode cX0_open 51 = .ok (.getfield 28, 3) := by decide +kernel
theorem dX0_open_54 : decode cX0_open 54 = .ok (.aload_n 0, 1) := by decide +kernel
theorem dX0_open_55 : decode cX0_open 55 = .ok (.getfield 48, 3) := by decide +kernel
theorem dX0_open_58 : decode cX0_open 58 = .ok (.lconst 1, 1) := by decide +kernel
theorem dX0_open_59 : decode cX0_open 59 = .ok (.lastore, 1) := by decide +kernel
theorem dX0_open_60 : decode cX0_open 60 = .ok (.aload_n 0, 1) := by decide +kernel
theorem dX0_open_61 : decode cX0_open 61 = .ok (.getfield 31, 3) := by decide +kernel
theorem dX0_open_64 : decode cX0_open 64 = .ok (.aload_n 0, 1) := by decide +kernel
theorem dX0_open_65 : decode cX0_open 65 = .ok (.getfield 48, 3) := by decide +kernel
theorem dX0_open_68 : decode cX0_open 68 = .ok (.iconst (-1), 1) := by decide +kernel
theorem dX0_open_69 : decode cX0_open 69 = .ok (.iastore, 1) := by decide +kernel
theorem dX0_open_70 : decode cX0_open 70 = .ok (.aload_n 0, 1) := by decide +kernel
theorem dX0_open_71 : decode cX0_open 71 = .ok (.getfield 34, 3) := by decide +kernel
theorem dX0_open_74 : decode cX0_open 74 = .ok (.aload_n 0, 1) := by decide +kernel
theorem dX0_open_75 : decode cX0_open 75 = .ok (.getfield 48, 3) := by decide +kernel
theorem dX0_open_78 : decode cX0_open 78 = .ok (.iconst 0, 1) := by decide +kernel
theorem dX0_open_79 : decode cX0_open 79 = .ok (.iastore, 1) := by decide +kernel
theorem dX0_open_80 : decode cX0_open 80 = .ok (.aload_n 0, 1) := by decide +kernel
theorem dX0_open_81 : decode cX0_open 81 = .ok (.getfield 37, 3) := by decide +kernel
theorem dX0_open_84 : decode cX0_open 84 = .ok (.aload_n 0, 1) := by decide +kernel
theorem dX0_open_85 : decode cX0_open 85 = .ok (.getfield 48, 3) := by decide +kernel
theorem dX0_open_88 : decode cX0_open 88 = .ok (.iconst 0, 1) := by decide +kernel
theorem dX0_open_89 : decode cX0_open 89 = .ok (.iastore, 1) := by decide +kernel
theorem dX0_open_90 : decode cX0_open 90 = .ok (.aload_n 0, 1) := by decide +kernel
theorem dX0_open_91 : decode cX0_open 91 = .ok (.dup, 1) := by decide +kernel
theorem dX0_open_92 : decode cX0_open 92 = .ok (.getfield 48, 3) := by decide +kernel
theorem dX0_open_95 : decode cX0_open 95 = .ok (.iconst 1, 1) := by decide +kernel
theorem dX0_open_96 : decode cX0_open 96 = .ok (.iadd, 1) := by decide +kernel
theorem dX0_open_97 : decode cX0_open 97 = .ok (.putfield 48, 3) := by decide +kernel
theorem dX0_open_100 : decode cX0_open 100 = .ok (.return_, 1) := by decide +kernel
theorem dX0_addRow_0 : decode cX0_addRow 0 = .ok (.aload_n 0, 1) := by decide +kernel
theorem dX0_addRow_1 : decode cX0_addRow 1 = .ok (.getfield 15, 3) := by decide +kernel
theorem dX0_addRow_4 : decode cX0_addRow 4 = .ok (.iload_n 1, 1) := by decide +kernel
theorem dX0_addRow_5 : decode cX0_addRow 5 = .ok (.dup2, 1) := by decide +kernel
theorem dX0_addRow_6 : decode cX0_addRow 6 = .ok (.iaload, 1) := by decide +kernel
theorem dX0_addRow_7 : decode cX0_addRow 7 = .ok (.iconst 1, 1) := by decide +kernel
theorem dX0_addRow_8 : decode cX0_addRow 8 = .ok (.iadd, 1) := by decide +kernel
theorem dX0_addRow_9 : decode cX0_addRow 9 = .ok (.iastore, 1) := by decide +kernel
theorem dX0_addRow_10 : decode cX0_addRow 10 = .ok (.return_, 1) := by decide +kernel
set_option maxRecDepth 20000 in
theorem ggX0_setNumber_X0_commonDivisor : GoodIn wsX0_setNumber wsX0_commonDivisor := goodIn_r _ [11, 12, 13, 3, 14] (by decide +kernel) (by decide +kernel)
set_option maxRecDepth 20000 in
theorem gX0_setNumber_X0_commonDivisor : GoodIn wsX0_setNumber (va_wsS RX0 57 yX0_commonDivisor wsX0_commonDivisor) := goodIn_app (goodIn_of _ (by decide +kernel)) ggX0_setNumber_X0_commonDivisor
theorem dX0_setNumber_0 : decode cX0_setNumber 0 = .ok (.lload_n 2, 1) := by decide +kernel
theorem dX0_setNumber_1 : decode cX0_setNumber 1 = .ok (.invokestatic 51, 3) := by decide +kernel
theorem dX0_setNumber_4 : decode cX0_setNumber 4 = .ok (.lload 4, 2) := by decide +kernel
theorem dX0_setNumber_6 : decode cX0_setNumber 6 = .ok (.invokestatic 57, 3) := by decide +kernel
theorem dX0_setNumber_9 : decode cX0_setNumber 9 = .ok (.lstore 6, 2) := by decide +kernel
theorem dX0_setNumber_11 : decode cX0_setNumber 11 = .ok (.aload_n 0, 1) := by decide +kernel
theorem dX0_setNumber_12 : decode cX0_setNumber 12 = .ok (.getfield 18, 3) := by decide +kernel
theorem dX0_setNumber_15 : decode cX0_setNumber 15 = .ok (.iload_n 1, 1) := by decide +kernel
theorem dX0_setNumber_16 : decode cX0_setNumber 16 = .ok (.iconst 0, 1) := by decide +kernel
theorem dX0_setNumber_17 : decode cX0_setNumber 17 = .ok (.iastore, 1) := by decide +kernel
theorem dX0_setNumber_18 : decode cX0_setNumber 18 = .ok (.aload_n 0, 1) := by decide +kernel
theorem dX0_setNumber_19 : decode cX0_setNumber 19 = .ok (.getfield 24, 3) := by decide +kernel
theorem dX0_setNumber_22 : decode cX0_setNumber 22 = .ok (.iload_n 1, 1) := by decide +kernel
theorem dX0_setNumber_23 : decode cX0_setNumber 23 = .ok (.lload_n 2, 1) := by decide +kernel
theorem dX0_setNumber_24 : decode cX0_setNumber 24 = .ok (.lload 6, 2) := by decide +kernel
theorem dX0_setNumber_26 : decode cX0_setNumber 26 = .ok (.ldiv, 1) := by decide +kernel
theorem dX0_setNumber_27 : decode cX0_setNumber 27 = .ok (.lastore, 1) := by decide +kernel
theorem dX0_setNumber_28 : decode cX0_setNumber 28 = .ok (.aload_n 0, 1) := by decide +kernel
theorem dX0_setNumber_29 : decode cX0_setNumber 29 = .ok (.getfield 28, 3) := by decide +kernel
theorem dX0_setNumber_32 : decode cX0_setNumber 32 = .ok (.iload_n 1, 1) := by decide +kernel
theorem dX0_setNumber_33 : decode cX0_setNumber 33 = .ok (.lload 4, 2) := by decide +kernel
theorem dX0_setNumber_35 : decode cX0_setNumber 35 = .ok (.lload 6, 2) := by decide +kernel
theorem dX0_setNumber_37 : decode cX0_setNumber 37 = .ok (.ldiv, 1) := by decide +kernel
theorem dX0_setNumber_38 : decode cX0_setNumber 38 = .ok (.lastore, 1) := by decide +kernel
theorem dX0_setNumber_39 : decode cX0_setNumber 39 = .ok (.return_, 1) := by decide +kernel
theorem dX0_commonDivisor_0 : decode cX0_commonDivisor 0 = .ok (.lload_n 0, 1) := by decide +kernel
theorem dX0_commonDivisor_1 : decode cX0_commonDivisor 1 = .ok (.lstore 4, 2) := by decide +kernel
theorem dX0_commonDivisor_3 : decode cX0_commonDivisor 3 = .ok (.lload_n 2, 1) := by decide +kernel
theorem dX0_commonDivisor_4 : decode cX0_commonDivisor 4 = .ok (.lstore 6, 2) := by decide +kernel
theorem dX0_commonDivisor_6 : decode cX0_commonDivisor 6 = .ok (.iconst 0, 1) := by decide +kernel
theorem dX0_commonDivisor_7 : decode cX0_commonDivisor 7 = .ok (.istore 8, 2) := by decide +kernel
theorem dX0_commonDivisor_9 : decode cX0_commonDivisor 9 = .ok (.iload 8, 2) := by decide +kernel
theorem dX0_commonDivisor_11 : decode cX0_commonDivisor 11 = .ok (.bipush 100, 2) := by decide +kernel
theorem dX0_commonDivisor_13 : decode cX0_commonDivisor 13 = .ok (.if_icmp .ge 31, 3) := by decide +kernel
theorem dX0_commonDivisor_16 : decode cX0_commonDivisor 16 = .ok (.lload 6, 2) := by decide +kernel
theorem dX0_commonDivisor_18 : decode cX0_commonDivisor 18 = .ok (.lconst 0, 1) := by decide +kernel
theorem dX0_commonDivisor_19 : decode cX0_commonDivisor 19 = .ok (.lcmp, 1) := by decide +kernel
theorem dX0_commonDivisor_20 : decode cX0_commonDivisor 20 = .ok (.ifCond .eq 24, 3) := by decide +kernel
theorem dX0_commonDivisor_23 : decode cX0_commonDivisor 23 = .ok (.lload 4, 2) := by decide +kernel
theorem dX0_commonDivisor_25 : decode cX0_commonDivisor 25 = .ok (.lload 6, 2) := by decide +kernel
theorem dX0_commonDivisor_27 : decode cX0_commonDivisor 27 = .ok (.lrem, 1) := by decide +kernel
theorem dX0_commonDivisor_28 : decode cX0_commonDivisor 28 = .ok (.lstore 9, 2) := by decide +kernel
theorem dX0_commonDivisor_30 : decode cX0_commonDivisor 30 = .ok (.lload 6, 2) := by decide +kernel
theorem dX0_commonDivisor_32 : decode cX0_commonDivisor 32 = .ok (.lstore 4, 2) := by decide +kernel
theorem dX0_commonDivisor_34 : decode cX0_commonDivisor 34 = .ok (.lload 9, 2) := by decide +kernel
theorem dX0_commonDivisor_36 : decode cX0_commonDivisor 36 = .ok (.lstore 6, 2) := by decide +kernel
theorem dX0_commonDivisor_38 : decode cX0_commonDivisor 38 = .ok (.iinc 8 1, 3) := by decide +kernel
theorem dX0_commonDivisor_41 : decode cX0_commonDivisor 41 = .ok (.goto (-32), 3) := by decide +kernel
theorem dX0_commonDivisor_44 : decode cX0_commonDivisor 44 = .ok (.lconst 1, 1) := by decide +kernel
theorem dX0_commonDivisor_45 : decode cX0_commonDivisor 45 = .ok (.lload 4, 2) := by decide +kernel
theorem dX0_commonDivisor_47 : decode cX0_commonDivisor 47 = .ok (.invokestatic 61, 3) := by decide +kernel
theorem dX0_commonDivisor_50 : decode cX0_commonDivisor 50 = .ok (.lreturn, 1) := by decide +kernel
theorem dX0_setError_0 : decode cX0_setError 0 = .ok (.aload_n 0, 1) := by decide +kernel
theorem dX0_setError_1 : decode cX0_setError 1 = .ok (.getfield 18, 3) := by decide +kernel
theorem dX0_setError_4 : decode cX0_setError 4 = .ok (.iload_n 1, 1) := by decide +kernel
theorem dX0_setError_5 : decode cX0_setError 5 = .ok (.iconst 2, 1) := by decide +kernel
theorem dX0_setError_6 : decode cX0_setError 6 = .ok (.iastore, 1) := by decide +kernel
theorem dX0_setError_7 : decode cX0_setError 7 = .ok (.aload_n 0, 1) := by decide +kernel
theorem dX0_setError_8 : decode cX0_setError 8 = .ok (.getfield 21, 3) := by decide +kernel
theorem dX0_setError_11 : decode cX0_setError 11 = .ok (.iload_n 1, 1) := by decide +kernel
theorem dX0_setError_12 : decode cX0_setError 12 = .ok (.iload_n 2, 1) := by decide +kernel
theorem dX0_setError_13 : decode cX0_setError 13 = .ok (.iastore, 1) := by decide +kernel
theorem dX0_setError_14 : decode cX0_setError 14 = .ok (.return_, 1) := by decide +kernel
theorem dX0_setTermOfResult_0 : decode cX0_setTermOfResult 0 = .ok (.aload_n 0, 1) := by decide +kernel
theorem dX0_setTermOfResult_1 : decode cX0_setTermOfResult 1 = .ok (.getfield 31, 3) := by decide +kernel
theorem dX0_setTermOfResult_4 : decode cX0_setTermOfResult 4 = .ok (.iload_n 1, 1) := by decide +kernel
theorem dX0_setTermOfResult_5 : decode cX0_setTermOfResult 5 = .ok (.iload_n 2, 1) := by decide +kernel
theorem dX0_setTermOfResult_6 : decode cX0_setTermOfResult 6 = .ok (.iastore, 1) := by decide +kernel
theorem dX0_setTermOfResult_7 : decode cX0_setTermOfResult 7 = .ok (.return_, 1) := by decide +kernel
theorem dX0_beginText_0 : decode cX0_beginText 0 = .ok (.aload_n 0, 1) := by decide +kernel
theorem dX0_beginText_1 : decode cX0_beginText 1 = .ok (.getfield 34, 3) := by decide +kernel
theorem dX0_beginText_4 : decode cX0_beginText 4 = .ok (.iload_n 1, 1) := by decide +kernel
theorem dX0_beginText_5 : decode cX0_beginText 5 = .ok (.aload_n 0, 1) := by decide +kernel
theorem dX0_beginText_6 : decode cX0_beginText 6 = .ok (.getfield 44, 3) := by decide +kernel
theorem dX0_beginText_9 : decode cX0_beginText 9 = .ok (.iastore, 1) := by decide +kernel
theorem dX0_beginText_10 : decode cX0_beginText 10 = .ok (.return_, 1) := by decide +kernel
theorem dX0_put_0 : decode cX0_put 0 = .ok (.aload_n 0, 1) := by decide +kernel
theorem dX0_put_1 : decode cX0_put 1 = .ok (.getfield 44, 3) := by decide +kernel
theorem dX0_put_4 : decode cX0_put 4 = .ok (.sipush 600, 3) := by decide +kernel
theorem dX0_put_7 : decode cX0_put 7 = .ok (.if_icmp .ge 23, 3) := by decide +kernel
theorem dX0_put_10 : decode cX0_put 10 = .ok (.aload_n 0, 1) := by decide +kernel
theorem dX0_put_11 : decode cX0_put 11 = .ok (.getfield 40, 3) := by decide +kernel
theorem dX0_put_14 : decode cX0_put 14 = .ok (.aload_n 0, 1) := by decide +kernel
theorem dX0_put_15 : decode cX0_put 15 = .ok (.getfield 44, 3) := by decide +kernel
theorem dX0_put_18 : decode cX0_put 18 = .ok (.iload_n 1, 1) := by decide +kernel
theorem dX0_put_19 : decode cX0_put 19 = .ok (.castore, 1) := by decide +kernel
theorem dX0_put_20 : decode cX0_put 20 = .ok (.aload_n 0, 1) := by decide +kernel
theorem dX0_put_21 : decode cX0_put 21 = .ok (.dup, 1) := by decide +kernel
theorem dX0_put_22 : decode cX0_put 22 = .ok (.getfield 44, 3) := by decide +kernel
theorem dX0_put_25 : decode cX0_put 25 = .ok (.iconst 1, 1) := by decide +kernel
theorem dX0_put_26 : decode cX0_put 26 = .ok (.iadd, 1) := by decide +kernel
theorem dX0_put_27 : decode cX0_put 27 = .ok (.putfield 44, 3) := by decide +kernel
theorem dX0_put_30 : decode cX0_put 30 = .ok (.return_, 1) := by decide +kernel
theorem dX0_openLength_0 : decode cX0_openLength 0 = .ok (.aload_n 0, 1) := by decide +kernel
theorem dX0_openLength_1 : decode cX0_openLength 1 = .ok (.getfield 44, 3) := by decide +kernel
theorem dX0_openLength_4 : decode cX0_openLength 4 = .ok (.aload_n 0, 1) := by decide +kernel
theorem dX0_openLength_5 : decode cX0_openLength 5 = .ok (.getfield 34, 3) := by decide +kernel
theorem dX0_openLength_8 : decode cX0_openLength 8 = .ok (.iload_n 1, 1) := by decide +kernel
theorem dX0_openLength_9 : decode cX0_openLength 9 = .ok (.iaload, 1) := by decide +kernel
theorem dX0_openLength_10 : decode cX0_openLength 10 = .ok (.isub, 1) := by decide +kernel
theorem dX0_openLength_11 : decode cX0_openLength 11 = .ok (.ireturn, 1) := by decide +kernel
set_option maxRecDepth 20000 in
theorem ggX0_endText_X0_openLength : GoodIn wsX0_endText wsX0_openLength := goodIn_r _ [7, 8, 9, 10, 11, 12, 13, 14, 15, 16, 17, 18, 19, 20, 21] (by decide +kernel) (by decide +kernel)
set_option maxRecDepth 20000 in
theorem gX0_endText_X0_openLength : GoodIn wsX0_endText (wsV RX0 64 RX0 yX0_openLength wsX0_openLength) := goodIn_app (goodIn_of _ (by decide +kernel)) ggX0_endText_X0_openLength
theorem dX0_endText_0 : decode cX0_endText 0 = .ok (.aload_n 0, 1) := by decide +kernel
theorem dX0_endText_1 : decode cX0_endText 1 = .ok (.getfield 18, 3) := by decide +kernel
theorem dX0_endText_4 : decode cX0_endText 4 = .ok (.iload_n 1, 1) := by decide +kernel
theorem dX0_endText_5 : decode cX0_endText 5 = .ok (.iconst 1, 1) := by decide +kernel
theorem dX0_endText_6 : decode cX0_endText 6 = .ok (.iastore, 1) := by decide +kernel
theorem dX0_endText_7 : decode cX0_endText 7 = .ok (.aload_n 0, 1) := by decide +kernel
theorem dX0_endText_8 : decode cX0_endText 8 = .ok (.getfield 37, 3) := by decide +kernel
theorem dX0_endText_11 : decode cX0_endText 11 = .ok (.iload_n 1, 1) := by decide +kernel
theorem dX0_endText_12 : decode cX0_endText 12 = .ok (.aload_n 0, 1) := by decide +kernel
theorem dX0_endText_13 : decode cX0_endText 13 = .ok (.iload_n 1, 1) := by decide +kernel
theorem dX0_endText_14 : decode cX0_endText 14 = .ok (.invokevirtual 64, 3) := by decide +kernel
theorem dX0_endText_17 : decode cX0_endText 17 = .ok (.iastore, 1) := by decide +kernel
theorem dX0_endText_18 : decode cX0_endText 18 = .ok (.return_, 1) := by decide +kernel
theorem dX0_count_0 : decode cX0_count 0 = .ok (.aload_n 0, 1) := by decide +kernel
theorem dX0_count_1 : decode cX0_count 1 = .ok (.getfield 48, 3) := by decide +kernel
theorem dX0_count_4 : decode cX0_count 4 = .ok (.ireturn, 1) := by decide +kernel
theorem dX0_firstKey_0 : decode cX0_firstKey 0 = .ok (.aload_n 0, 1) := by decide +kernel
theorem dX0_firstKey_1 : decode cX0_firstKey 1 = .ok (.getfield 9, 3) := by decide +kernel
theorem dX0_firstKey_4 : decode cX0_firstKey 4 = .ok (.iload_n 1, 1) := by decide +kernel
theorem dX0_firstKey_5 : decode cX0_firstKey 5 = .ok (.iaload, 1) := by decide +kernel
theorem dX0_firstKey_6 : decode cX0_firstKey 6 = .ok (.ireturn, 1) := by decide +kernel
theorem dX0_rowCount_0 : decode cX0_rowCount 0 = .ok (.aload_n 0, 1) := by decide +kernel
theorem dX0_rowCount_1 : decode cX0_rowCount 1 = .ok (.getfield 15, 3) := by decide +kernel
theorem dX0_rowCount_4 : decode cX0_rowCount 4 = .ok (.iload_n 1, 1) := by decide +kernel
theorem dX0_rowCount_5 : decode cX0_rowCount 5 = .ok (.iaload, 1) := by decide +kernel
theorem dX0_rowCount_6 : decode cX0_rowCount 6 = .ok (.ireturn, 1) := by decide +kernel
theorem dX0_sortOf_0 : decode cX0_sortOf 0 = .ok (.aload_n 0, 1) := by decide +kernel
theorem dX0_sortOf_1 : decode cX0_sortOf 1 = .ok (.getfield 18, 3) := by decide +kernel
theorem dX0_sortOf_4 : decode cX0_sortOf 4 = .ok (.iload_n 1, 1) := by decide +kernel
theorem dX0_sortOf_5 : decode cX0_sortOf 5 = .ok (.iaload, 1) := by decide +kernel
theorem dX0_sortOf_6 : decode cX0_sortOf 6 = .ok (.ireturn, 1) := by decide +kernel
theorem dX0_reason_0 : decode cX0_reason 0 = .ok (.aload_n 0, 1) := by decide +kernel
theorem dX0_reason_1 : decode cX0_reason 1 = .ok (.getfield 21, 3) := by decide +kernel
theorem dX0_reason_4 : decode cX0_reason 4 = .ok (.iload_n 1, 1) := by decide +kernel
theorem dX0_reason_5 : decode cX0_reason 5 = .ok (.iaload, 1) := by decide +kernel
theorem dX0_reason_6 : decode cX0_reason 6 = .ok (.ireturn, 1) := by decide +kernel
theorem dX0_upper_0 : decode cX0_upper 0 = .ok (.aload_n 0, 1) := by decide +kernel
theorem dX0_upper_1 : decode cX0_upper 1 = .ok (.getfield 24, 3) := by decide +kernel
theorem dX0_upper_4 : decode cX0_upper 4 = .ok (.iload_n 1, 1) := by decide +kernel
theorem dX0_upper_5 : decode cX0_upper 5 = .ok (.laload, 1) := by decide +kernel
theorem dX0_upper_6 : decode cX0_upper 6 = .ok (.lreturn, 1) := by decide +kernel
theorem dX0_lower_0 : decode cX0_lower 0 = .ok (.aload_n 0, 1) := by decide +kernel
theorem dX0_lower_1 : decode cX0_lower 1 = .ok (.getfield 28, 3) := by decide +kernel
theorem dX0_lower_4 : decode cX0_lower 4 = .ok (.iload_n 1, 1) := by decide +kernel
theorem dX0_lower_5 : decode cX0_lower 5 = .ok (.laload, 1) := by decide +kernel
theorem dX0_lower_6 : decode cX0_lower 6 = .ok (.lreturn, 1) := by decide +kernel
theorem dX0_termOfResult_0 : decode cX0_termOfResult 0 = .ok (.aload_n 0, 1) := by decide +kernel
theorem dX0_termOfResult_1 : decode cX0_termOfResult 1 = .ok (.getfield 31, 3) := by decide +kernel
theorem dX0_termOfResult_4 : decode cX0_termOfResult 4 = .ok (.iload_n 1, 1) := by decide +kernel
theorem dX0_termOfResult_5 : decode cX0_termOfResult 5 = .ok (.iaload, 1) := by decide +kernel
theorem dX0_termOfResult_6 : decode cX0_termOfResult 6 = .ok (.ireturn, 1) := by decide +kernel
theorem dX0_textLength_0 : decode cX0_textLength 0 = .ok (.aload_n 0, 1) := by decide +kernel
theorem dX0_textLength_1 : decode cX0_textLength 1 = .ok (.getfield 37, 3) := by decide +kernel
theorem dX0_textLength_4 : decode cX0_textLength 4 = .ok (.iload_n 1, 1) := by decide +kernel
theorem dX0_textLength_5 : decode cX0_textLength 5 = .ok (.iaload, 1) := by decide +kernel
theorem dX0_textLength_6 : decode cX0_textLength 6 = .ok (.ireturn, 1) := by decide +kernel
theorem dX0_character_0 : decode cX0_character 0 = .ok (.aload_n 0, 1) := by decide +kernel
theorem dX0_character_1 : decode cX0_character 1 = .ok (.getfield 40, 3) := by decide +kernel
theorem dX0_character_4 : decode cX0_character 4 = .ok (.aload_n 0, 1) := by decide +kernel
theorem dX0_character_5 : decode cX0_character 5 = .ok (.getfield 34, 3) := by decide +kernel
theorem dX0_character_8 : decode cX0_character 8 = .ok (.iload_n 1, 1) := by decide +kernel
theorem dX0_character_9 : decode cX0_character 9 = .ok (.iaload, 1) := by decide +kernel
theorem dX0_character_10 : decode cX0_character 10 = .ok (.iload_n 2, 1) := by decide +kernel
theorem dX0_character_11 : decode cX0_character 11 = .ok (.iadd, 1) := by decide +kernel
theorem dX0_character_12 : decode cX0_character 12 = .ok (.caload, 1) := by decide +kernel
theorem dX0_character_13 : decode cX0_character 13 = .ok (.ireturn, 1) := by decide +kernel
theorem dX1_init_0 : decode cX1_init 0 = .ok (.aload_n 0, 1) := by decide +kernel
theorem dX1_init_1 : decode cX1_init 1 = .ok (.invokespecial 3, 3) := by decide +kernel
theorem dX1_init_4 : decode cX1_init 4 = .ok (.aload_n 0, 1) := by decide +kernel
theorem dX1_init_5 : decode cX1_init 5 = .ok (.bipush 60, 2) := by decide +kernel
theorem dX1_init_7 : decode cX1_init 7 = .ok (.newarray .int, 2) := by decide +kernel
theorem dX1_init_9 : decode cX1_init 9 = .ok (.putfield 9, 3) := by decide +kernel
theorem dX1_init_12 : decode cX1_init 12 = .ok (.aload_n 0, 1) := by decide +kernel
theorem dX1_init_13 : decode cX1_init 13 = .ok (.bipush 60, 2) := by decide +kernel
theorem dX1_init_15 : decode cX1_init 15 = .ok (.newarray .int, 2) := by decide +kernel
theorem dX1_init_17 : decode cX1_init 17 = .ok (.putfield 15, 3) := by decide +kernel
theorem dX1_init_20 : decode cX1_init 20 = .ok (.aload_n 0, 1) := by decide +kernel
theorem dX1_init_21 : decode cX1_init 21 = .ok (.bipush 60, 2) := by decide +kernel
theorem dX1_init_23 : decode cX1_init 23 = .ok (.newarray .int, 2) := by decide +kernel
theorem dX1_init_25 : decode cX1_init 25 = .ok (.putfield 18, 3) := by decide +kernel
theorem dX1_init_28 : decode cX1_init 28 = .ok (.aload_n 0, 1) := by decide +kernel
theorem dX1_init_29 : decode cX1_init 29 = .ok (.iconst 0, 1) := by decide +kernel
theorem dX1_init_30 : decode cX1_init 30 = .ok (.putfield 21, 3) := by decide +kernel
theorem dX1_init_33 : decode cX1_init 33 = .ok (.return_, 1) := by decide +kernel
theorem dX1_count_0 : decode cX1_count 0 = .ok (.aload_n 0, 1) := by decide +kernel
theorem dX1_count_1 : decode cX1_count 1 = .ok (.getfield 21, 3) := by decide +kernel
theorem dX1_count_4 : decode cX1_count 4 = .ok (.ireturn, 1) := by decide +kernel
theorem dX1_isFull_0 : decode cX1_isFull 0 = .ok (.aload_n 0, 1) := by decide +kernel
theorem dX1_isFull_1 : decode cX1_isFull 1 = .ok (.getfield 21, 3) := by decide +kernel
theorem dX1_isFull_4 : decode cX1_isFull 4 = .ok (.bipush 60, 2) := by decide +kernel
theorem dX1_isFull_6 : decode cX1_isFull 6 = .ok (.if_icmp .lt 7, 3) := by decide +kernel
theorem dX1_isFull_9 : decode cX1_isFull 9 = .ok (.iconst 1, 1) := by decide +kernel
theorem dX1_isFull_10 : decode cX1_isFull 10 = .ok (.goto 4, 3) := by decide +kernel
theorem dX1_isFull_13 : decode cX1_isFull 13 = .ok (.iconst 0, 1) := by decide +kernel
theorem dX1_isFull_14 : decode cX1_isFull 14 = .ok (.ireturn, 1) := by decide +kernel
theorem dX1_keyAt_0 : decode cX1_keyAt 0 = .ok (.aload_n 0, 1) := by decide +kernel
theorem dX1_keyAt_1 : decode cX1_keyAt 1 = .ok (.getfield 15, 3) := by decide +kernel
theorem dX1_keyAt_4 : decode cX1_keyAt 4 = .ok (.iload_n 1, 1) := by decide +kernel
theorem dX1_keyAt_5 : decode cX1_keyAt 5 = .ok (.iaload, 1) := by decide +kernel
theorem dX1_keyAt_6 : decode cX1_keyAt 6 = .ok (.ireturn, 1) := by decide +kernel
theorem dX1_valueAt_0 : decode cX1_valueAt 0 = .ok (.aload_n 0, 1) := by decide +kernel
theorem dX1_valueAt_1 : decode cX1_valueAt 1 = .ok (.getfield 18, 3) := by decide +kernel
theorem dX1_valueAt_4 : decode cX1_valueAt 4 = .ok (.iload_n 1, 1) := by decide +kernel
theorem dX1_valueAt_5 : decode cX1_valueAt 5 = .ok (.iaload, 1) := by decide +kernel
theorem dX1_valueAt_6 : decode cX1_valueAt 6 = .ok (.ireturn, 1) := by decide +kernel
theorem dX1_add_0 : decode cX1_add 0 = .ok (.aload_n 0, 1) := by decide +kernel
theorem dX1_add_1 : decode cX1_add 1 = .ok (.getfield 21, 3) := by decide +kernel
theorem dX1_add_4 : decode cX1_add 4 = .ok (.istore 4, 2) := by decide +kernel
theorem dX1_add_6 : decode cX1_add 6 = .ok (.iload 4, 2) := by decide +kernel
theorem dX1_add_8 : decode cX1_add 8 = .ok (.ifCond .le 70, 3) := by decide +kernel
theorem dX1_add_11 : decode cX1_add 11 = .ok (.aload_n 0, 1) := by decide +kernel
theorem dX1_add_12 : decode cX1_add 12 = .ok (.getfield 9, 3) := by decide +kernel
theorem dX1_add_15 : decode cX1_add 15 = .ok (.iload 4, 2) := by decide +kernel
theorem dX1_add_17 : decode cX1_add 17 = .ok (.iconst 1, 1) := by decide +kernel
theorem dX1_add_18 : decode cX1_add 18 = .ok (.isub, 1) := by decide +kernel
theorem dX1_add_19 : decode cX1_add 19 = .ok (.iaload, 1) := by decide +kernel
theorem dX1_add_20 : decode cX1_add 20 = .ok (.iload_n 1, 1) := by decide +kernel
theorem dX1_add_21 : decode cX1_add 21 = .ok (.if_icmp .le 57, 3) := by decide +kernel
theorem dX1_add_24 : decode cX1_add 24 = .ok (.aload_n 0, 1) := by decide +kernel
theorem dX1_add_25 : decode cX1_add 25 = .ok (.getfield 9, 3) := by decide +kernel
theorem dX1_add_28 : decode cX1_add 28 = .ok (.iload 4, 2) := by decide +kernel
theorem dX1_add_30 : decode cX1_add 30 = .ok (.aload_n 0, 1) := by decide +kernel
theorem dX1_add_31 : decode cX1_add 31 = .ok (.getfield 9, 3) := by decide +kernel
theorem dX1_add_34 : decode cX1_add 34 = .ok (.iload 4, 2) := by decide +kernel
theorem dX1_add_36 : decode cX1_add 36 = .ok (.iconst 1, 1) := by decide +kernel
theorem dX1_add_37 : decode cX1_add 37 = .ok (.isub, 1) := by decide +kernel
theorem dX1_add_38 : decode cX1_add 38 = .ok (.iaload, 1) := by decide +kernel
theorem dX1_add_39 : decode cX1_add 39 = .ok (.iastore, 1) := by decide +kernel
theorem dX1_add_40 : decode cX1_add 40 = .ok (.aload_n 0, 1) := by decide +kernel
theorem dX1_add_41 : decode cX1_add 41 = .ok (.getfield 15, 3) := by decide +kernel
theorem dX1_add_44 : decode cX1_add 44 = .ok (.iload 4, 2) := by decide +kernel
theorem dX1_add_46 : decode cX1_add 46 = .ok (.aload_n 0, 1) := by decide +kernel
theorem dX1_add_47 : decode cX1_add 47 = .ok (.getfield 15, 3) := by decide +kernel
theorem dX1_add_50 : decode cX1_add 50 = .ok (.iload 4, 2) := by decide +kernel
theorem dX1_add_52 : decode cX1_add 52 = .ok (.iconst 1, 1) := by decide +kernel
theorem dX1_add_53 : decode cX1_add 53 = .ok (.isub, 1) := by decide +kernel
theorem dX1_add_54 : decode cX1_add 54 = .ok (.iaload, 1) := by decide +kernel
theorem dX1_add_55 : decode cX1_add 55 = .ok (.iastore, 1) := by decide +kernel
theorem dX1_add_56 : decode cX1_add 56 = .ok (.aload_n 0, 1) := by decide +kernel
theorem dX1_add_57 : decode cX1_add 57 = .ok (.getfield 18, 3) := by decide +kernel
theorem dX1_add_60 : decode cX1_add 60 = .ok (.iload 4, 2) := by decide +kernel
theorem dX1_add_62 : decode cX1_add 62 = .ok (.aload_n 0, 1) := by decide +kernel
theorem dX1_add_63 : decode cX1_add 63 = .ok (.getfield 18, 3) := by decide +kernel
theorem dX1_add_66 : decode cX1_add 66 = .ok (.iload 4, 2) := by decide +kernel
theorem dX1_add_68 : decode cX1_add 68 = .ok (.iconst 1, 1) := by decide +kernel
theorem dX1_add_69 : decode cX1_add 69 = .ok (.isub, 1) := by decide +kernel
theorem dX1_add_70 : decode cX1_add 70 = .ok (.iaload, 1) := by decide +kernel
theorem dX1_add_71 : decode cX1_add 71 = .ok (.iastore, 1) := by decide +kernel
theorem dX1_add_72 : decode cX1_add 72 = .ok (.iinc 4 (-1), 3) := by decide +kernel
theorem dX1_add_75 : decode cX1_add 75 = .ok (.goto (-69), 3) := by decide +kernel
theorem dX1_add_78 : decode cX1_add 78 = .ok (.aload_n 0, 1) := by decide +kernel
theorem dX1_add_79 : decode cX1_add 79 = .ok (.getfield 9, 3) := by decide +kernel
theorem dX1_add_82 : decode cX1_add 82 = .ok (.iload 4, 2) := by decide +kernel
theorem dX1_add_84 : decode cX1_add 84 = .ok (.iload_n 1, 1) := by decide +kernel
theorem dX1_add_85 : decode cX1_add 85 = .ok (.iastore, 1) := by decide +kernel
theorem dX1_add_86 : decode cX1_add 86 = .ok (.aload_n 0, 1) := by decide +kernel
theorem dX1_add_87 : decode cX1_add 87 = .ok (.getfield 15, 3) := by decide +kernel
theorem dX1_add_90 : decode cX1_add 90 = .ok (.iload 4, 2) := by decide +kernel
theorem dX1_add_92 : decode cX1_add 92 = .ok (.iload_n 2, 1) := by decide +kernel
theorem dX1_add_93 : decode cX1_add 93 = .ok (.iastore, 1) := by decide +kernel
theorem dX1_add_94 : decode cX1_add 94 = .ok (.aload_n 0, 1) := by decide +kernel
theorem dX1_add_95 : decode cX1_add 95 = .ok (.getfield 18, 3) := by decide +kernel
theorem dX1_add_98 : decode cX1_add 98 = .ok (.iload 4, 2) := by decide +kernel
theorem dX1_add_100 : decode cX1_add 100 = .ok (.iload_n 3, 1) := by decide +kernel
theorem dX1_add_101 : decode cX1_add 101 = .ok (.iastore, 1) := by decide +kernel
theorem dX1_add_102 : decode cX1_add 102 = .ok (.aload_n 0, 1) := by decide +kernel
theorem dX1_add_103 : decode cX1_add 103 = .ok (.dup, 1) := by decide +kernel
theorem dX1_add_104 : decode cX1_add 104 = .ok (.getfield 21, 3) := by decide +kernel
theorem dX1_add_107 : decode cX1_add 107 = .ok (.iconst 1, 1) := by decide +kernel
theorem dX1_add_108 : decode cX1_add 108 = .ok (.iadd, 1) := by decide +kernel
theorem dX1_add_109 : decode cX1_add 109 = .ok (.putfield 21, 3) := by decide +kernel
theorem dX1_add_112 : decode cX1_add 112 = .ok (.return_, 1) := by decide +kernel
theorem dX2_init_0 : decode cX2_init 0 = .ok (.aload_n 0, 1) := by decide +kernel
theorem dX2_init_1 : decode cX2_init 1 = .ok (.invokespecial 3, 3) := by decide +kernel
theorem dX2_init_4 : decode cX2_init 4 = .ok (.aload_n 0, 1) := by decide +kernel
theorem dX2_init_5 : decode cX2_init 5 = .ok (.bipush 60, 2) := by decide +kernel
theorem dX2_init_7 : decode cX2_init 7 = .ok (.newarray .long, 2) := by decide +kernel
theorem dX2_init_9 : decode cX2_init 9 = .ok (.putfield 9, 3) := by decide +kernel
theorem dX2_init_12 : decode cX2_init 12 = .ok (.aload_n 0, 1) := by decide +kernel
theorem dX2_init_13 : decode cX2_init 13 = .ok (.bipush 60, 2) := by decide +kernel
theorem dX2_init_15 : decode cX2_init 15 = .ok (.newarray .int, 2) := by decide +kernel
theorem dX2_init_17 : decode cX2_init 17 = .ok (.putfield 15, 3) := by decide +kernel
theorem dX2_init_20 : decode cX2_init 20 = .ok (.aload_n 0, 1) := by decide +kernel
theorem dX2_init_21 : decode cX2_init 21 = .ok (.bipush 60, 2) := by decide +kernel
theorem dX2_init_23 : decode cX2_init 23 = .ok (.newarray .int, 2) := by decide +kernel
theorem dX2_init_25 : decode cX2_init 25 = .ok (.putfield 19, 3) := by decide +kernel
theorem dX2_init_28 : decode cX2_init 28 = .ok (.aload_n 0, 1) := by decide +kernel
theorem dX2_init_29 : decode cX2_init 29 = .ok (.iconst 0, 1) := by decide +kernel
theorem dX2_init_30 : decode cX2_init 30 = .ok (.putfield 22, 3) := by decide +kernel
theorem dX2_init_33 : decode cX2_init 33 = .ok (.return_, 1) := by decide +kernel
theorem dX2_aligned_0 : decode cX2_aligned 0 = .ok (.lconst 0, 1) := by decide +kernel
theorem dX2_aligned_1 : decode cX2_aligned 1 = .ok (.lstore_n 2, 1) := by decide +kernel
theorem dX2_aligned_2 : decode cX2_aligned 2 = .ok (.bipush 56, 2) := by decide +kernel
theorem dX2_aligned_4 : decode cX2_aligned 4 = .ok (.istore 4, 2) := by decide +kernel
theorem dX2_aligned_6 : decode cX2_aligned 6 = .ok (.bipush 56, 2) := by decide +kernel
theorem dX2_aligned_8 : decode cX2_aligned 8 = .ok (.istore 5, 2) := by decide +kernel
theorem dX2_aligned_10 : decode cX2_aligned 10 = .ok (.iload 5, 2) := by decide +kernel
theorem dX2_aligned_12 : decode cX2_aligned 12 = .ok (.ifCond .lt 57, 3) := by decide +kernel
theorem dX2_aligned_15 : decode cX2_aligned 15 = .ok (.lload_n 0, 1) := by decide +kernel
theorem dX2_aligned_16 : decode cX2_aligned 16 = .ok (.iload 5, 2) := by decide +kernel
theorem dX2_aligned_18 : decode cX2_aligned 18 = .ok (.lushr, 1) := by decide +kernel
theorem dX2_aligned_19 : decode cX2_aligned 19 = .ok (.ldc2_w 26, 3) := by decide +kernel
theorem dX2_aligned_22 : decode cX2_aligned 22 = .ok (.land, 1) := by decide +kernel
theorem dX2_aligned_23 : decode cX2_aligned 23 = .ok (.lstore 6, 2) := by decide +kernel
theorem dX2_aligned_25 : decode cX2_aligned 25 = .ok (.lload 6, 2) := by decide +kernel
theorem dX2_aligned_27 : decode cX2_aligned 27 = .ok (.lconst 0, 1) := by decide +kernel
theorem dX2_aligned_28 : decode cX2_aligned 28 = .ok (.lcmp, 1) := by decide +kernel
theorem dX2_aligned_29 : decode cX2_aligned 29 = .ok (.ifCond .eq 34, 3) := by decide +kernel
theorem dX2_aligned_32 : decode cX2_aligned 32 = .ok (.lload 6, 2) := by decide +kernel
theorem dX2_aligned_34 : decode cX2_aligned 34 = .ok (.ldc2_w 28, 3) := by decide +kernel
theorem dX2_aligned_37 : decode cX2_aligned 37 = .ok (.lcmp, 1) := by decide +kernel
theorem dX2_aligned_38 : decode cX2_aligned 38 = .ok (.ifCond .lt 12, 3) := by decide +kernel
theorem dX2_aligned_41 : decode cX2_aligned 41 = .ok (.lload 6, 2) := by decide +kernel
theorem dX2_aligned_43 : decode cX2_aligned 43 = .ok (.ldc2_w 30, 3) := by decide +kernel
theorem dX2_aligned_46 : decode cX2_aligned 46 = .ok (.lcmp, 1) := by decide +kernel
theorem dX2_aligned_47 : decode cX2_aligned 47 = .ok (.ifCond .le 5, 3) := by decide +kernel
theorem dX2_aligned_50 : decode cX2_aligned 50 = .ok (.lconst 0, 1) := by decide +kernel
theorem dX2_aligned_51 : decode cX2_aligned 51 = .ok (.lreturn, 1) := by decide +kernel
theorem dX2_aligned_52 : decode cX2_aligned 52 = .ok (.lload_n 2, 1) := by decide +kernel
theorem dX2_aligned_53 : decode cX2_aligned 53 = .ok (.lload 6, 2) := by decide +kernel
theorem dX2_aligned_55 : decode cX2_aligned 55 = .ok (.iload 4, 2) := by decide +kernel
theorem dX2_aligned_57 : decode cX2_aligned 57 = .ok (.lshl, 1) := by decide +kernel
theorem dX2_aligned_58 : decode cX2_aligned 58 = .ok (.lor, 1) := by decide +kernel
theorem dX2_aligned_59 : decode cX2_aligned 59 = .ok (.lstore_n 2, 1) := by decide +kernel
theorem dX2_aligned_60 : decode cX2_aligned 60 = .ok (.iinc 4 (-8), 3) := by decide +kernel
theorem dX2_aligned_63 : decode cX2_aligned 63 = .ok (.iinc 5 (-8), 3) := by decide +kernel
theorem dX2_aligned_66 : decode cX2_aligned 66 = .ok (.goto (-56), 3) := by decide +kernel
theorem dX2_aligned_69 : decode cX2_aligned 69 = .ok (.lload_n 2, 1) := by decide +kernel
theorem dX2_aligned_70 : decode cX2_aligned 70 = .ok (.lreturn, 1) := by decide +kernel
theorem dX2_count_0 : decode cX2_count 0 = .ok (.aload_n 0, 1) := by decide +kernel
theorem dX2_count_1 : decode cX2_count 1 = .ok (.getfield 22, 3) := by decide +kernel
theorem dX2_count_4 : decode cX2_count 4 = .ok (.ireturn, 1) := by decide +kernel
theorem dX2_isFull_0 : decode cX2_isFull 0 = .ok (.aload_n 0, 1) := by decide +kernel
theorem dX2_isFull_1 : decode cX2_isFull 1 = .ok (.getfield 22, 3) := by decide +kernel
theorem dX2_isFull_4 : decode cX2_isFull 4 = .ok (.bipush 60, 2) := by decide +kernel
theorem dX2_isFull_6 : decode cX2_isFull 6 = .ok (.if_icmp .lt 7, 3) := by decide +kernel
theorem dX2_isFull_9 : decode cX2_isFull 9 = .ok (.iconst 1, 1) := by decide +kernel
theorem dX2_isFull_10 : decode cX2_isFull 10 = .ok (.goto 4, 3) := by decide +kernel
theorem dX2_isFull_13 : decode cX2_isFull 13 = .ok (.iconst 0, 1) := by decide +kernel
theorem dX2_isFull_14 : decode cX2_isFull 14 = .ok (.ireturn, 1) := by decide +kernel
theorem dX2_has_0 : decode cX2_has 0 = .ok (.iload_n 1, 1) := by decide +kernel
theorem dX2_has_1 : decode cX2_has 1 = .ok (.ifCond .lt 15, 3) := by decide +kernel
theorem dX2_has_4 : decode cX2_has 4 = .ok (.iload_n 1, 1) := by decide +kernel
theorem dX2_has_5 : decode cX2_has 5 = .ok (.aload_n 0, 1) := by decide +kernel
theorem dX2_has_6 : decode cX2_has 6 = .ok (.getfield 22, 3) := by decide +kernel
theorem dX2_has_9 : decode cX2_has 9 = .ok (.if_icmp .ge 7, 3) := by decide +kernel
theorem dX2_has_12 : decode cX2_has 12 = .ok (.iconst 1, 1) := by decide +kernel
theorem dX2_has_13 : decode cX2_has 13 = .ok (.goto 4, 3) := by decide +kernel
theorem dX2_has_16 : decode cX2_has 16 = .ok (.iconst 0, 1) := by decide +kernel
theorem dX2_has_17 : decode cX2_has 17 = .ok (.ireturn, 1) := by decide +kernel
theorem dX2_find_0 : decode cX2_find 0 = .ok (.iconst 0, 1) := by decide +kernel
theorem dX2_find_1 : decode cX2_find 1 = .ok (.istore 5, 2) := by decide +kernel
theorem dX2_find_3 : decode cX2_find 3 = .ok (.iload 5, 2) := by decide +kernel
theorem dX2_find_5 : decode cX2_find 5 = .ok (.aload_n 0, 1) := by decide +kernel
theorem dX2_find_6 : decode cX2_find 6 = .ok (.getfield 22, 3) := by decide +kernel
theorem dX2_find_9 : decode cX2_find 9 = .ok (.if_icmp .ge 47, 3) := by decide +kernel
theorem dX2_find_12 : decode cX2_find 12 = .ok (.aload_n 0, 1) := by decide +kernel
theorem dX2_find_13 : decode cX2_find 13 = .ok (.getfield 9, 3) := by decide +kernel
theorem dX2_find_16 : decode cX2_find 16 = .ok (.iload 5, 2) := by decide +kernel
theorem dX2_find_18 : decode cX2_find 18 = .ok (.laload, 1) := by decide +kernel
theorem dX2_find_19 : decode cX2_find 19 = .ok (.lload_n 1, 1) := by decide +kernel
theorem dX2_find_20 : decode cX2_find 20 = .ok (.lcmp, 1) := by decide +kernel
theorem dX2_find_21 : decode cX2_find 21 = .ok (.ifCond .ne 29, 3) := by decide +kernel
theorem dX2_find_24 : decode cX2_find 24 = .ok (.aload_n 0, 1) := by decide +kernel
theorem dX2_find_25 : decode cX2_find 25 = .ok (.getfield 15, 3) := by decide +kernel
theorem dX2_find_28 : decode cX2_find 28 = .ok (.iload 5, 2) := by decide +kernel
theorem dX2_find_30 : decode cX2_find 30 = .ok (.iaload, 1) := by decide +kernel
theorem dX2_find_31 : decode cX2_find 31 = .ok (.iload_n 3, 1) := by decide +kernel
theorem dX2_find_32 : decode cX2_find 32 = .ok (.if_icmp .ne 18, 3) := by decide +kernel
theorem dX2_find_35 : decode cX2_find 35 = .ok (.aload_n 0, 1) := by decide +kernel
theorem dX2_find_36 : decode cX2_find 36 = .ok (.getfield 19, 3) := by decide +kernel
theorem dX2_find_39 : decode cX2_find 39 = .ok (.iload 5, 2) := by decide +kernel
theorem dX2_find_41 : decode cX2_find 41 = .ok (.iaload, 1) := by decide +kernel
theorem dX2_find_42 : decode cX2_find 42 = .ok (.iload 4, 2) := by decide +kernel
theorem dX2_find_44 : decode cX2_find 44 = .ok (.if_icmp .ne 6, 3) := by decide +kernel
theorem dX2_find_47 : decode cX2_find 47 = .ok (.iload 5, 2) := by decide +kernel
theorem dX2_find_49 : decode cX2_find 49 = .ok (.ireturn, 1) := by decide +kernel
theorem dX2_find_50 : decode cX2_find 50 = .ok (.iinc 5 1, 3) := by decide +kernel
theorem dX2_find_53 : decode cX2_find 53 = .ok (.goto (-50), 3) := by decide +kernel
theorem dX2_find_56 : decode cX2_find 56 = .ok (.iconst (-1), 1) := by decide +kernel
theorem dX2_find_57 : decode cX2_find 57 = .ok (.ireturn, 1) := by decide +kernel
theorem dX2_add_0 : decode cX2_add 0 = .ok (.aload_n 0, 1) := by decide +kernel
theorem dX2_add_1 : decode cX2_add 1 = .ok (.getfield 22, 3) := by decide +kernel
theorem dX2_add_4 : decode cX2_add 4 = .ok (.istore 5, 2) := by decide +kernel
theorem dX2_add_6 : decode cX2_add 6 = .ok (.aload_n 0, 1) := by decide +kernel
theorem dX2_add_7 : decode cX2_add 7 = .ok (.getfield 9, 3) := by decide +kernel
theorem dX2_add_10 : decode cX2_add 10 = .ok (.iload 5, 2) := by decide +kernel
theorem dX2_add_12 : decode cX2_add 12 = .ok (.lload_n 1, 1) := by decide +kernel
theorem dX2_add_13 : decode cX2_add 13 = .ok (.lastore, 1) := by decide +kernel
theorem dX2_add_14 : decode cX2_add 14 = .ok (.aload_n 0, 1) := by decide +kernel
theorem dX2_add_15 : decode cX2_add 15 = .ok (.getfield 15, 3) := by decide +kernel
theorem dX2_add_18 : decode cX2_add 18 = .ok (.iload 5, 2) := by decide +kernel
theorem dX2_add_20 : decode cX2_add 20 = .ok (.iload_n 3, 1) := by decide +kernel
theorem dX2_add_21 : decode cX2_add 21 = .ok (.iastore, 1) := by decide +kernel
theorem dX2_add_22 : decode cX2_add 22 = .ok (.aload_n 0, 1) := by decide +kernel
theorem dX2_add_23 : decode cX2_add 23 = .ok (.getfield 19, 3) := by decide +kernel
theorem dX2_add_26 : decode cX2_add 26 = .ok (.iload 5, 2) := by decide +kernel
theorem dX2_add_28 : decode cX2_add 28 = .ok (.iload 4, 2) := by decide +kernel
theorem dX2_add_30 : decode cX2_add 30 = .ok (.iastore, 1) := by decide +kernel
theorem dX2_add_31 : decode cX2_add 31 = .ok (.aload_n 0, 1) := by decide +kernel
theorem dX2_add_32 : decode cX2_add 32 = .ok (.dup, 1) := by decide +kernel
theorem dX2_add_33 : decode cX2_add 33 = .ok (.getfield 22, 3) := by decide +kernel
theorem dX2_add_36 : decode cX2_add 36 = .ok (.iconst 1, 1) := by decide +kernel
theorem dX2_add_37 : decode cX2_add 37 = .ok (.iadd, 1) := by decide +kernel
theorem dX2_add_38 : decode cX2_add 38 = .ok (.putfield 22, 3) := by decide +kernel
theorem dX2_add_41 : decode cX2_add 41 = .ok (.iload 5, 2) := by decide +kernel
theorem dX2_add_43 : decode cX2_add 43 = .ok (.ireturn, 1) := by decide +kernel
theorem dX2_isText_0 : decode cX2_isText 0 = .ok (.aload_n 0, 1) := by decide +kernel
theorem dX2_isText_1 : decode cX2_isText 1 = .ok (.getfield 9, 3) := by decide +kernel
theorem dX2_isText_4 : decode cX2_isText 4 = .ok (.iload_n 1, 1) := by decide +kernel
theorem dX2_isText_5 : decode cX2_isText 5 = .ok (.laload, 1) := by decide +kernel
theorem dX2_isText_6 : decode cX2_isText 6 = .ok (.lconst 0, 1) := by decide +kernel
theorem dX2_isText_7 : decode cX2_isText 7 = .ok (.lcmp, 1) := by decide +kernel
theorem dX2_isText_8 : decode cX2_isText 8 = .ok (.ifCond .eq 7, 3) := by decide +kernel
theorem dX2_isText_11 : decode cX2_isText 11 = .ok (.iconst 1, 1) := by decide +kernel
theorem dX2_isText_12 : decode cX2_isText 12 = .ok (.goto 4, 3) := by decide +kernel
theorem dX2_isText_15 : decode cX2_isText 15 = .ok (.iconst 0, 1) := by decide +kernel
theorem dX2_isText_16 : decode cX2_isText 16 = .ok (.ireturn, 1) := by decide +kernel
theorem dX2_thousandths_0 : decode cX2_thousandths 0 = .ok (.aload_n 0, 1) := by decide +kernel
theorem dX2_thousandths_1 : decode cX2_thousandths 1 = .ok (.getfield 15, 3) := by decide +kernel
theorem dX2_thousandths_4 : decode cX2_thousandths 4 = .ok (.iload_n 1, 1) := by decide +kernel
theorem dX2_thousandths_5 : decode cX2_thousandths 5 = .ok (.iaload, 1) := by decide +kernel
theorem dX2_thousandths_6 : decode cX2_thousandths 6 = .ok (.i2l, 1) := by decide +kernel
theorem dX2_thousandths_7 : decode cX2_thousandths 7 = .ok (.getstatic 32, 3) := by decide +kernel
theorem dX2_thousandths_10 : decode cX2_thousandths 10 = .ok (.iconst 3, 1) := by decide +kernel
theorem dX2_thousandths_11 : decode cX2_thousandths 11 = .ok (.aload_n 0, 1) := by decide +kernel
theorem dX2_thousandths_12 : decode cX2_thousandths 12 = .ok (.getfield 19, 3) := by decide +kernel
theorem dX2_thousandths_15 : decode cX2_thousandths 15 = .ok (.iload_n 1, 1) := by decide +kernel
theorem dX2_thousandths_16 : decode cX2_thousandths 16 = .ok (.iaload, 1) := by decide +kernel
theorem dX2_thousandths_17 : decode cX2_thousandths 17 = .ok (.isub, 1) := by decide +kernel
theorem dX2_thousandths_18 : decode cX2_thousandths 18 = .ok (.iaload, 1) := by decide +kernel
theorem dX2_thousandths_19 : decode cX2_thousandths 19 = .ok (.i2l, 1) := by decide +kernel
theorem dX2_thousandths_20 : decode cX2_thousandths 20 = .ok (.lmul, 1) := by decide +kernel
theorem dX2_thousandths_21 : decode cX2_thousandths 21 = .ok (.lreturn, 1) := by decide +kernel
set_option maxRecDepth 20000 in
theorem ggX2_order_X2_thousandths : GoodIn wsX2_order wsX2_thousandths := goodIn_r _ [6, 7, 8, 9, 14, 15, 16, 17] (by decide +kernel) (by decide +kernel)
set_option maxRecDepth 20000 in
theorem gX2_order_X2_thousandths : GoodIn wsX2_order (wsV RX2 35 RX2 yX2_thousandths wsX2_thousandths) := goodIn_app (goodIn_of _ (by decide +kernel)) ggX2_order_X2_thousandths
set_option maxRecDepth 20000 in
theorem ggX2_order_J13_compare_74951 : GoodIn wsX2_order wsJ13_compare_74951 := goodIn_r _ [13] (by decide +kernel) (by decide +kernel)
set_option maxRecDepth 20000 in
theorem gX2_order_J13_compare_74951 : GoodIn wsX2_order (va_wsS RX2 39 yJ13_compare_74951 wsJ13_compare_74951) := goodIn_app (goodIn_of _ (by decide +kernel)) ggX2_order_J13_compare_74951
theorem dX2_order_0 : decode cX2_order 0 = .ok (.aload_n 0, 1) := by decide +kernel
theorem dX2_order_1 : decode cX2_order 1 = .ok (.getfield 9, 3) := by decide +kernel
theorem dX2_order_4 : decode cX2_order 4 = .ok (.iload_n 1, 1) := by decide +kernel
theorem dX2_order_5 : decode cX2_order 5 = .ok (.laload, 1) := by decide +kernel
theorem dX2_order_6 : decode cX2_order 6 = .ok (.aload_n 0, 1) := by decide +kernel
theorem dX2_order_7 : decode cX2_order 7 = .ok (.getfield 9, 3) := by decide +kernel
theorem dX2_order_10 : decode cX2_order 10 = .ok (.iload_n 2, 1) := by decide +kernel
theorem dX2_order_11 : decode cX2_order 11 = .ok (.laload, 1) := by decide +kernel
theorem dX2_order_12 : decode cX2_order 12 = .ok (.lcmp, 1) := by decide +kernel
theorem dX2_order_13 : decode cX2_order 13 = .ok (.ifCond .eq 25, 3) := by decide +kernel
theorem dX2_order_16 : decode cX2_order 16 = .ok (.aload_n 0, 1) := by decide +kernel
theorem dX2_order_17 : decode cX2_order 17 = .ok (.getfield 9, 3) := by decide +kernel
theorem dX2_order_20 : decode cX2_order 20 = .ok (.iload_n 1, 1) := by decide +kernel
theorem dX2_order_21 : decode cX2_order 21 = .ok (.laload, 1) := by decide +kernel
theorem dX2_order_22 : decode cX2_order 22 = .ok (.aload_n 0, 1) := by decide +kernel
theorem dX2_order_23 : decode cX2_order 23 = .ok (.getfield 9, 3) := by decide +kernel
theorem dX2_order_26 : decode cX2_order 26 = .ok (.iload_n 2, 1) := by decide +kernel
theorem dX2_order_27 : decode cX2_order 27 = .ok (.laload, 1) := by decide +kernel
theorem dX2_order_28 : decode cX2_order 28 = .ok (.lcmp, 1) := by decide +kernel
theorem dX2_order_29 : decode cX2_order 29 = .ok (.ifCond .ge 7, 3) := by decide +kernel
theorem dX2_order_32 : decode cX2_order 32 = .ok (.iconst (-1), 1) := by decide +kernel
theorem dX2_order_33 : decode cX2_order 33 = .ok (.goto 4, 3) := by decide +kernel
theorem dX2_order_36 : decode cX2_order 36 = .ok (.iconst 1, 1) := by decide +kernel
theorem dX2_order_37 : decode cX2_order 37 = .ok (.ireturn, 1) := by decide +kernel
theorem dX2_order_38 : decode cX2_order 38 = .ok (.aload_n 0, 1) := by decide +kernel
theorem dX2_order_39 : decode cX2_order 39 = .ok (.iload_n 1, 1) := by decide +kernel
theorem dX2_order_40 : decode cX2_order 40 = .ok (.invokevirtual 35, 3) := by decide +kernel
theorem dX2_order_43 : decode cX2_order 43 = .ok (.aload_n 0, 1) := by decide +kernel
theorem dX2_order_44 : decode cX2_order 44 = .ok (.iload_n 2, 1) := by decide +kernel
theorem dX2_order_45 : decode cX2_order 45 = .ok (.invokevirtual 35, 3) := by decide +kernel
theorem dX2_order_48 : decode cX2_order 48 = .ok (.invokestatic 39, 3) := by decide +kernel
theorem dX2_order_51 : decode cX2_order 51 = .ok (.ireturn, 1) := by decide +kernel
set_option maxRecDepth 20000 in
theorem ggX2_write_X2_isText : GoodIn wsX2_write wsX2_isText := goodIn_r _ [8, 1, 28, 29, 30, 31] (by decide +kernel) (by decide +kernel)
set_option maxRecDepth 20000 in
theorem gX2_write_X2_isText : GoodIn wsX2_write (wsV RX2 45 RX2 yX2_isText wsX2_isText) := goodIn_app (goodIn_of _ (by decide +kernel)) ggX2_write_X2_isText
set_option maxRecDepth 20000 in
theorem ggX2_write_X2_writeLetters : GoodIn wsX2_write wsX2_writeLetters := goodIn_r _ [11, 12, 13, 14, 15, 16, 17, 18, 19, 32, 33, 34, 35, 36, 37, 38, 39, 40, 41, 42, 43] (by decide +kernel) (by decide +kernel)
set_option maxRecDepth 20000 in
theorem gX2_write_X2_writeLetters : GoodIn wsX2_write (va_wsS RX2 49 yX2_writeLetters wsX2_writeLetters) := goodIn_app (goodIn_of _ (by decide +kernel)) ggX2_write_X2_writeLetters
set_option maxRecDepth 20000 in
theorem ggX2_write_X2_writeNumber : GoodIn wsX2_write wsX2_writeNumber := goodIn_r _ [22, 23, 24, 25, 26, 27, 13, 14, 15, 16, 17, 18, 19, 32, 33, 34, 35, 36, 37, 38, 39, 40, 41, 42, 43] (by decide +kernel) (by decide +kernel)
set_option maxRecDepth 20000 in
theorem gX2_write_X2_writeNumber : GoodIn wsX2_write (va_wsS RX2 53 yX2_writeNumber wsX2_writeNumber) := goodIn_app (goodIn_of _ (by decide +kernel)) ggX2_write_X2_writeNumber
theorem dX2_write_0 : decode cX2_write 0 = .ok (.aload_n 0, 1) := by decide +kernel
theorem dX2_write_1 : decode cX2_write 1 = .ok (.iload_n 1, 1) := by decide +kernel
theorem dX2_write_2 : decode cX2_write 2 = .ok (.invokevirtual 45, 3) := by decide +kernel
theorem dX2_write_5 : decode cX2_write 5 = .ok (.ifCond .eq 16, 3) := by decide +kernel
theorem dX2_write_8 : decode cX2_write 8 = .ok (.aload_n 0, 1) := by decide +kernel
theorem dX2_write_9 : decode cX2_write 9 = .ok (.getfield 9, 3) := by decide +kernel
theorem dX2_write_12 : decode cX2_write 12 = .ok (.iload_n 1, 1) := by decide +kernel
theorem dX2_write_13 : decode cX2_write 13 = .ok (.laload, 1) := by decide +kernel
theorem dX2_write_14 : decode cX2_write 14 = .ok (.aload_n 2, 1) := by decide +kernel
theorem dX2_write_15 : decode cX2_write 15 = .ok (.invokestatic 49, 3) := by decide +kernel
theorem dX2_write_18 : decode cX2_write 18 = .ok (.goto 19, 3) := by decide +kernel
theorem dX2_write_21 : decode cX2_write 21 = .ok (.aload_n 0, 1) := by decide +kernel
theorem dX2_write_22 : decode cX2_write 22 = .ok (.getfield 15, 3) := by decide +kernel
theorem dX2_write_25 : decode cX2_write 25 = .ok (.iload_n 1, 1) := by decide +kernel
theorem dX2_write_26 : decode cX2_write 26 = .ok (.iaload, 1) := by decide +kernel
theorem dX2_write_27 : decode cX2_write 27 = .ok (.aload_n 0, 1) := by decide +kernel
theorem dX2_write_28 : decode cX2_write 28 = .ok (.getfield 19, 3) := by decide +kernel
theorem dX2_write_31 : decode cX2_write 31 = .ok (.iload_n 1, 1) := by decide +kernel
theorem dX2_write_32 : decode cX2_write 32 = .ok (.iaload, 1) := by decide +kernel
theorem dX2_write_33 : decode cX2_write 33 = .ok (.aload_n 2, 1) := by decide +kernel
theorem dX2_write_34 : decode cX2_write 34 = .ok (.invokestatic 53, 3) := by decide +kernel
theorem dX2_write_37 : decode cX2_write 37 = .ok (.return_, 1) := by decide +kernel
set_option maxRecDepth 20000 in
theorem ggX2_writeLetters_X0_put : GoodIn wsX2_writeLetters wsX0_put := goodIn_r _ [6, 7, 8, 9, 10, 11, 12, 13, 14, 15, 16, 17, 18, 19, 20] (by decide +kernel) (by decide +kernel)
set_option maxRecDepth 20000 in
theorem gX2_writeLetters_X0_put : GoodIn wsX2_writeLetters (wsV RX2 57 RX0 yX0_put wsX0_put) := goodIn_app (goodIn_of _ (by decide +kernel)) ggX2_writeLetters_X0_put
theorem dX2_writeLetters_0 : decode cX2_writeLetters 0 = .ok (.bipush 56, 2) := by decide +kernel
theorem dX2_writeLetters_2 : decode cX2_writeLetters 2 = .ok (.istore_n 3, 1) := by decide +kernel
theorem dX2_writeLetters_3 : decode cX2_writeLetters 3 = .ok (.iload_n 3, 1) := by decide +kernel
theorem dX2_writeLetters_4 : decode cX2_writeLetters 4 = .ok (.ifCond .lt 33, 3) := by decide +kernel
theorem dX2_writeLetters_7 : decode cX2_writeLetters 7 = .ok (.lload_n 0, 1) := by decide +kernel
theorem dX2_writeLetters_8 : decode cX2_writeLetters 8 = .ok (.iload_n 3, 1) := by decide +kernel
theorem dX2_writeLetters_9 : decode cX2_writeLetters 9 = .ok (.lushr, 1) := by decide +kernel
theorem dX2_writeLetters_10 : decode cX2_writeLetters 10 = .ok (.ldc2_w 26, 3) := by decide +kernel
theorem dX2_writeLetters_13 : decode cX2_writeLetters 13 = .ok (.land, 1) := by decide +kernel
theorem dX2_writeLetters_14 : decode cX2_writeLetters 14 = .ok (.lstore 4, 2) := by decide +kernel
theorem dX2_writeLetters_16 : decode cX2_writeLetters 16 = .ok (.lload 4, 2) := by decide +kernel
theorem dX2_writeLetters_18 : decode cX2_writeLetters 18 = .ok (.lconst 0, 1) := by decide +kernel
theorem dX2_writeLetters_19 : decode cX2_writeLetters 19 = .ok (.lcmp, 1) := by decide +kernel
theorem dX2_writeLetters_20 : decode cX2_writeLetters 20 = .ok (.ifCond .eq 11, 3) := by decide +kernel
theorem dX2_writeLetters_23 : decode cX2_writeLetters 23 = .ok (.aload_n 2, 1) := by decide +kernel
theorem dX2_writeLetters_24 : decode cX2_writeLetters 24 = .ok (.lload 4, 2) := by decide +kernel
theorem dX2_writeLetters_26 : decode cX2_writeLetters 26 = .ok (.l2i, 1) := by decide +kernel
theorem dX2_writeLetters_27 : decode cX2_writeLetters 27 = .ok (.i2c, 1) := by decide +kernel
theorem dX2_writeLetters_28 : decode cX2_writeLetters 28 = .ok (.invokevirtual 57, 3) := by decide +kernel
theorem dX2_writeLetters_31 : decode cX2_writeLetters 31 = .ok (.iinc 3 (-8), 3) := by decide +kernel
theorem dX2_writeLetters_34 : decode cX2_writeLetters 34 = .ok (.goto (-31), 3) := by decide +kernel
theorem dX2_writeLetters_37 : decode cX2_writeLetters 37 = .ok (.return_, 1) := by decide +kernel
set_option maxRecDepth 20000 in
theorem ggX2_writeNumber_X0_put : GoodIn wsX2_writeNumber wsX0_put := goodIn_r _ [10, 11, 12, 13, 14, 15, 16, 17, 18, 19, 20, 21, 22, 23, 24] (by decide +kernel) (by decide +kernel)
set_option maxRecDepth 20000 in
theorem gX2_writeNumber_X0_put : GoodIn wsX2_writeNumber (wsV RX2 57 RX0 yX0_put wsX0_put) := goodIn_app (goodIn_of _ (by decide +kernel)) ggX2_writeNumber_X0_put
theorem dX2_writeNumber_0 : decode cX2_writeNumber 0 = .ok (.iload_n 0, 1) := by decide +kernel
theorem dX2_writeNumber_1 : decode cX2_writeNumber 1 = .ok (.ifCond .ge 9, 3) := by decide +kernel
theorem dX2_writeNumber_4 : decode cX2_writeNumber 4 = .ok (.aload_n 2, 1) := by decide +kernel
theorem dX2_writeNumber_5 : decode cX2_writeNumber 5 = .ok (.bipush 45, 2) := by decide +kernel
theorem dX2_writeNumber_7 : decode cX2_writeNumber 7 = .ok (.invokevirtual 57, 3) := by decide +kernel
theorem dX2_writeNumber_10 : decode cX2_writeNumber 10 = .ok (.iload_n 0, 1) := by decide +kernel
theorem dX2_writeNumber_11 : decode cX2_writeNumber 11 = .ok (.invokestatic 63, 3) := by decide +kernel
theorem dX2_writeNumber_14 : decode cX2_writeNumber 14 = .ok (.istore_n 3, 1) := by decide +kernel
theorem dX2_writeNumber_15 : decode cX2_writeNumber 15 = .ok (.iconst 0, 1) := by decide +kernel
theorem dX2_writeNumber_16 : decode cX2_writeNumber 16 = .ok (.istore 4, 2) := by decide +kernel
theorem dX2_writeNumber_18 : decode cX2_writeNumber 18 = .ok (.getstatic 32, 3) := by decide +kernel
theorem dX2_writeNumber_21 : decode cX2_writeNumber 21 = .ok (.arraylength, 1) := by decide +kernel
theorem dX2_writeNumber_22 : decode cX2_writeNumber 22 = .ok (.iconst 1, 1) := by decide +kernel
theorem dX2_writeNumber_23 : decode cX2_writeNumber 23 = .ok (.isub, 1) := by decide +kernel
theorem dX2_writeNumber_24 : decode cX2_writeNumber 24 = .ok (.istore 5, 2) := by decide +kernel
theorem dX2_writeNumber_26 : decode cX2_writeNumber 26 = .ok (.iload 5, 2) := by decide +kernel
theorem dX2_writeNumber_28 : decode cX2_writeNumber 28 = .ok (.ifCond .lt 76, 3) := by decide +kernel
theorem dX2_writeNumber_31 : decode cX2_writeNumber 31 = .ok (.iload_n 3, 1) := by decide +kernel
theorem dX2_writeNumber_32 : decode cX2_writeNumber 32 = .ok (.getstatic 32, 3) := by decide +kernel
theorem dX2_writeNumber_35 : decode cX2_writeNumber 35 = .ok (.iload 5, 2) := by decide +kernel
theorem dX2_writeNumber_37 : decode cX2_writeNumber 37 = .ok (.iaload, 1) := by decide +kernel
theorem dX2_writeNumber_38 : decode cX2_writeNumber 38 = .ok (.idiv, 1) := by decide +kernel
theorem dX2_writeNumber_39 : decode cX2_writeNumber 39 = .ok (.bipush 10, 2) := by decide +kernel
theorem dX2_writeNumber_41 : decode cX2_writeNumber 41 = .ok (.irem, 1) := by decide +kernel
theorem dX2_writeNumber_42 : decode cX2_writeNumber 42 = .ok (.istore 6, 2) := by decide +kernel
theorem dX2_writeNumber_44 : decode cX2_writeNumber 44 = .ok (.iload 4, 2) := by decide +kernel
theorem dX2_writeNumber_46 : decode cX2_writeNumber 46 = .ok (.ifCond .ne 14, 3) := by decide +kernel
theorem dX2_writeNumber_49 : decode cX2_writeNumber 49 = .ok (.iload 6, 2) := by decide +kernel
theorem dX2_writeNumber_51 : decode cX2_writeNumber 51 = .ok (.ifCond .ne 9, 3) := by decide +kernel
theorem dX2_writeNumber_54 : decode cX2_writeNumber 54 = .ok (.iload 5, 2) := by decide +kernel
theorem dX2_writeNumber_56 : decode cX2_writeNumber 56 = .ok (.iload_n 1, 1) := by decide +kernel
theorem dX2_writeNumber_57 : decode cX2_writeNumber 57 = .ok (.if_icmp .ne 7, 3) := by decide +kernel
theorem dX2_writeNumber_60 : decode cX2_writeNumber 60 = .ok (.iconst 1, 1) := by decide +kernel
theorem dX2_writeNumber_61 : decode cX2_writeNumber 61 = .ok (.goto 4, 3) := by decide +kernel
theorem dX2_writeNumber_64 : decode cX2_writeNumber 64 = .ok (.iconst 0, 1) := by decide +kernel
theorem dX2_writeNumber_65 : decode cX2_writeNumber 65 = .ok (.istore 4, 2) := by decide +kernel
theorem dX2_writeNumber_67 : decode cX2_writeNumber 67 = .ok (.iload 4, 2) := by decide +kernel
theorem dX2_writeNumber_69 : decode cX2_writeNumber 69 = .ok (.ifCond .eq 13, 3) := by decide +kernel
theorem dX2_writeNumber_72 : decode cX2_writeNumber 72 = .ok (.aload_n 2, 1) := by decide +kernel
theorem dX2_writeNumber_73 : decode cX2_writeNumber 73 = .ok (.bipush 48, 2) := by decide +kernel
theorem dX2_writeNumber_75 : decode cX2_writeNumber 75 = .ok (.iload 6, 2) := by decide +kernel
theorem dX2_writeNumber_77 : decode cX2_writeNumber 77 = .ok (.iadd, 1) := by decide +kernel
theorem dX2_writeNumber_78 : decode cX2_writeNumber 78 = .ok (.i2c, 1) := by decide +kernel
theorem dX2_writeNumber_79 : decode cX2_writeNumber 79 = .ok (.invokevirtual 57, 3) := by decide +kernel
theorem dX2_writeNumber_82 : decode cX2_writeNumber 82 = .ok (.iload 5, 2) := by decide +kernel
theorem dX2_writeNumber_84 : decode cX2_writeNumber 84 = .ok (.iload_n 1, 1) := by decide +kernel
theorem dX2_writeNumber_85 : decode cX2_writeNumber 85 = .ok (.if_icmp .ne 13, 3) := by decide +kernel
theorem dX2_writeNumber_88 : decode cX2_writeNumber 88 = .ok (.iload_n 1, 1) := by decide +kernel
theorem dX2_writeNumber_89 : decode cX2_writeNumber 89 = .ok (.ifCond .le 9, 3) := by decide +kernel
theorem dX2_writeNumber_92 : decode cX2_writeNumber 92 = .ok (.aload_n 2, 1) := by decide +kernel
theorem dX2_writeNumber_93 : decode cX2_writeNumber 93 = .ok (.bipush 46, 2) := by decide +kernel
theorem dX2_writeNumber_95 : decode cX2_writeNumber 95 = .ok (.invokevirtual 57, 3) := by decide +kernel
theorem dX2_writeNumber_98 : decode cX2_writeNumber 98 = .ok (.iinc 5 (-1), 3) := by decide +kernel
theorem dX2_writeNumber_101 : decode cX2_writeNumber 101 = .ok (.goto (-75), 3) := by decide +kernel
theorem dX2_writeNumber_104 : decode cX2_writeNumber 104 = .ok (.return_, 1) := by decide +kernel
theorem dX3_init_0 : decode cX3_init 0 = .ok (.aload_n 0, 1) := by decide +kernel
theorem dX3_init_1 : decode cX3_init 1 = .ok (.invokespecial 3, 3) := by decide +kernel
theorem dX3_init_4 : decode cX3_init 4 = .ok (.aload_n 0, 1) := by decide +kernel
theorem dX3_init_5 : decode cX3_init 5 = .ok (.bipush 60, 2) := by decide +kernel
theorem dX3_init_7 : decode cX3_init 7 = .ok (.newarray .int, 2) := by decide +kernel
theorem dX3_init_9 : decode cX3_init 9 = .ok (.putfield 9, 3) := by decide +kernel
theorem dX3_init_12 : decode cX3_init 12 = .ok (.aload_n 0, 1) := by decide +kernel
theorem dX3_init_13 : decode cX3_init 13 = .ok (.iconst 0, 1) := by decide +kernel
theorem dX3_init_14 : decode cX3_init 14 = .ok (.putfield 15, 3) := by decide +kernel
theorem dX3_init_17 : decode cX3_init 17 = .ok (.return_, 1) := by decide +kernel
theorem dX3_clear_0 : decode cX3_clear 0 = .ok (.aload_n 0, 1) := by decide +kernel
theorem dX3_clear_1 : decode cX3_clear 1 = .ok (.iconst 0, 1) := by decide +kernel
theorem dX3_clear_2 : decode cX3_clear 2 = .ok (.putfield 15, 3) := by decide +kernel
theorem dX3_clear_5 : decode cX3_clear 5 = .ok (.return_, 1) := by decide +kernel
theorem dX3_add_0 : decode cX3_add 0 = .ok (.aload_n 0, 1) := by decide +kernel
theorem dX3_add_1 : decode cX3_add 1 = .ok (.getfield 9, 3) := by decide +kernel
theorem dX3_add_4 : decode cX3_add 4 = .ok (.aload_n 0, 1) := by decide +kernel
theorem dX3_add_5 : decode cX3_add 5 = .ok (.getfield 15, 3) := by decide +kernel
theorem dX3_add_8 : decode cX3_add 8 = .ok (.iload_n 1, 1) := by decide +kernel
theorem dX3_add_9 : decode cX3_add 9 = .ok (.iastore, 1) := by decide +kernel
theorem dX3_add_10 : decode cX3_add 10 = .ok (.aload_n 0, 1) := by decide +kernel
theorem dX3_add_11 : decode cX3_add 11 = .ok (.dup, 1) := by decide +kernel
theorem dX3_add_12 : decode cX3_add 12 = .ok (.getfield 15, 3) := by decide +kernel
theorem dX3_add_15 : decode cX3_add 15 = .ok (.iconst 1, 1) := by decide +kernel
theorem dX3_add_16 : decode cX3_add 16 = .ok (.iadd, 1) := by decide +kernel
theorem dX3_add_17 : decode cX3_add 17 = .ok (.putfield 15, 3) := by decide +kernel
theorem dX3_add_20 : decode cX3_add 20 = .ok (.return_, 1) := by decide +kernel
theorem dX3_count_0 : decode cX3_count 0 = .ok (.aload_n 0, 1) := by decide +kernel
theorem dX3_count_1 : decode cX3_count 1 = .ok (.getfield 15, 3) := by decide +kernel
theorem dX3_count_4 : decode cX3_count 4 = .ok (.ireturn, 1) := by decide +kernel
theorem dX3_at_0 : decode cX3_at 0 = .ok (.aload_n 0, 1) := by decide +kernel
theorem dX3_at_1 : decode cX3_at 1 = .ok (.getfield 9, 3) := by decide +kernel
theorem dX3_at_4 : decode cX3_at 4 = .ok (.iload_n 1, 1) := by decide +kernel
theorem dX3_at_5 : decode cX3_at 5 = .ok (.iaload, 1) := by decide +kernel
theorem dX3_at_6 : decode cX3_at 6 = .ok (.ireturn, 1) := by decide +kernel
set_option maxRecDepth 20000 in
theorem ggX3_haveEqual_X2_order : GoodIn wsX3_haveEqual wsX2_order := goodIn_r _ [7, 8, 9, 10, 11, 6, 12, 13, 14, 15, 16, 17, 18, 19, 22, 23, 24, 25] (by decide +kernel) (by decide +kernel)
set_option maxRecDepth 20000 in
theorem gX3_haveEqual_X2_order : GoodIn wsX3_haveEqual (wsV RX3 19 RX2 yX2_order wsX2_order) := goodIn_app (goodIn_of _ (by decide +kernel)) ggX3_haveEqual_X2_order
theorem dX3_haveEqual_0 : decode cX3_haveEqual 0 = .ok (.iconst 0, 1) := by decide +kernel
theorem dX3_haveEqual_1 : decode cX3_haveEqual 1 = .ok (.istore_n 3, 1) := by decide +kernel
theorem dX3_haveEqual_2 : decode cX3_haveEqual 2 = .ok (.iload_n 3, 1) := by decide +kernel
theorem dX3_haveEqual_3 : decode cX3_haveEqual 3 = .ok (.aload_n 0, 1) := by decide +kernel
theorem dX3_haveEqual_4 : decode cX3_haveEqual 4 = .ok (.getfield 15, 3) := by decide +kernel
theorem dX3_haveEqual_7 : decode cX3_haveEqual 7 = .ok (.if_icmp .ge 25, 3) := by decide +kernel
theorem dX3_haveEqual_10 : decode cX3_haveEqual 10 = .ok (.aload_n 1, 1) := by decide +kernel
theorem dX3_haveEqual_11 : decode cX3_haveEqual 11 = .ok (.aload_n 0, 1) := by decide +kernel
theorem dX3_haveEqual_12 : decode cX3_haveEqual 12 = .ok (.getfield 9, 3) := by decide +kernel
theorem dX3_haveEqual_15 : decode cX3_haveEqual 15 = .ok (.iload_n 3, 1) := by decide +kernel
theorem dX3_haveEqual_16 : decode cX3_haveEqual 16 = .ok (.iaload, 1) := by decide +kernel
theorem dX3_haveEqual_17 : decode cX3_haveEqual 17 = .ok (.iload_n 2, 1) := by decide +kernel
theorem dX3_haveEqual_18 : decode cX3_haveEqual 18 = .ok (.invokevirtual 19, 3) := by decide +kernel
theorem dX3_haveEqual_21 : decode cX3_haveEqual 21 = .ok (.ifCond .ne 5, 3) := by decide +kernel
theorem dX3_haveEqual_24 : decode cX3_haveEqual 24 = .ok (.iconst 1, 1) := by decide +kernel
theorem dX3_haveEqual_25 : decode cX3_haveEqual 25 = .ok (.ireturn, 1) := by decide +kernel
theorem dX3_haveEqual_26 : decode cX3_haveEqual 26 = .ok (.iinc 3 1, 3) := by decide +kernel
theorem dX3_haveEqual_29 : decode cX3_haveEqual 29 = .ok (.goto (-27), 3) := by decide +kernel
theorem dX3_haveEqual_32 : decode cX3_haveEqual 32 = .ok (.iconst 0, 1) := by decide +kernel
theorem dX3_haveEqual_33 : decode cX3_haveEqual 33 = .ok (.ireturn, 1) := by decide +kernel
set_option maxRecDepth 20000 in
theorem ggX3_haveText_X2_isText : GoodIn wsX3_haveText wsX2_isText := goodIn_r _ [7, 8, 11, 12, 13, 14] (by decide +kernel) (by decide +kernel)
set_option maxRecDepth 20000 in
theorem gX3_haveText_X2_isText : GoodIn wsX3_haveText (wsV RX3 25 RX2 yX2_isText wsX2_isText) := goodIn_app (goodIn_of _ (by decide +kernel)) ggX3_haveText_X2_isText
theorem dX3_haveText_0 : decode cX3_haveText 0 = .ok (.iconst 0, 1) := by decide +kernel
theorem dX3_haveText_1 : decode cX3_haveText 1 = .ok (.istore_n 2, 1) := by decide +kernel
theorem dX3_haveText_2 : decode cX3_haveText 2 = .ok (.iload_n 2, 1) := by decide +kernel
theorem dX3_haveText_3 : decode cX3_haveText 3 = .ok (.aload_n 0, 1) := by decide +kernel
theorem dX3_haveText_4 : decode cX3_haveText 4 = .ok (.getfield 15, 3) := by decide +kernel
theorem dX3_haveText_7 : decode cX3_haveText 7 = .ok (.if_icmp .ge 24, 3) := by decide +kernel
theorem dX3_haveText_10 : decode cX3_haveText 10 = .ok (.aload_n 1, 1) := by decide +kernel
theorem dX3_haveText_11 : decode cX3_haveText 11 = .ok (.aload_n 0, 1) := by decide +kernel
theorem dX3_haveText_12 : decode cX3_haveText 12 = .ok (.getfield 9, 3) := by decide +kernel
theorem dX3_haveText_15 : decode cX3_haveText 15 = .ok (.iload_n 2, 1) := by decide +kernel
theorem dX3_haveText_16 : decode cX3_haveText 16 = .ok (.iaload, 1) := by decide +kernel
theorem dX3_haveText_17 : decode cX3_haveText 17 = .ok (.invokevirtual 25, 3) := by decide +kernel
theorem dX3_haveText_20 : decode cX3_haveText 20 = .ok (.ifCond .eq 5, 3) := by decide +kernel
theorem dX3_haveText_23 : decode cX3_haveText 23 = .ok (.iconst 1, 1) := by decide +kernel
theorem dX3_haveText_24 : decode cX3_haveText 24 = .ok (.ireturn, 1) := by decide +kernel
theorem dX3_haveText_25 : decode cX3_haveText 25 = .ok (.iinc 2 1, 3) := by decide +kernel
theorem dX3_haveText_28 : decode cX3_haveText 28 = .ok (.goto (-26), 3) := by decide +kernel
theorem dX3_haveText_31 : decode cX3_haveText 31 = .ok (.iconst 0, 1) := by decide +kernel
theorem dX3_haveText_32 : decode cX3_haveText 32 = .ok (.ireturn, 1) := by decide +kernel
set_option maxRecDepth 20000 in
theorem ggX3_sum_X2_thousandths : GoodIn wsX3_sum wsX2_thousandths := goodIn_r _ [7, 8, 9, 10, 13, 14, 15, 16] (by decide +kernel) (by decide +kernel)
set_option maxRecDepth 20000 in
theorem gX3_sum_X2_thousandths : GoodIn wsX3_sum (wsV RX3 29 RX2 yX2_thousandths wsX2_thousandths) := goodIn_app (goodIn_of _ (by decide +kernel)) ggX3_sum_X2_thousandths
theorem dX3_sum_0 : decode cX3_sum 0 = .ok (.lconst 0, 1) := by decide +kernel
theorem dX3_sum_1 : decode cX3_sum 1 = .ok (.lstore_n 2, 1) := by decide +kernel
theorem dX3_sum_2 : decode cX3_sum 2 = .ok (.iconst 0, 1) := by decide +kernel
theorem dX3_sum_3 : decode cX3_sum 3 = .ok (.istore 4, 2) := by decide +kernel
theorem dX3_sum_5 : decode cX3_sum 5 = .ok (.iload 4, 2) := by decide +kernel
theorem dX3_sum_7 : decode cX3_sum 7 = .ok (.aload_n 0, 1) := by decide +kernel
theorem dX3_sum_8 : decode cX3_sum 8 = .ok (.getfield 15, 3) := by decide +kernel
theorem dX3_sum_11 : decode cX3_sum 11 = .ok (.if_icmp .ge 23, 3) := by decide +kernel
theorem dX3_sum_14 : decode cX3_sum 14 = .ok (.lload_n 2, 1) := by decide +kernel
theorem dX3_sum_15 : decode cX3_sum 15 = .ok (.aload_n 1, 1) := by decide +kernel
theorem dX3_sum_16 : decode cX3_sum 16 = .ok (.aload_n 0, 1) := by decide +kernel
theorem dX3_sum_17 : decode cX3_sum 17 = .ok (.getfield 9, 3) := by decide +kernel
theorem dX3_sum_20 : decode cX3_sum 20 = .ok (.iload 4, 2) := by decide +kernel
theorem dX3_sum_22 : decode cX3_sum 22 = .ok (.iaload, 1) := by decide +kernel
theorem dX3_sum_23 : decode cX3_sum 23 = .ok (.invokevirtual 29, 3) := by decide +kernel
theorem dX3_sum_26 : decode cX3_sum 26 = .ok (.ladd, 1) := by decide +kernel
theorem dX3_sum_27 : decode cX3_sum 27 = .ok (.lstore_n 2, 1) := by decide +kernel
theorem dX3_sum_28 : decode cX3_sum 28 = .ok (.iinc 4 1, 3) := by decide +kernel
theorem dX3_sum_31 : decode cX3_sum 31 = .ok (.goto (-26), 3) := by decide +kernel
theorem dX3_sum_34 : decode cX3_sum 34 = .ok (.lload_n 2, 1) := by decide +kernel
theorem dX3_sum_35 : decode cX3_sum 35 = .ok (.lreturn, 1) := by decide +kernel
set_option maxRecDepth 20000 in
theorem ggX3_sumAboveZero_X2_thousandths : GoodIn wsX3_sumAboveZero wsX2_thousandths := goodIn_r _ [11, 12, 13, 14, 17, 18, 19, 20] (by decide +kernel) (by decide +kernel)
set_option maxRecDepth 20000 in
theorem gX3_sumAboveZero_X2_thousandths : GoodIn wsX3_sumAboveZero (wsV RX3 29 RX2 yX2_thousandths wsX2_thousandths) := goodIn_app (goodIn_of _ (by decide +kernel)) ggX3_sumAboveZero_X2_thousandths
theorem dX3_sumAboveZero_0 : decode cX3_sumAboveZero 0 = .ok (.lconst 0, 1) := by decide +kernel
theorem dX3_sumAboveZero_1 : decode cX3_sumAboveZero 1 = .ok (.lstore_n 2, 1) := by decide +kernel
theorem dX3_sumAboveZero_2 : decode cX3_sumAboveZero 2 = .ok (.iconst 0, 1) := by decide +kernel
theorem dX3_sumAboveZero_3 : decode cX3_sumAboveZero 3 = .ok (.istore 4, 2) := by decide +kernel
theorem dX3_sumAboveZero_5 : decode cX3_sumAboveZero 5 = .ok (.iload 4, 2) := by decide +kernel
theorem dX3_sumAboveZero_7 : decode cX3_sumAboveZero 7 = .ok (.aload_n 0, 1) := by decide +kernel
theorem dX3_sumAboveZero_8 : decode cX3_sumAboveZero 8 = .ok (.getfield 15, 3) := by decide +kernel
theorem dX3_sumAboveZero_11 : decode cX3_sumAboveZero 11 = .ok (.if_icmp .ge 27, 3) := by decide +kernel
theorem dX3_sumAboveZero_14 : decode cX3_sumAboveZero 14 = .ok (.lload_n 2, 1) := by decide +kernel
theorem dX3_sumAboveZero_15 : decode cX3_sumAboveZero 15 = .ok (.lconst 0, 1) := by decide +kernel
theorem dX3_sumAboveZero_16 : decode cX3_sumAboveZero 16 = .ok (.aload_n 1, 1) := by decide +kernel
theorem dX3_sumAboveZero_17 : decode cX3_sumAboveZero 17 = .ok (.aload_n 0, 1) := by decide +kernel
theorem dX3_sumAboveZero_18 : decode cX3_sumAboveZero 18 = .ok (.getfield 9, 3) := by decide +kernel
theorem dX3_sumAboveZero_21 : decode cX3_sumAboveZero 21 = .ok (.iload 4, 2) := by decide +kernel
theorem dX3_sumAboveZero_23 : decode cX3_sumAboveZero 23 = .ok (.iaload, 1) := by decide +kernel
theorem dX3_sumAboveZero_24 : decode cX3_sumAboveZero 24 = .ok (.invokevirtual 29, 3) := by decide +kernel
theorem dX3_sumAboveZero_27 : decode cX3_sumAboveZero 27 = .ok (.invokestatic 33, 3) := by decide +kernel
theorem dX3_sumAboveZero_30 : decode cX3_sumAboveZero 30 = .ok (.ladd, 1) := by decide +kernel
theorem dX3_sumAboveZero_31 : decode cX3_sumAboveZero 31 = .ok (.lstore_n 2, 1) := by decide +kernel
theorem dX3_sumAboveZero_32 : decode cX3_sumAboveZero 32 = .ok (.iinc 4 1, 3) := by decide +kernel
theorem dX3_sumAboveZero_35 : decode cX3_sumAboveZero 35 = .ok (.goto (-30), 3) := by decide +kernel
theorem dX3_sumAboveZero_38 : decode cX3_sumAboveZero 38 = .ok (.lload_n 2, 1) := by decide +kernel
theorem dX3_sumAboveZero_39 : decode cX3_sumAboveZero 39 = .ok (.lreturn, 1) := by decide +kernel
theorem dX3_first_0 : decode cX3_first 0 = .ok (.aload_n 0, 1) := by decide +kernel
theorem dX3_first_1 : decode cX3_first 1 = .ok (.getfield 15, 3) := by decide +kernel
theorem dX3_first_4 : decode cX3_first 4 = .ok (.ifCond .le 12, 3) := by decide +kernel
theorem dX3_first_7 : decode cX3_first 7 = .ok (.aload_n 0, 1) := by decide +kernel
theorem dX3_first_8 : decode cX3_first 8 = .ok (.getfield 9, 3) := by decide +kernel
theorem dX3_first_11 : decode cX3_first 11 = .ok (.iconst 0, 1) := by decide +kernel
theorem dX3_first_12 : decode cX3_first 12 = .ok (.iaload, 1) := by decide +kernel
theorem dX3_first_13 : decode cX3_first 13 = .ok (.goto 4, 3) := by decide +kernel
theorem dX3_first_16 : decode cX3_first 16 = .ok (.iconst (-1), 1) := by decide +kernel
theorem dX3_first_17 : decode cX3_first 17 = .ok (.ireturn, 1) := by decide +kernel
set_option maxRecDepth 20000 in
theorem ggX3_least_X3_first : GoodIn wsX3_least wsX3_first := goodIn_r _ [7, 1, 2, 25, 26] (by decide +kernel) (by decide +kernel)
set_option maxRecDepth 20000 in
theorem gX3_least_X3_first : GoodIn wsX3_least (wsV RX3 39 RX3 yX3_first wsX3_first) := goodIn_app (goodIn_of _ (by decide +kernel)) ggX3_least_X3_first
set_option maxRecDepth 20000 in
theorem ggX3_least_X2_order : GoodIn wsX3_least wsX2_order := goodIn_r _ [12, 13, 14, 15, 16, 11, 17, 18, 19, 20, 21, 22, 23, 24, 27, 28, 29, 30] (by decide +kernel) (by decide +kernel)
set_option maxRecDepth 20000 in
theorem gX3_least_X2_order : GoodIn wsX3_least (wsV RX3 19 RX2 yX2_order wsX2_order) := goodIn_app (goodIn_of _ (by decide +kernel)) ggX3_least_X2_order
