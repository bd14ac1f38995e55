theorem dX8_without_21 : decode cX8_without 21 = .ok (.aload_n 0, 1) := by decide +kernel
theorem dX8_without_22 : decode cX8_without 22 = .ok (.iconst 1, 1) := by decide +kernel
theorem dX8_without_23 : decode cX8_without 23 = .ok (.invokevirtual 95, 3) := by decide +kernel
theorem dX8_without_26 : decode cX8_without 26 = .ok (.lreturn, 1) := by decide +kernel
theorem dX8_without_27 : decode cX8_without 27 = .ok (.aload_n 0, 1) := by decide +kernel
theorem dX8_without_28 : decode cX8_without 28 = .ok (.aload_n 0, 1) := by decide +kernel
theorem dX8_without_29 : decode cX8_without 29 = .ok (.invokevirtual 123, 3) := by decide +kernel
theorem dX8_without_32 : decode cX8_without 32 = .ok (.iconst 1, 1) := by decide +kernel
theorem dX8_without_33 : decode cX8_without 33 = .ok (.iload_n 2, 1) := by decide +kernel
theorem dX8_without_34 : decode cX8_without 34 = .ok (.ishl, 1) := by decide +kernel
theorem dX8_without_35 : decode cX8_without 35 = .ok (.iconst (-1), 1) := by decide +kernel
theorem dX8_without_36 : decode cX8_without 36 = .ok (.ixor, 1) := by decide +kernel
theorem dX8_without_37 : decode cX8_without 37 = .ok (.iand, 1) := by decide +kernel
theorem dX8_without_38 : decode cX8_without 38 = .ok (.invokevirtual 127, 3) := by decide +kernel
theorem dX8_without_41 : decode cX8_without 41 = .ok (.ifCond .ne 9, 3) := by decide +kernel
theorem dX8_without_44 : decode cX8_without 44 = .ok (.aload_n 0, 1) := by decide +kernel
theorem dX8_without_45 : decode cX8_without 45 = .ok (.iconst 5, 1) := by decide +kernel
theorem dX8_without_46 : decode cX8_without 46 = .ok (.invokevirtual 95, 3) := by decide +kernel
theorem dX8_without_49 : decode cX8_without 49 = .ok (.lreturn, 1) := by decide +kernel
theorem dX8_without_50 : decode cX8_without 50 = .ok (.aload_n 0, 1) := by decide +kernel
theorem dX8_without_51 : decode cX8_without 51 = .ok (.iload_n 1, 1) := by decide +kernel
theorem dX8_without_52 : decode cX8_without 52 = .ok (.iload_n 3, 1) := by decide +kernel
theorem dX8_without_53 : decode cX8_without 53 = .ok (.invokevirtual 130, 3) := by decide +kernel
theorem dX8_without_56 : decode cX8_without 56 = .ok (.lstore 4, 2) := by decide +kernel
theorem dX8_without_58 : decode cX8_without 58 = .ok (.lload 4, 2) := by decide +kernel
theorem dX8_without_60 : decode cX8_without 60 = .ok (.ldc2_w 113, 3) := by decide +kernel
theorem dX8_without_63 : decode cX8_without 63 = .ok (.lcmp, 1) := by decide +kernel
theorem dX8_without_64 : decode cX8_without 64 = .ok (.ifCond .ne 11, 3) := by decide +kernel
theorem dX8_without_67 : decode cX8_without 67 = .ok (.aload_n 0, 1) := by decide +kernel
theorem dX8_without_68 : decode cX8_without 68 = .ok (.iconst 2, 1) := by decide +kernel
theorem dX8_without_69 : decode cX8_without 69 = .ok (.invokevirtual 95, 3) := by decide +kernel
theorem dX8_without_72 : decode cX8_without 72 = .ok (.goto 5, 3) := by decide +kernel
theorem dX8_without_75 : decode cX8_without 75 = .ok (.lload 4, 2) := by decide +kernel
theorem dX8_without_77 : decode cX8_without 77 = .ok (.lreturn, 1) := by decide +kernel
set_option maxRecDepth 20000 in
theorem ggX8_isMarks_X8_isIn : GoodIn wsX8_isMarks wsX8_isIn := goodIn_r _ [5] (by decide +kernel) (by decide +kernel)
set_option maxRecDepth 20000 in
theorem gX8_isMarks_X8_isIn : GoodIn wsX8_isMarks (va_wsS RX8 81 yX8_isIn wsX8_isIn) := goodIn_app (goodIn_of _ (by decide +kernel)) ggX8_isMarks_X8_isIn
theorem dX8_isMarks_0 : decode cX8_isMarks 0 = .ok (.iload_n 0, 1) := by decide +kernel
theorem dX8_isMarks_1 : decode cX8_isMarks 1 = .ok (.iconst 0, 1) := by decide +kernel
theorem dX8_isMarks_2 : decode cX8_isMarks 2 = .ok (.ldc 137, 2) := by decide +kernel
theorem dX8_isMarks_4 : decode cX8_isMarks 4 = .ok (.invokestatic 81, 3) := by decide +kernel
theorem dX8_isMarks_7 : decode cX8_isMarks 7 = .ok (.ireturn, 1) := by decide +kernel
set_option maxRecDepth 20000 in
theorem ggX8_deed_X8_isIn : GoodIn wsX8_deed wsX8_isIn := goodIn_r _ [9] (by decide +kernel) (by decide +kernel)
set_option maxRecDepth 20000 in
theorem gX8_deed_X8_isIn : GoodIn wsX8_deed (va_wsS RX8 81 yX8_isIn wsX8_isIn) := goodIn_app (goodIn_of _ (by decide +kernel)) ggX8_deed_X8_isIn
set_option maxRecDepth 20000 in
theorem ggX8_deed_X8_isMarks : GoodIn wsX8_deed wsX8_isMarks := goodIn_r _ [12, 13, 6, 7, 8, 9] (by decide +kernel) (by decide +kernel)
set_option maxRecDepth 20000 in
theorem gX8_deed_X8_isMarks : GoodIn wsX8_deed (va_wsS RX8 138 yX8_isMarks wsX8_isMarks) := goodIn_app (goodIn_of _ (by decide +kernel)) ggX8_deed_X8_isMarks
set_option maxRecDepth 20000 in
theorem ggX8_deed_X8_finding : GoodIn wsX8_deed wsX8_finding := goodIn_r _ [17, 18, 19, 20, 21, 22, 23, 24, 25, 26, 27, 28, 29, 30, 31, 32, 33, 34, 35, 36, 37, 38, 39, 40, 41, 42, 43, 44, 45, 46] (by decide +kernel) (by decide +kernel)
set_option maxRecDepth 20000 in
theorem gX8_deed_X8_finding : GoodIn wsX8_deed (wsV RX8 95 RX8 yX8_finding wsX8_finding) := goodIn_app (goodIn_of _ (by decide +kernel)) ggX8_deed_X8_finding
theorem dX8_deed_0 : decode cX8_deed 0 = .ok (.iload_n 1, 1) := by decide +kernel
theorem dX8_deed_1 : decode cX8_deed 1 = .ok (.iconst 0, 1) := by decide +kernel
theorem dX8_deed_2 : decode cX8_deed 2 = .ok (.bipush 9, 2) := by decide +kernel
theorem dX8_deed_4 : decode cX8_deed 4 = .ok (.invokestatic 81, 3) := by decide +kernel
theorem dX8_deed_7 : decode cX8_deed 7 = .ok (.ifCond .eq 37, 3) := by decide +kernel
theorem dX8_deed_10 : decode cX8_deed 10 = .ok (.iload_n 2, 1) := by decide +kernel
theorem dX8_deed_11 : decode cX8_deed 11 = .ok (.iconst 0, 1) := by decide +kernel
theorem dX8_deed_12 : decode cX8_deed 12 = .ok (.sipush 1000, 3) := by decide +kernel
theorem dX8_deed_15 : decode cX8_deed 15 = .ok (.invokestatic 81, 3) := by decide +kernel
theorem dX8_deed_18 : decode cX8_deed 18 = .ok (.ifCond .eq 26, 3) := by decide +kernel
theorem dX8_deed_21 : decode cX8_deed 21 = .ok (.iload_n 3, 1) := by decide +kernel
theorem dX8_deed_22 : decode cX8_deed 22 = .ok (.invokestatic 138, 3) := by decide +kernel
theorem dX8_deed_25 : decode cX8_deed 25 = .ok (.ifCond .eq 19, 3) := by decide +kernel
theorem dX8_deed_28 : decode cX8_deed 28 = .ok (.iload 4, 2) := by decide +kernel
theorem dX8_deed_30 : decode cX8_deed 30 = .ok (.invokestatic 138, 3) := by decide +kernel
theorem dX8_deed_33 : decode cX8_deed 33 = .ok (.ifCond .eq 11, 3) := by decide +kernel
theorem dX8_deed_36 : decode cX8_deed 36 = .ok (.iload 5, 2) := by decide +kernel
theorem dX8_deed_38 : decode cX8_deed 38 = .ok (.invokestatic 138, 3) := by decide +kernel
theorem dX8_deed_41 : decode cX8_deed 41 = .ok (.ifCond .ne 9, 3) := by decide +kernel
theorem dX8_deed_44 : decode cX8_deed 44 = .ok (.aload_n 0, 1) := by decide +kernel
theorem dX8_deed_45 : decode cX8_deed 45 = .ok (.iconst 1, 1) := by decide +kernel
theorem dX8_deed_46 : decode cX8_deed 46 = .ok (.invokevirtual 95, 3) := by decide +kernel
theorem dX8_deed_49 : decode cX8_deed 49 = .ok (.lreturn, 1) := by decide +kernel
theorem dX8_deed_50 : decode cX8_deed 50 = .ok (.aload_n 0, 1) := by decide +kernel
theorem dX8_deed_51 : decode cX8_deed 51 = .ok (.getfield 43, 3) := by decide +kernel
theorem dX8_deed_54 : decode cX8_deed 54 = .ok (.iload_n 1, 1) := by decide +kernel
theorem dX8_deed_55 : decode cX8_deed 55 = .ok (.iconst 1, 1) := by decide +kernel
theorem dX8_deed_56 : decode cX8_deed 56 = .ok (.bastore, 1) := by decide +kernel
theorem dX8_deed_57 : decode cX8_deed 57 = .ok (.aload_n 0, 1) := by decide +kernel
theorem dX8_deed_58 : decode cX8_deed 58 = .ok (.getfield 47, 3) := by decide +kernel
theorem dX8_deed_61 : decode cX8_deed 61 = .ok (.iload_n 1, 1) := by decide +kernel
theorem dX8_deed_62 : decode cX8_deed 62 = .ok (.iload_n 2, 1) := by decide +kernel
theorem dX8_deed_63 : decode cX8_deed 63 = .ok (.iastore, 1) := by decide +kernel
theorem dX8_deed_64 : decode cX8_deed 64 = .ok (.aload_n 0, 1) := by decide +kernel
theorem dX8_deed_65 : decode cX8_deed 65 = .ok (.getfield 50, 3) := by decide +kernel
theorem dX8_deed_68 : decode cX8_deed 68 = .ok (.iload_n 1, 1) := by decide +kernel
theorem dX8_deed_69 : decode cX8_deed 69 = .ok (.iload_n 3, 1) := by decide +kernel
theorem dX8_deed_70 : decode cX8_deed 70 = .ok (.iastore, 1) := by decide +kernel
theorem dX8_deed_71 : decode cX8_deed 71 = .ok (.aload_n 0, 1) := by decide +kernel
theorem dX8_deed_72 : decode cX8_deed 72 = .ok (.getfield 53, 3) := by decide +kernel
theorem dX8_deed_75 : decode cX8_deed 75 = .ok (.iload_n 1, 1) := by decide +kernel
theorem dX8_deed_76 : decode cX8_deed 76 = .ok (.iload 4, 2) := by decide +kernel
theorem dX8_deed_78 : decode cX8_deed 78 = .ok (.iastore, 1) := by decide +kernel
theorem dX8_deed_79 : decode cX8_deed 79 = .ok (.aload_n 0, 1) := by decide +kernel
theorem dX8_deed_80 : decode cX8_deed 80 = .ok (.getfield 56, 3) := by decide +kernel
theorem dX8_deed_83 : decode cX8_deed 83 = .ok (.iload_n 1, 1) := by decide +kernel
theorem dX8_deed_84 : decode cX8_deed 84 = .ok (.iload 5, 2) := by decide +kernel
theorem dX8_deed_86 : decode cX8_deed 86 = .ok (.iastore, 1) := by decide +kernel
theorem dX8_deed_87 : decode cX8_deed 87 = .ok (.lconst 1, 1) := by decide +kernel
theorem dX8_deed_88 : decode cX8_deed 88 = .ok (.lreturn, 1) := by decide +kernel
set_option maxRecDepth 20000 in
theorem ggX8_forget_X8_isIn : GoodIn wsX8_forget wsX8_isIn := goodIn_r _ [5] (by decide +kernel) (by decide +kernel)
set_option maxRecDepth 20000 in
theorem gX8_forget_X8_isIn : GoodIn wsX8_forget (va_wsS RX8 81 yX8_isIn wsX8_isIn) := goodIn_app (goodIn_of _ (by decide +kernel)) ggX8_forget_X8_isIn
set_option maxRecDepth 20000 in
theorem ggX8_forget_X8_finding : GoodIn wsX8_forget wsX8_finding := goodIn_r _ [9, 10, 11, 12, 13, 14, 15, 16, 17, 18, 19, 20, 21, 22, 23, 24, 25, 26, 27, 28, 29, 30, 31, 32, 33, 34, 35, 36, 37, 38] (by decide +kernel) (by decide +kernel)
set_option maxRecDepth 20000 in
theorem gX8_forget_X8_finding : GoodIn wsX8_forget (wsV RX8 95 RX8 yX8_finding wsX8_finding) := goodIn_app (goodIn_of _ (by decide +kernel)) ggX8_forget_X8_finding
theorem dX8_forget_0 : decode cX8_forget 0 = .ok (.iload_n 1, 1) := by decide +kernel
theorem dX8_forget_1 : decode cX8_forget 1 = .ok (.iconst 0, 1) := by decide +kernel
theorem dX8_forget_2 : decode cX8_forget 2 = .ok (.bipush 9, 2) := by decide +kernel
theorem dX8_forget_4 : decode cX8_forget 4 = .ok (.invokestatic 81, 3) := by decide +kernel
theorem dX8_forget_7 : decode cX8_forget 7 = .ok (.ifCond .ne 9, 3) := by decide +kernel
theorem dX8_forget_10 : decode cX8_forget 10 = .ok (.aload_n 0, 1) := by decide +kernel
theorem dX8_forget_11 : decode cX8_forget 11 = .ok (.iconst 1, 1) := by decide +kernel
theorem dX8_forget_12 : decode cX8_forget 12 = .ok (.invokevirtual 95, 3) := by decide +kernel
theorem dX8_forget_15 : decode cX8_forget 15 = .ok (.lreturn, 1) := by decide +kernel
theorem dX8_forget_16 : decode cX8_forget 16 = .ok (.aload_n 0, 1) := by decide +kernel
theorem dX8_forget_17 : decode cX8_forget 17 = .ok (.getfield 43, 3) := by decide +kernel
theorem dX8_forget_20 : decode cX8_forget 20 = .ok (.iload_n 1, 1) := by decide +kernel
theorem dX8_forget_21 : decode cX8_forget 21 = .ok (.baload, 1) := by decide +kernel
theorem dX8_forget_22 : decode cX8_forget 22 = .ok (.ifCond .eq 7, 3) := by decide +kernel
theorem dX8_forget_25 : decode cX8_forget 25 = .ok (.iconst 1, 1) := by decide +kernel
theorem dX8_forget_26 : decode cX8_forget 26 = .ok (.goto 4, 3) := by decide +kernel
theorem dX8_forget_29 : decode cX8_forget 29 = .ok (.iconst 0, 1) := by decide +kernel
theorem dX8_forget_30 : decode cX8_forget 30 = .ok (.istore_n 2, 1) := by decide +kernel
theorem dX8_forget_31 : decode cX8_forget 31 = .ok (.aload_n 0, 1) := by decide +kernel
theorem dX8_forget_32 : decode cX8_forget 32 = .ok (.getfield 43, 3) := by decide +kernel
theorem dX8_forget_35 : decode cX8_forget 35 = .ok (.iload_n 1, 1) := by decide +kernel
theorem dX8_forget_36 : decode cX8_forget 36 = .ok (.iconst 0, 1) := by decide +kernel
theorem dX8_forget_37 : decode cX8_forget 37 = .ok (.bastore, 1) := by decide +kernel
theorem dX8_forget_38 : decode cX8_forget 38 = .ok (.iload_n 2, 1) := by decide +kernel
theorem dX8_forget_39 : decode cX8_forget 39 = .ok (.i2l, 1) := by decide +kernel
theorem dX8_forget_40 : decode cX8_forget 40 = .ok (.lreturn, 1) := by decide +kernel
set_option maxRecDepth 20000 in
theorem ggX8_prices_X8_isIn : GoodIn wsX8_prices wsX8_isIn := goodIn_r _ [6] (by decide +kernel) (by decide +kernel)
set_option maxRecDepth 20000 in
theorem gX8_prices_X8_isIn : GoodIn wsX8_prices (va_wsS RX8 81 yX8_isIn wsX8_isIn) := goodIn_app (goodIn_of _ (by decide +kernel)) ggX8_prices_X8_isIn
set_option maxRecDepth 20000 in
theorem ggX8_prices_X8_finding : GoodIn wsX8_prices wsX8_finding := goodIn_r _ [10, 11, 12, 13, 14, 15, 16, 17, 18, 19, 20, 21, 22, 23, 24, 25, 26, 27, 28, 29, 30, 31, 32, 33, 34, 35, 36, 37, 38, 39] (by decide +kernel) (by decide +kernel)
set_option maxRecDepth 20000 in
theorem gX8_prices_X8_finding : GoodIn wsX8_prices (wsV RX8 95 RX8 yX8_finding wsX8_finding) := goodIn_app (goodIn_of _ (by decide +kernel)) ggX8_prices_X8_finding
theorem dX8_prices_0 : decode cX8_prices 0 = .ok (.iload_n 1, 1) := by decide +kernel
theorem dX8_prices_1 : decode cX8_prices 1 = .ok (.iconst 0, 1) := by decide +kernel
theorem dX8_prices_2 : decode cX8_prices 2 = .ok (.sipush 1000, 3) := by decide +kernel
theorem dX8_prices_5 : decode cX8_prices 5 = .ok (.invokestatic 81, 3) := by decide +kernel
theorem dX8_prices_8 : decode cX8_prices 8 = .ok (.ifCond .eq 14, 3) := by decide +kernel
theorem dX8_prices_11 : decode cX8_prices 11 = .ok (.iload_n 2, 1) := by decide +kernel
theorem dX8_prices_12 : decode cX8_prices 12 = .ok (.iconst 0, 1) := by decide +kernel
theorem dX8_prices_13 : decode cX8_prices 13 = .ok (.sipush 1000, 3) := by decide +kernel
theorem dX8_prices_16 : decode cX8_prices 16 = .ok (.invokestatic 81, 3) := by decide +kernel
theorem dX8_prices_19 : decode cX8_prices 19 = .ok (.ifCond .ne 9, 3) := by decide +kernel
theorem dX8_prices_22 : decode cX8_prices 22 = .ok (.aload_n 0, 1) := by decide +kernel
theorem dX8_prices_23 : decode cX8_prices 23 = .ok (.iconst 1, 1) := by decide +kernel
theorem dX8_prices_24 : decode cX8_prices 24 = .ok (.invokevirtual 95, 3) := by decide +kernel
theorem dX8_prices_27 : decode cX8_prices 27 = .ok (.lreturn, 1) := by decide +kernel
theorem dX8_prices_28 : decode cX8_prices 28 = .ok (.aload_n 0, 1) := by decide +kernel
theorem dX8_prices_29 : decode cX8_prices 29 = .ok (.iload_n 1, 1) := by decide +kernel
theorem dX8_prices_30 : decode cX8_prices 30 = .ok (.putfield 59, 3) := by decide +kernel
theorem dX8_prices_33 : decode cX8_prices 33 = .ok (.aload_n 0, 1) := by decide +kernel
theorem dX8_prices_34 : decode cX8_prices 34 = .ok (.iload_n 2, 1) := by decide +kernel
theorem dX8_prices_35 : decode cX8_prices 35 = .ok (.putfield 63, 3) := by decide +kernel
theorem dX8_prices_38 : decode cX8_prices 38 = .ok (.lconst 1, 1) := by decide +kernel
theorem dX8_prices_39 : decode cX8_prices 39 = .ok (.lreturn, 1) := by decide +kernel
theorem dX8_known_0 : decode cX8_known 0 = .ok (.iconst 0, 1) := by decide +kernel
theorem dX8_known_1 : decode cX8_known 1 = .ok (.istore_n 1, 1) := by decide +kernel
theorem dX8_known_2 : decode cX8_known 2 = .ok (.iconst 0, 1) := by decide +kernel
theorem dX8_known_3 : decode cX8_known 3 = .ok (.istore_n 2, 1) := by decide +kernel
theorem dX8_known_4 : decode cX8_known 4 = .ok (.iload_n 2, 1) := by decide +kernel
theorem dX8_known_5 : decode cX8_known 5 = .ok (.bipush 10, 2) := by decide +kernel
theorem dX8_known_7 : decode cX8_known 7 = .ok (.if_icmp .ge 28, 3) := by decide +kernel
theorem dX8_known_10 : decode cX8_known 10 = .ok (.iload_n 1, 1) := by decide +kernel
theorem dX8_known_11 : decode cX8_known 11 = .ok (.aload_n 0, 1) := by decide +kernel
theorem dX8_known_12 : decode cX8_known 12 = .ok (.getfield 43, 3) := by decide +kernel
theorem dX8_known_15 : decode cX8_known 15 = .ok (.iload_n 2, 1) := by decide +kernel
theorem dX8_known_16 : decode cX8_known 16 = .ok (.baload, 1) := by decide +kernel
theorem dX8_known_17 : decode cX8_known 17 = .ok (.ifCond .eq 9, 3) := by decide +kernel
theorem dX8_known_20 : decode cX8_known 20 = .ok (.iconst 1, 1) := by decide +kernel
theorem dX8_known_21 : decode cX8_known 21 = .ok (.iload_n 2, 1) := by decide +kernel
theorem dX8_known_22 : decode cX8_known 22 = .ok (.ishl, 1) := by decide +kernel
theorem dX8_known_23 : decode cX8_known 23 = .ok (.goto 4, 3) := by decide +kernel
theorem dX8_known_26 : decode cX8_known 26 = .ok (.iconst 0, 1) := by decide +kernel
theorem dX8_known_27 : decode cX8_known 27 = .ok (.ior, 1) := by decide +kernel
theorem dX8_known_28 : decode cX8_known 28 = .ok (.istore_n 1, 1) := by decide +kernel
theorem dX8_known_29 : decode cX8_known 29 = .ok (.iinc 2 1, 3) := by decide +kernel
theorem dX8_known_32 : decode cX8_known 32 = .ok (.goto (-28), 3) := by decide +kernel
theorem dX8_known_35 : decode cX8_known 35 = .ok (.iload_n 1, 1) := by decide +kernel
theorem dX8_known_36 : decode cX8_known 36 = .ok (.ireturn, 1) := by decide +kernel
theorem dX8_there_0 : decode cX8_there 0 = .ok (.iconst 0, 1) := by decide +kernel
theorem dX8_there_1 : decode cX8_there 1 = .ok (.istore_n 2, 1) := by decide +kernel
theorem dX8_there_2 : decode cX8_there 2 = .ok (.iconst 0, 1) := by decide +kernel
theorem dX8_there_3 : decode cX8_there 3 = .ok (.istore_n 3, 1) := by decide +kernel
theorem dX8_there_4 : decode cX8_there 4 = .ok (.iload_n 3, 1) := by decide +kernel
theorem dX8_there_5 : decode cX8_there 5 = .ok (.aload_n 0, 1) := by decide +kernel
theorem dX8_there_6 : decode cX8_there 6 = .ok (.getfield 85, 3) := by decide +kernel
theorem dX8_there_9 : decode cX8_there 9 = .ok (.if_icmp .ge 38, 3) := by decide +kernel
theorem dX8_there_12 : decode cX8_there 12 = .ok (.iload_n 2, 1) := by decide +kernel
theorem dX8_there_13 : decode cX8_there 13 = .ok (.iload_n 1, 1) := by decide +kernel
theorem dX8_there_14 : decode cX8_there 14 = .ok (.ifCond .eq 13, 3) := by decide +kernel
theorem dX8_there_17 : decode cX8_there 17 = .ok (.aload_n 0, 1) := by decide +kernel
theorem dX8_there_18 : decode cX8_there 18 = .ok (.getfield 22, 3) := by decide +kernel
theorem dX8_there_21 : decode cX8_there 21 = .ok (.iload_n 3, 1) := by decide +kernel
theorem dX8_there_22 : decode cX8_there 22 = .ok (.iaload, 1) := by decide +kernel
theorem dX8_there_23 : decode cX8_there 23 = .ok (.iconst 2, 1) := by decide +kernel
theorem dX8_there_24 : decode cX8_there 24 = .ok (.if_icmp .eq 14, 3) := by decide +kernel
theorem dX8_there_27 : decode cX8_there 27 = .ok (.iconst 1, 1) := by decide +kernel
theorem dX8_there_28 : decode cX8_there 28 = .ok (.aload_n 0, 1) := by decide +kernel
theorem dX8_there_29 : decode cX8_there 29 = .ok (.getfield 31, 3) := by decide +kernel
theorem dX8_there_32 : decode cX8_there 32 = .ok (.iload_n 3, 1) := by decide +kernel
theorem dX8_there_33 : decode cX8_there 33 = .ok (.iaload, 1) := by decide +kernel
theorem dX8_there_34 : decode cX8_there 34 = .ok (.ishl, 1) := by decide +kernel
theorem dX8_there_35 : decode cX8_there 35 = .ok (.goto 4, 3) := by decide +kernel
theorem dX8_there_38 : decode cX8_there 38 = .ok (.iconst 0, 1) := by decide +kernel
theorem dX8_there_39 : decode cX8_there 39 = .ok (.ior, 1) := by decide +kernel
theorem dX8_there_40 : decode cX8_there 40 = .ok (.istore_n 2, 1) := by decide +kernel
theorem dX8_there_41 : decode cX8_there 41 = .ok (.iinc 3 1, 3) := by decide +kernel
theorem dX8_there_44 : decode cX8_there 44 = .ok (.goto (-40), 3) := by decide +kernel
theorem dX8_there_47 : decode cX8_there 47 = .ok (.iload_n 2, 1) := by decide +kernel
theorem dX8_there_48 : decode cX8_there 48 = .ok (.ireturn, 1) := by decide +kernel
theorem dX8_together_0 : decode cX8_together 0 = .ok (.iconst 0, 1) := by decide +kernel
theorem dX8_together_1 : decode cX8_together 1 = .ok (.istore_n 2, 1) := by decide +kernel
theorem dX8_together_2 : decode cX8_together 2 = .ok (.iconst 0, 1) := by decide +kernel
theorem dX8_together_3 : decode cX8_together 3 = .ok (.istore_n 3, 1) := by decide +kernel
theorem dX8_together_4 : decode cX8_together 4 = .ok (.iload_n 3, 1) := by decide +kernel
theorem dX8_together_5 : decode cX8_together 5 = .ok (.bipush 10, 2) := by decide +kernel
theorem dX8_together_7 : decode cX8_together 7 = .ok (.if_icmp .ge 28, 3) := by decide +kernel
theorem dX8_together_10 : decode cX8_together 10 = .ok (.iload_n 2, 1) := by decide +kernel
theorem dX8_together_11 : decode cX8_together 11 = .ok (.iload_n 1, 1) := by decide +kernel
theorem dX8_together_12 : decode cX8_together 12 = .ok (.iload_n 3, 1) := by decide +kernel
theorem dX8_together_13 : decode cX8_together 13 = .ok (.ishr, 1) := by decide +kernel
theorem dX8_together_14 : decode cX8_together 14 = .ok (.iconst 1, 1) := by decide +kernel
theorem dX8_together_15 : decode cX8_together 15 = .ok (.iand, 1) := by decide +kernel
theorem dX8_together_16 : decode cX8_together 16 = .ok (.iconst 1, 1) := by decide +kernel
theorem dX8_together_17 : decode cX8_together 17 = .ok (.if_icmp .ne 9, 3) := by decide +kernel
theorem dX8_together_20 : decode cX8_together 20 = .ok (.aload_n 0, 1) := by decide +kernel
theorem dX8_together_21 : decode cX8_together 21 = .ok (.iload_n 3, 1) := by decide +kernel
theorem dX8_together_22 : decode cX8_together 22 = .ok (.iaload, 1) := by decide +kernel
theorem dX8_together_23 : decode cX8_together 23 = .ok (.goto 4, 3) := by decide +kernel
theorem dX8_together_26 : decode cX8_together 26 = .ok (.iconst 0, 1) := by decide +kernel
theorem dX8_together_27 : decode cX8_together 27 = .ok (.ior, 1) := by decide +kernel
theorem dX8_together_28 : decode cX8_together 28 = .ok (.istore_n 2, 1) := by decide +kernel
theorem dX8_together_29 : decode cX8_together 29 = .ok (.iinc 3 1, 3) := by decide +kernel
theorem dX8_together_32 : decode cX8_together 32 = .ok (.goto (-28), 3) := by decide +kernel
theorem dX8_together_35 : decode cX8_together 35 = .ok (.iload_n 2, 1) := by decide +kernel
theorem dX8_together_36 : decode cX8_together 36 = .ok (.ireturn, 1) := by decide +kernel
set_option maxRecDepth 20000 in
theorem ggX8_left_X8_together : GoodIn wsX8_left wsX8_together := goodIn_r _ [6] (by decide +kernel) (by decide +kernel)
set_option maxRecDepth 20000 in
theorem gX8_left_X8_together : GoodIn wsX8_left (va_wsS RX8 141 yX8_together wsX8_together) := goodIn_app (goodIn_of _ (by decide +kernel)) ggX8_left_X8_together
theorem dX8_left_0 : decode cX8_left 0 = .ok (.aload_n 0, 1) := by decide +kernel
theorem dX8_left_1 : decode cX8_left 1 = .ok (.getfield 50, 3) := by decide +kernel
theorem dX8_left_4 : decode cX8_left 4 = .ok (.iload_n 1, 1) := by decide +kernel
theorem dX8_left_5 : decode cX8_left 5 = .ok (.invokestatic 141, 3) := by decide +kernel
theorem dX8_left_8 : decode cX8_left 8 = .ok (.aload_n 0, 1) := by decide +kernel
theorem dX8_left_9 : decode cX8_left 9 = .ok (.getfield 53, 3) := by decide +kernel
theorem dX8_left_12 : decode cX8_left 12 = .ok (.iload_n 1, 1) := by decide +kernel
theorem dX8_left_13 : decode cX8_left 13 = .ok (.invokestatic 141, 3) := by decide +kernel
theorem dX8_left_16 : decode cX8_left 16 = .ok (.ior, 1) := by decide +kernel
theorem dX8_left_17 : decode cX8_left 17 = .ok (.ireturn, 1) := by decide +kernel
set_option maxRecDepth 20000 in
theorem ggX8_costOf_X8_together : GoodIn wsX8_costOf wsX8_together := goodIn_r _ [12] (by decide +kernel) (by decide +kernel)
set_option maxRecDepth 20000 in
theorem gX8_costOf_X8_together : GoodIn wsX8_costOf (va_wsS RX8 141 yX8_together wsX8_together) := goodIn_app (goodIn_of _ (by decide +kernel)) ggX8_costOf_X8_together
set_option maxRecDepth 20000 in
theorem ggX8_costOf_X8_there : GoodIn wsX8_costOf wsX8_there := goodIn_r _ [16, 6, 17, 7, 25, 26, 27, 28, 29, 30, 31, 32, 33, 34, 35, 36, 37, 38, 39, 40, 41, 42, 43, 44, 45, 46, 47, 48, 49, 50, 51] (by decide +kernel) (by decide +kernel)
set_option maxRecDepth 20000 in
theorem gX8_costOf_X8_there : GoodIn wsX8_costOf (wsV RX8 145 RX8 yX8_there wsX8_there) := goodIn_app (goodIn_of _ (by decide +kernel)) ggX8_costOf_X8_there
set_option maxRecDepth 20000 in
theorem ggX8_costOf_X8_left : GoodIn wsX8_costOf wsX8_left := goodIn_r _ [21, 1, 4, 9, 10, 11, 12, 25, 26, 27, 28, 29, 30, 31, 32, 33, 34, 35, 36, 37, 38, 39, 40, 41, 42, 43, 44, 45, 46, 47, 48, 49, 50, 51] (by decide +kernel) (by decide +kernel)
set_option maxRecDepth 20000 in
theorem gX8_costOf_X8_left : GoodIn wsX8_costOf (wsV RX8 149 RX8 yX8_left wsX8_left) := goodIn_app (goodIn_of _ (by decide +kernel)) ggX8_costOf_X8_left
set_option maxRecDepth 20000 in
theorem ggX8_costOf_X8_size : GoodIn wsX8_costOf wsX8_size := goodIn_r _ [24] (by decide +kernel) (by decide +kernel)
set_option maxRecDepth 20000 in
theorem gX8_costOf_X8_size : GoodIn wsX8_costOf (va_wsS RX8 133 yX8_size wsX8_size) := goodIn_app (goodIn_of _ (by decide +kernel)) ggX8_costOf_X8_size
theorem dX8_costOf_0 : decode cX8_costOf 0 = .ok (.aload_n 0, 1) := by decide +kernel
theorem dX8_costOf_1 : decode cX8_costOf 1 = .ok (.getfield 50, 3) := by decide +kernel
theorem dX8_costOf_4 : decode cX8_costOf 4 = .ok (.iload_n 1, 1) := by decide +kernel
theorem dX8_costOf_5 : decode cX8_costOf 5 = .ok (.invokestatic 141, 3) := by decide +kernel
theorem dX8_costOf_8 : decode cX8_costOf 8 = .ok (.istore_n 2, 1) := by decide +kernel
theorem dX8_costOf_9 : decode cX8_costOf 9 = .ok (.aload_n 0, 1) := by decide +kernel
theorem dX8_costOf_10 : decode cX8_costOf 10 = .ok (.getfield 56, 3) := by decide +kernel
theorem dX8_costOf_13 : decode cX8_costOf 13 = .ok (.iload_n 1, 1) := by decide +kernel
theorem dX8_costOf_14 : decode cX8_costOf 14 = .ok (.invokestatic 141, 3) := by decide +kernel
theorem dX8_costOf_17 : decode cX8_costOf 17 = .ok (.istore_n 3, 1) := by decide +kernel
theorem dX8_costOf_18 : decode cX8_costOf 18 = .ok (.aload_n 0, 1) := by decide +kernel
theorem dX8_costOf_19 : decode cX8_costOf 19 = .ok (.iconst 0, 1) := by decide +kernel
theorem dX8_costOf_20 : decode cX8_costOf 20 = .ok (.invokevirtual 145, 3) := by decide +kernel
theorem dX8_costOf_23 : decode cX8_costOf 23 = .ok (.istore 4, 2) := by decide +kernel
theorem dX8_costOf_25 : decode cX8_costOf 25 = .ok (.aload_n 0, 1) := by decide +kernel
theorem dX8_costOf_26 : decode cX8_costOf 26 = .ok (.iload_n 1, 1) := by decide +kernel
theorem dX8_costOf_27 : decode cX8_costOf 27 = .ok (.invokevirtual 149, 3) := by decide +kernel
theorem dX8_costOf_30 : decode cX8_costOf 30 = .ok (.istore 5, 2) := by decide +kernel
theorem dX8_costOf_32 : decode cX8_costOf 32 = .ok (.iload_n 2, 1) := by decide +kernel
theorem dX8_costOf_33 : decode cX8_costOf 33 = .ok (.iload 4, 2) := by decide +kernel
theorem dX8_costOf_35 : decode cX8_costOf 35 = .ok (.iconst (-1), 1) := by decide +kernel
theorem dX8_costOf_36 : decode cX8_costOf 36 = .ok (.ixor, 1) := by decide +kernel
theorem dX8_costOf_37 : decode cX8_costOf 37 = .ok (.iand, 1) := by decide +kernel
theorem dX8_costOf_38 : decode cX8_costOf 38 = .ok (.iload_n 3, 1) := by decide +kernel
theorem dX8_costOf_39 : decode cX8_costOf 39 = .ok (.iconst (-1), 1) := by decide +kernel
theorem dX8_costOf_40 : decode cX8_costOf 40 = .ok (.ixor, 1) := by decide +kernel
theorem dX8_costOf_41 : decode cX8_costOf 41 = .ok (.iand, 1) := by decide +kernel
theorem dX8_costOf_42 : decode cX8_costOf 42 = .ok (.ifCond .ne 16, 3) := by decide +kernel
theorem dX8_costOf_45 : decode cX8_costOf 45 = .ok (.aload_n 0, 1) := by decide +kernel
theorem dX8_costOf_46 : decode cX8_costOf 46 = .ok (.iconst 1, 1) := by decide +kernel
theorem dX8_costOf_47 : decode cX8_costOf 47 = .ok (.invokevirtual 145, 3) := by decide +kernel
theorem dX8_costOf_50 : decode cX8_costOf 50 = .ok (.iload 5, 2) := by decide +kernel
theorem dX8_costOf_52 : decode cX8_costOf 52 = .ok (.iconst (-1), 1) := by decide +kernel
theorem dX8_costOf_53 : decode cX8_costOf 53 = .ok (.ixor, 1) := by decide +kernel
theorem dX8_costOf_54 : decode cX8_costOf 54 = .ok (.iand, 1) := by decide +kernel
theorem dX8_costOf_55 : decode cX8_costOf 55 = .ok (.ifCond .eq 5, 3) := by decide +kernel
theorem dX8_costOf_58 : decode cX8_costOf 58 = .ok (.iconst (-1), 1) := by decide +kernel
theorem dX8_costOf_59 : decode cX8_costOf 59 = .ok (.ireturn, 1) := by decide +kernel
theorem dX8_costOf_60 : decode cX8_costOf 60 = .ok (.aload_n 0, 1) := by decide +kernel
theorem dX8_costOf_61 : decode cX8_costOf 61 = .ok (.getfield 59, 3) := by decide +kernel
theorem dX8_costOf_64 : decode cX8_costOf 64 = .ok (.aload_n 0, 1) := by decide +kernel
theorem dX8_costOf_65 : decode cX8_costOf 65 = .ok (.getfield 53, 3) := by decide +kernel
theorem dX8_costOf_68 : decode cX8_costOf 68 = .ok (.iload_n 1, 1) := by decide +kernel
theorem dX8_costOf_69 : decode cX8_costOf 69 = .ok (.invokestatic 141, 3) := by decide +kernel
theorem dX8_costOf_72 : decode cX8_costOf 72 = .ok (.iload_n 2, 1) := by decide +kernel
theorem dX8_costOf_73 : decode cX8_costOf 73 = .ok (.iconst (-1), 1) := by decide +kernel
theorem dX8_costOf_74 : decode cX8_costOf 74 = .ok (.ixor, 1) := by decide +kernel
theorem dX8_costOf_75 : decode cX8_costOf 75 = .ok (.iand, 1) := by decide +kernel
theorem dX8_costOf_76 : decode cX8_costOf 76 = .ok (.iload 4, 2) := by decide +kernel
theorem dX8_costOf_78 : decode cX8_costOf 78 = .ok (.iconst (-1), 1) := by decide +kernel
theorem dX8_costOf_79 : decode cX8_costOf 79 = .ok (.ixor, 1) := by decide +kernel
theorem dX8_costOf_80 : decode cX8_costOf 80 = .ok (.iand, 1) := by decide +kernel
theorem dX8_costOf_81 : decode cX8_costOf 81 = .ok (.iload_n 3, 1) := by decide +kernel
theorem dX8_costOf_82 : decode cX8_costOf 82 = .ok (.iconst (-1), 1) := by decide +kernel
theorem dX8_costOf_83 : decode cX8_costOf 83 = .ok (.ixor, 1) := by decide +kernel
theorem dX8_costOf_84 : decode cX8_costOf 84 = .ok (.iand, 1) := by decide +kernel
theorem dX8_costOf_85 : decode cX8_costOf 85 = .ok (.invokestatic 133, 3) := by decide +kernel
theorem dX8_costOf_88 : decode cX8_costOf 88 = .ok (.imul, 1) := by decide +kernel
theorem dX8_costOf_89 : decode cX8_costOf 89 = .ok (.istore 6, 2) := by decide +kernel
theorem dX8_costOf_91 : decode cX8_costOf 91 = .ok (.iconst 0, 1) := by decide +kernel
theorem dX8_costOf_92 : decode cX8_costOf 92 = .ok (.istore 7, 2) := by decide +kernel
theorem dX8_costOf_94 : decode cX8_costOf 94 = .ok (.iload 7, 2) := by decide +kernel
theorem dX8_costOf_96 : decode cX8_costOf 96 = .ok (.bipush 10, 2) := by decide +kernel
theorem dX8_costOf_98 : decode cX8_costOf 98 = .ok (.if_icmp .ge 35, 3) := by decide +kernel
theorem dX8_costOf_101 : decode cX8_costOf 101 = .ok (.iload 6, 2) := by decide +kernel
theorem dX8_costOf_103 : decode cX8_costOf 103 = .ok (.iload_n 1, 1) := by decide +kernel
theorem dX8_costOf_104 : decode cX8_costOf 104 = .ok (.iload 7, 2) := by decide +kernel
theorem dX8_costOf_106 : decode cX8_costOf 106 = .ok (.ishr, 1) := by decide +kernel
theorem dX8_costOf_107 : decode cX8_costOf 107 = .ok (.iconst 1, 1) := by decide +kernel
theorem dX8_costOf_108 : decode cX8_costOf 108 = .ok (.iand, 1) := by decide +kernel
theorem dX8_costOf_109 : decode cX8_costOf 109 = .ok (.iconst 1, 1) := by decide +kernel
theorem dX8_costOf_110 : decode cX8_costOf 110 = .ok (.if_icmp .ne 13, 3) := by decide +kernel
theorem dX8_costOf_113 : decode cX8_costOf 113 = .ok (.aload_n 0, 1) := by decide +kernel
theorem dX8_costOf_114 : decode cX8_costOf 114 = .ok (.getfield 47, 3) := by decide +kernel
theorem dX8_costOf_117 : decode cX8_costOf 117 = .ok (.iload 7, 2) := by decide +kernel
theorem dX8_costOf_119 : decode cX8_costOf 119 = .ok (.iaload, 1) := by decide +kernel
theorem dX8_costOf_120 : decode cX8_costOf 120 = .ok (.goto 4, 3) := by decide +kernel
theorem dX8_costOf_123 : decode cX8_costOf 123 = .ok (.iconst 0, 1) := by decide +kernel
theorem dX8_costOf_124 : decode cX8_costOf 124 = .ok (.iadd, 1) := by decide +kernel
theorem dX8_costOf_125 : decode cX8_costOf 125 = .ok (.istore 6, 2) := by decide +kernel
theorem dX8_costOf_127 : decode cX8_costOf 127 = .ok (.iinc 7 1, 3) := by decide +kernel
theorem dX8_costOf_130 : decode cX8_costOf 130 = .ok (.goto (-36), 3) := by decide +kernel
theorem dX8_costOf_133 : decode cX8_costOf 133 = .ok (.iconst 0, 1) := by decide +kernel
theorem dX8_costOf_134 : decode cX8_costOf 134 = .ok (.istore 7, 2) := by decide +kernel
theorem dX8_costOf_136 : decode cX8_costOf 136 = .ok (.iload 7, 2) := by decide +kernel
theorem dX8_costOf_138 : decode cX8_costOf 138 = .ok (.aload_n 0, 1) := by decide +kernel
theorem dX8_costOf_139 : decode cX8_costOf 139 = .ok (.getfield 85, 3) := by decide +kernel
theorem dX8_costOf_142 : decode cX8_costOf 142 = .ok (.if_icmp .ge 37, 3) := by decide +kernel
theorem dX8_costOf_145 : decode cX8_costOf 145 = .ok (.iload 6, 2) := by decide +kernel
theorem dX8_costOf_147 : decode cX8_costOf 147 = .ok (.iload 5, 2) := by decide +kernel
theorem dX8_costOf_149 : decode cX8_costOf 149 = .ok (.aload_n 0, 1) := by decide +kernel
theorem dX8_costOf_150 : decode cX8_costOf 150 = .ok (.getfield 31, 3) := by decide +kernel
theorem dX8_costOf_153 : decode cX8_costOf 153 = .ok (.iload 7, 2) := by decide +kernel
theorem dX8_costOf_155 : decode cX8_costOf 155 = .ok (.iaload, 1) := by decide +kernel
theorem dX8_costOf_156 : decode cX8_costOf 156 = .ok (.ishr, 1) := by decide +kernel
theorem dX8_costOf_157 : decode cX8_costOf 157 = .ok (.iconst 1, 1) := by decide +kernel
theorem dX8_costOf_158 : decode cX8_costOf 158 = .ok (.iand, 1) := by decide +kernel
theorem dX8_costOf_159 : decode cX8_costOf 159 = .ok (.ifCond .ne 10, 3) := by decide +kernel
theorem dX8_costOf_162 : decode cX8_costOf 162 = .ok (.aload_n 0, 1) := by decide +kernel
theorem dX8_costOf_163 : decode cX8_costOf 163 = .ok (.getfield 63, 3) := by decide +kernel
theorem dX8_costOf_166 : decode cX8_costOf 166 = .ok (.goto 4, 3) := by decide +kernel
theorem dX8_costOf_169 : decode cX8_costOf 169 = .ok (.iconst 0, 1) := by decide +kernel
theorem dX8_costOf_170 : decode cX8_costOf 170 = .ok (.iadd, 1) := by decide +kernel
theorem dX8_costOf_171 : decode cX8_costOf 171 = .ok (.istore 6, 2) := by decide +kernel
theorem dX8_costOf_173 : decode cX8_costOf 173 = .ok (.iinc 7 1, 3) := by decide +kernel
theorem dX8_costOf_176 : decode cX8_costOf 176 = .ok (.goto (-40), 3) := by decide +kernel
theorem dX8_costOf_179 : decode cX8_costOf 179 = .ok (.iload 6, 2) := by decide +kernel
theorem dX8_costOf_181 : decode cX8_costOf 181 = .ok (.ireturn, 1) := by decide +kernel
set_option maxRecDepth 20000 in
theorem ggX8_cost_X8_known : GoodIn wsX8_cost wsX8_known := goodIn_r _ [5, 6, 40, 41, 42, 43, 44, 45, 46, 47, 48, 49, 50, 51, 52, 53, 54, 55, 56, 57, 58, 59, 60, 61, 62, 63, 64, 65, 66] (by decide +kernel) (by decide +kernel)
set_option maxRecDepth 20000 in
theorem gX8_cost_X8_known : GoodIn wsX8_cost (wsV RX8 152 RX8 yX8_known wsX8_known) := goodIn_app (goodIn_of _ (by decide +kernel)) ggX8_cost_X8_known
set_option maxRecDepth 20000 in
theorem ggX8_cost_X8_finding : GoodIn wsX8_cost wsX8_finding := goodIn_r _ [10, 11, 12, 40, 41, 42, 43, 44, 45, 46, 47, 48, 49, 50, 51, 52, 53, 54, 55, 56, 57, 58, 59, 60, 61, 62, 63, 64, 65, 66] (by decide +kernel) (by decide +kernel)
set_option maxRecDepth 20000 in
theorem gX8_cost_X8_finding : GoodIn wsX8_cost (wsV RX8 95 RX8 yX8_finding wsX8_finding) := goodIn_app (goodIn_of _ (by decide +kernel)) ggX8_cost_X8_finding
set_option maxRecDepth 20000 in
theorem ggX8_cost_X8_costOf : GoodIn wsX8_cost wsX8_costOf := goodIn_r _ [16, 17, 18, 19, 20, 21, 22, 23, 24, 25, 26, 4, 27, 28, 29, 30, 31, 32, 33, 34, 35, 36, 37, 38, 39, 40, 41, 42, 43, 44, 45, 46, 47, 48, 49, 50, 51, 52, 53, 54, 55, 56, 57, 58, 59, 60, 61, 62, 63, 64, 65, 66] (by decide +kernel) (by decide +kernel)
set_option maxRecDepth 20000 in
theorem gX8_cost_X8_costOf : GoodIn wsX8_cost (wsV RX8 155 RX8 yX8_costOf wsX8_costOf) := goodIn_app (goodIn_of _ (by decide +kernel)) ggX8_cost_X8_costOf
theorem dX8_cost_0 : decode cX8_cost 0 = .ok (.iload_n 1, 1) := by decide +kernel
theorem dX8_cost_1 : decode cX8_cost 1 = .ok (.ifCond .lt 14, 3) := by decide +kernel
theorem dX8_cost_4 : decode cX8_cost 4 = .ok (.iload_n 1, 1) := by decide +kernel
theorem dX8_cost_5 : decode cX8_cost 5 = .ok (.aload_n 0, 1) := by decide +kernel
theorem dX8_cost_6 : decode cX8_cost 6 = .ok (.invokevirtual 152, 3) := by decide +kernel
theorem dX8_cost_9 : decode cX8_cost 9 = .ok (.iconst (-1), 1) := by decide +kernel
theorem dX8_cost_10 : decode cX8_cost 10 = .ok (.ixor, 1) := by decide +kernel
theorem dX8_cost_11 : decode cX8_cost 11 = .ok (.iand, 1) := by decide +kernel
theorem dX8_cost_12 : decode cX8_cost 12 = .ok (.ifCond .eq 9, 3) := by decide +kernel
theorem dX8_cost_15 : decode cX8_cost 15 = .ok (.aload_n 0, 1) := by decide +kernel
theorem dX8_cost_16 : decode cX8_cost 16 = .ok (.iconst 1, 1) := by decide +kernel
theorem dX8_cost_17 : decode cX8_cost 17 = .ok (.invokevirtual 95, 3) := by decide +kernel
theorem dX8_cost_20 : decode cX8_cost 20 = .ok (.lreturn, 1) := by decide +kernel
theorem dX8_cost_21 : decode cX8_cost 21 = .ok (.aload_n 0, 1) := by decide +kernel
theorem dX8_cost_22 : decode cX8_cost 22 = .ok (.iload_n 1, 1) := by decide +kernel
theorem dX8_cost_23 : decode cX8_cost 23 = .ok (.invokevirtual 155, 3) := by decide +kernel
theorem dX8_cost_26 : decode cX8_cost 26 = .ok (.istore_n 2, 1) := by decide +kernel
theorem dX8_cost_27 : decode cX8_cost 27 = .ok (.iload_n 2, 1) := by decide +kernel
theorem dX8_cost_28 : decode cX8_cost 28 = .ok (.ifCond .ge 11, 3) := by decide +kernel
theorem dX8_cost_31 : decode cX8_cost 31 = .ok (.aload_n 0, 1) := by decide +kernel
theorem dX8_cost_32 : decode cX8_cost 32 = .ok (.iconst 5, 1) := by decide +kernel
theorem dX8_cost_33 : decode cX8_cost 33 = .ok (.invokevirtual 95, 3) := by decide +kernel
theorem dX8_cost_36 : decode cX8_cost 36 = .ok (.goto 5, 3) := by decide +kernel
theorem dX8_cost_39 : decode cX8_cost 39 = .ok (.iload_n 2, 1) := by decide +kernel
theorem dX8_cost_40 : decode cX8_cost 40 = .ok (.i2l, 1) := by decide +kernel
theorem dX8_cost_41 : decode cX8_cost 41 = .ok (.lreturn, 1) := by decide +kernel
set_option maxRecDepth 20000 in
theorem ggX8_tellStories_X8_known : GoodIn wsX8_tellStories wsX8_known := goodIn_r _ [8, 9, 37, 38, 39, 40, 41, 42, 43, 44, 45, 46, 47, 48, 49, 50, 51, 52, 53, 54, 55, 56, 57, 58, 59, 60, 61, 62, 63] (by decide +kernel) (by decide +kernel)
set_option maxRecDepth 20000 in
theorem gX8_tellStories_X8_known : GoodIn wsX8_tellStories (wsV RX8 152 RX8 yX8_known wsX8_known) := goodIn_app (goodIn_of _ (by decide +kernel)) ggX8_tellStories_X8_known
set_option maxRecDepth 20000 in
theorem ggX8_tellStories_X8_costOf : GoodIn wsX8_tellStories wsX8_costOf := goodIn_r _ [13, 14, 15, 16, 17, 18, 19, 20, 21, 22, 23, 7, 24, 25, 26, 27, 28, 29, 30, 31, 32, 33, 34, 35, 36, 37, 38, 39, 40, 41, 42, 43, 44, 45, 46, 47, 48, 49, 50, 51, 52, 53, 54, 55, 56, 57, 58, 59, 60, 61, 62, 63] (by decide +kernel) (by decide +kernel)
set_option maxRecDepth 20000 in
theorem gX8_tellStories_X8_costOf : GoodIn wsX8_tellStories (wsV RX8 155 RX8 yX8_costOf wsX8_costOf) := goodIn_app (goodIn_of _ (by decide +kernel)) ggX8_tellStories_X8_costOf
theorem dX8_tellStories_0 : decode cX8_tellStories 0 = .ok (.aload_n 0, 1) := by decide +kernel
theorem dX8_tellStories_1 : decode cX8_tellStories 1 = .ok (.invokevirtual 152, 3) := by decide +kernel
theorem dX8_tellStories_4 : decode cX8_tellStories 4 = .ok (.istore_n 1, 1) := by decide +kernel
theorem dX8_tellStories_5 : decode cX8_tellStories 5 = .ok (.aload_n 0, 1) := by decide +kernel
theorem dX8_tellStories_6 : decode cX8_tellStories 6 = .ok (.iconst 0, 1) := by decide +kernel
theorem dX8_tellStories_7 : decode cX8_tellStories 7 = .ok (.putfield 158, 3) := by decide +kernel
theorem dX8_tellStories_10 : decode cX8_tellStories 10 = .ok (.iconst 0, 1) := by decide +kernel
theorem dX8_tellStories_11 : decode cX8_tellStories 11 = .ok (.istore_n 2, 1) := by decide +kernel
theorem dX8_tellStories_12 : decode cX8_tellStories 12 = .ok (.iload_n 2, 1) := by decide +kernel
theorem dX8_tellStories_13 : decode cX8_tellStories 13 = .ok (.sipush 1024, 3) := by decide +kernel
theorem dX8_tellStories_16 : decode cX8_tellStories 16 = .ok (.if_icmp .ge 88, 3) := by decide +kernel
theorem dX8_tellStories_19 : decode cX8_tellStories 19 = .ok (.iload_n 2, 1) := by decide +kernel
theorem dX8_tellStories_20 : decode cX8_tellStories 20 = .ok (.iload_n 1, 1) := by decide +kernel
theorem dX8_tellStories_21 : decode cX8_tellStories 21 = .ok (.iconst (-1), 1) := by decide +kernel
theorem dX8_tellStories_22 : decode cX8_tellStories 22 = .ok (.ixor, 1) := by decide +kernel
theorem dX8_tellStories_23 : decode cX8_tellStories 23 = .ok (.iand, 1) := by decide +kernel
theorem dX8_tellStories_24 : decode cX8_tellStories 24 = .ok (.ifCond .eq 7, 3) := by decide +kernel
theorem dX8_tellStories_27 : decode cX8_tellStories 27 = .ok (.iconst (-1), 1) := by decide +kernel
theorem dX8_tellStories_28 : decode cX8_tellStories 28 = .ok (.goto 8, 3) := by decide +kernel
theorem dX8_tellStories_31 : decode cX8_tellStories 31 = .ok (.aload_n 0, 1) := by decide +kernel
theorem dX8_tellStories_32 : decode cX8_tellStories 32 = .ok (.iload_n 2, 1) := by decide +kernel
theorem dX8_tellStories_33 : decode cX8_tellStories 33 = .ok (.invokevirtual 155, 3) := by decide +kernel
theorem dX8_tellStories_36 : decode cX8_tellStories 36 = .ok (.istore_n 3, 1) := by decide +kernel
theorem dX8_tellStories_37 : decode cX8_tellStories 37 = .ok (.iload_n 3, 1) := by decide +kernel
theorem dX8_tellStories_38 : decode cX8_tellStories 38 = .ok (.ifCond .lt 28, 3) := by decide +kernel
theorem dX8_tellStories_41 : decode cX8_tellStories 41 = .ok (.aload_n 0, 1) := by decide +kernel
theorem dX8_tellStories_42 : decode cX8_tellStories 42 = .ok (.getfield 158, 3) := by decide +kernel
theorem dX8_tellStories_45 : decode cX8_tellStories 45 = .ok (.ifCond .eq 11, 3) := by decide +kernel
theorem dX8_tellStories_48 : decode cX8_tellStories 48 = .ok (.iload_n 3, 1) := by decide +kernel
theorem dX8_tellStories_49 : decode cX8_tellStories 49 = .ok (.aload_n 0, 1) := by decide +kernel
theorem dX8_tellStories_50 : decode cX8_tellStories 50 = .ok (.getfield 161, 3) := by decide +kernel
theorem dX8_tellStories_53 : decode cX8_tellStories 53 = .ok (.if_icmp .ge 13, 3) := by decide +kernel
theorem dX8_tellStories_56 : decode cX8_tellStories 56 = .ok (.aload_n 0, 1) := by decide +kernel
theorem dX8_tellStories_57 : decode cX8_tellStories 57 = .ok (.iconst 0, 1) := by decide +kernel
theorem dX8_tellStories_58 : decode cX8_tellStories 58 = .ok (.putfield 158, 3) := by decide +kernel
theorem dX8_tellStories_61 : decode cX8_tellStories 61 = .ok (.aload_n 0, 1) := by decide +kernel
theorem dX8_tellStories_62 : decode cX8_tellStories 62 = .ok (.iload_n 3, 1) := by decide +kernel
theorem dX8_tellStories_63 : decode cX8_tellStories 63 = .ok (.putfield 161, 3) := by decide +kernel
theorem dX8_tellStories_66 : decode cX8_tellStories 66 = .ok (.iload_n 3, 1) := by decide +kernel
theorem dX8_tellStories_67 : decode cX8_tellStories 67 = .ok (.ifCond .lt 31, 3) := by decide +kernel
theorem dX8_tellStories_70 : decode cX8_tellStories 70 = .ok (.iload_n 3, 1) := by decide +kernel
theorem dX8_tellStories_71 : decode cX8_tellStories 71 = .ok (.aload_n 0, 1) := by decide +kernel
theorem dX8_tellStories_72 : decode cX8_tellStories 72 = .ok (.getfield 161, 3) := by decide +kernel
theorem dX8_tellStories_75 : decode cX8_tellStories 75 = .ok (.if_icmp .ne 23, 3) := by decide +kernel
theorem dX8_tellStories_78 : decode cX8_tellStories 78 = .ok (.aload_n 0, 1) := by decide +kernel
theorem dX8_tellStories_79 : decode cX8_tellStories 79 = .ok (.getfield 76, 3) := by decide +kernel
theorem dX8_tellStories_82 : decode cX8_tellStories 82 = .ok (.aload_n 0, 1) := by decide +kernel
theorem dX8_tellStories_83 : decode cX8_tellStories 83 = .ok (.getfield 158, 3) := by decide +kernel
theorem dX8_tellStories_86 : decode cX8_tellStories 86 = .ok (.iload_n 2, 1) := by decide +kernel
theorem dX8_tellStories_87 : decode cX8_tellStories 87 = .ok (.iastore, 1) := by decide +kernel
theorem dX8_tellStories_88 : decode cX8_tellStories 88 = .ok (.aload_n 0, 1) := by decide +kernel
theorem dX8_tellStories_89 : decode cX8_tellStories 89 = .ok (.dup, 1) := by decide +kernel
theorem dX8_tellStories_90 : decode cX8_tellStories 90 = .ok (.getfield 158, 3) := by decide +kernel
theorem dX8_tellStories_93 : decode cX8_tellStories 93 = .ok (.iconst 1, 1) := by decide +kernel
theorem dX8_tellStories_94 : decode cX8_tellStories 94 = .ok (.iadd, 1) := by decide +kernel
theorem dX8_tellStories_95 : decode cX8_tellStories 95 = .ok (.putfield 158, 3) := by decide +kernel
theorem dX8_tellStories_98 : decode cX8_tellStories 98 = .ok (.iinc 2 1, 3) := by decide +kernel
theorem dX8_tellStories_101 : decode cX8_tellStories 101 = .ok (.goto (-89), 3) := by decide +kernel
theorem dX8_tellStories_104 : decode cX8_tellStories 104 = .ok (.return_, 1) := by decide +kernel
set_option maxRecDepth 20000 in
theorem ggX8_least_X8_tellStories : GoodIn wsX8_least wsX8_tellStories := goodIn_r _ [7, 1, 2, 8, 9, 10, 11, 6, 12, 13, 14, 15, 16, 17, 18, 19, 20, 21, 22, 23, 24, 25, 26, 27, 28, 29, 30, 31, 32, 33, 34, 35, 36, 37, 38, 39, 40, 47, 48, 49, 50, 51, 52, 53, 54, 55, 56, 57, 58, 59, 60, 61, 62, 63, 64, 65, 66, 67, 68, 69, 70, 71, 72, 73] (by decide +kernel) (by decide +kernel)
set_option maxRecDepth 20000 in
theorem gX8_least_X8_tellStories : GoodIn wsX8_least (wsV RX8 164 RX8 yX8_tellStories wsX8_tellStories) := goodIn_app (goodIn_of _ (by decide +kernel)) ggX8_least_X8_tellStories
set_option maxRecDepth 20000 in
theorem ggX8_least_X8_finding : GoodIn wsX8_least wsX8_finding := goodIn_r _ [44, 45, 46, 47, 48, 49, 50, 51, 52, 53, 54, 55, 56, 57, 58, 59, 60, 61, 62, 63, 64, 65, 66, 67, 68, 69, 70, 71, 72, 73] (by decide +kernel) (by decide +kernel)
set_option maxRecDepth 20000 in
theorem gX8_least_X8_finding : GoodIn wsX8_least (wsV RX8 95 RX8 yX8_finding wsX8_finding) := goodIn_app (goodIn_of _ (by decide +kernel)) ggX8_least_X8_finding
theorem dX8_least_0 : decode cX8_least 0 = .ok (.aload_n 0, 1) := by decide +kernel
theorem dX8_least_1 : decode cX8_least 1 = .ok (.invokevirtual 164, 3) := by decide +kernel
theorem dX8_least_4 : decode cX8_least 4 = .ok (.aload_n 0, 1) := by decide +kernel
theorem dX8_least_5 : decode cX8_least 5 = .ok (.getfield 158, 3) := by decide +kernel
theorem dX8_least_8 : decode cX8_least 8 = .ok (.ifCond .ne 11, 3) := by decide +kernel
theorem dX8_least_11 : decode cX8_least 11 = .ok (.aload_n 0, 1) := by decide +kernel
theorem dX8_least_12 : decode cX8_least 12 = .ok (.iconst 2, 1) := by decide +kernel
theorem dX8_least_13 : decode cX8_least 13 = .ok (.invokevirtual 95, 3) := by decide +kernel
theorem dX8_least_16 : decode cX8_least 16 = .ok (.goto 8, 3) := by decide +kernel
theorem dX8_least_19 : decode cX8_least 19 = .ok (.aload_n 0, 1) := by decide +kernel
theorem dX8_least_20 : decode cX8_least 20 = .ok (.getfield 161, 3) := by decide +kernel
theorem dX8_least_23 : decode cX8_least 23 = .ok (.i2l, 1) := by decide +kernel
theorem dX8_least_24 : decode cX8_least 24 = .ok (.lreturn, 1) := by decide +kernel
set_option maxRecDepth 20000 in
theorem ggX8_many_X8_tellStories : GoodIn wsX8_many wsX8_tellStories := goodIn_r _ [6, 1, 7, 8, 9, 10, 11, 5, 12, 13, 14, 15, 16, 17, 18, 19, 20, 21, 22, 23, 24, 25, 26, 27, 28, 29, 30, 31, 32, 33, 34, 35, 36, 37, 38, 39, 40, 41, 42, 43, 44, 45, 46, 47, 48, 49, 50, 51, 52, 53, 54, 55, 56, 57, 58, 59, 60, 61, 62, 63, 64, 65, 66, 67] (by decide +kernel) (by decide +kernel)
set_option maxRecDepth 20000 in
theorem gX8_many_X8_tellStories : GoodIn wsX8_many (wsV RX8 164 RX8 yX8_tellStories wsX8_tellStories) := goodIn_app (goodIn_of _ (by decide +kernel)) ggX8_many_X8_tellStories
theorem dX8_many_0 : decode cX8_many 0 = .ok (.aload_n 0, 1) := by decide +kernel
theorem dX8_many_1 : decode cX8_many 1 = .ok (.invokevirtual 164, 3) := by decide +kernel
theorem dX8_many_4 : decode cX8_many 4 = .ok (.aload_n 0, 1) := by decide +kernel
theorem dX8_many_5 : decode cX8_many 5 = .ok (.getfield 158, 3) := by decide +kernel
theorem dX8_many_8 : decode cX8_many 8 = .ok (.i2l, 1) := by decide +kernel
theorem dX8_many_9 : decode cX8_many 9 = .ok (.lreturn, 1) := by decide +kernel
set_option maxRecDepth 20000 in
theorem ggX8_story_X8_finding : GoodIn wsX8_story wsX8_finding := goodIn_r _ [7, 8, 9, 47, 48, 49, 50, 51, 52, 53, 54, 55, 56, 57, 58, 59, 60, 61, 62, 63, 64, 65, 66, 67, 68, 69, 70, 71, 72, 73] (by decide +kernel) (by decide +kernel)
set_option maxRecDepth 20000 in
theorem gX8_story_X8_finding : GoodIn wsX8_story (wsV RX8 95 RX8 yX8_finding wsX8_finding) := goodIn_app (goodIn_of _ (by decide +kernel)) ggX8_story_X8_finding
set_option maxRecDepth 20000 in
theorem ggX8_story_X8_tellStories : GoodIn wsX8_story wsX8_tellStories := goodIn_r _ [13, 1, 14, 2, 15, 16, 17, 6, 18, 19, 20, 21, 22, 23, 24, 25, 26, 27, 28, 29, 30, 31, 32, 33, 34, 35, 36, 37, 38, 39, 40, 41, 42, 43, 44, 45, 46, 47, 48, 49, 50, 51, 52, 53, 54, 55, 56, 57, 58, 59, 60, 61, 62, 63, 64, 65, 66, 67, 68, 69, 70, 71, 72, 73] (by decide +kernel) (by decide +kernel)
set_option maxRecDepth 20000 in
theorem gX8_story_X8_tellStories : GoodIn wsX8_story (wsV RX8 164 RX8 yX8_tellStories wsX8_tellStories) := goodIn_app (goodIn_of _ (by decide +kernel)) ggX8_story_X8_tellStories
theorem dX8_story_0 : decode cX8_story 0 = .ok (.iload_n 1, 1) := by decide +kernel
theorem dX8_story_1 : decode cX8_story 1 = .ok (.ifCond .ge 9, 3) := by decide +kernel
theorem dX8_story_4 : decode cX8_story 4 = .ok (.aload_n 0, 1) := by decide +kernel
theorem dX8_story_5 : decode cX8_story 5 = .ok (.iconst 1, 1) := by decide +kernel
theorem dX8_story_6 : decode cX8_story 6 = .ok (.invokevirtual 95, 3) := by decide +kernel
theorem dX8_story_9 : decode cX8_story 9 = .ok (.lreturn, 1) := by decide +kernel
theorem dX8_story_10 : decode cX8_story 10 = .ok (.aload_n 0, 1) := by decide +kernel
theorem dX8_story_11 : decode cX8_story 11 = .ok (.invokevirtual 164, 3) := by decide +kernel
theorem dX8_story_14 : decode cX8_story 14 = .ok (.iload_n 1, 1) := by decide +kernel
theorem dX8_story_15 : decode cX8_story 15 = .ok (.aload_n 0, 1) := by decide +kernel
theorem dX8_story_16 : decode cX8_story 16 = .ok (.getfield 158, 3) := by decide +kernel
theorem dX8_story_19 : decode cX8_story 19 = .ok (.if_icmp .lt 11, 3) := by decide +kernel
theorem dX8_story_22 : decode cX8_story 22 = .ok (.aload_n 0, 1) := by decide +kernel
theorem dX8_story_23 : decode cX8_story 23 = .ok (.iconst 2, 1) := by decide +kernel
theorem dX8_story_24 : decode cX8_story 24 = .ok (.invokevirtual 95, 3) := by decide +kernel
theorem dX8_story_27 : decode cX8_story 27 = .ok (.goto 10, 3) := by decide +kernel
theorem dX8_story_30 : decode cX8_story 30 = .ok (.aload_n 0, 1) := by decide +kernel
theorem dX8_story_31 : decode cX8_story 31 = .ok (.getfield 76, 3) := by decide +kernel
theorem dX8_story_34 : decode cX8_story 34 = .ok (.iload_n 1, 1) := by decide +kernel
theorem dX8_story_35 : decode cX8_story 35 = .ok (.iaload, 1) := by decide +kernel
theorem dX8_story_36 : decode cX8_story 36 = .ok (.i2l, 1) := by decide +kernel
theorem dX8_story_37 : decode cX8_story 37 = .ok (.lreturn, 1) := by decide +kernel
set_option maxRecDepth 20000 in
theorem ggX8_sure_X8_isIn : GoodIn wsX8_sure wsX8_isIn := goodIn_r _ [8] (by decide +kernel) (by decide +kernel)
set_option maxRecDepth 20000 in
theorem gX8_sure_X8_isIn : GoodIn wsX8_sure (va_wsS RX8 81 yX8_isIn wsX8_isIn) := goodIn_app (goodIn_of _ (by decide +kernel)) ggX8_sure_X8_isIn
set_option maxRecDepth 20000 in
theorem ggX8_sure_X8_finding : GoodIn wsX8_sure wsX8_finding := goodIn_r _ [12, 13, 14, 51, 52, 53, 54, 55, 56, 57, 58, 59, 60, 61, 62, 63, 64, 65, 66, 67, 68, 69, 70, 71, 72, 73, 74, 75, 76, 77] (by decide +kernel) (by decide +kernel)
set_option maxRecDepth 20000 in
theorem gX8_sure_X8_finding : GoodIn wsX8_sure (wsV RX8 95 RX8 yX8_finding wsX8_finding) := goodIn_app (goodIn_of _ (by decide +kernel)) ggX8_sure_X8_finding
set_option maxRecDepth 20000 in
theorem ggX8_sure_X8_tellStories : GoodIn wsX8_sure wsX8_tellStories := goodIn_r _ [18, 2, 19, 3, 20, 21, 22, 7, 23, 1, 24, 25, 26, 27, 28, 29, 30, 31, 32, 33, 34, 35, 36, 37, 38, 39, 40, 41, 42, 43, 44, 45, 46, 47, 48, 49, 50, 51, 52, 53, 54, 55, 56, 57, 58, 59, 60, 61, 62, 63, 64, 65, 66, 67, 68, 69, 70, 71, 72, 73, 74, 75, 76, 77] (by decide +kernel) (by decide +kernel)
set_option maxRecDepth 20000 in
theorem gX8_sure_X8_tellStories : GoodIn wsX8_sure (wsV RX8 164 RX8 yX8_tellStories wsX8_tellStories) := goodIn_app (goodIn_of _ (by decide +kernel)) ggX8_sure_X8_tellStories
theorem dX8_sure_0 : decode cX8_sure 0 = .ok (.iload_n 1, 1) := by decide +kernel
theorem dX8_sure_1 : decode cX8_sure 1 = .ok (.iconst 0, 1) := by decide +kernel
theorem dX8_sure_2 : decode cX8_sure 2 = .ok (.bipush 9, 2) := by decide +kernel
theorem dX8_sure_4 : decode cX8_sure 4 = .ok (.invokestatic 81, 3) := by decide +kernel
theorem dX8_sure_7 : decode cX8_sure 7 = .ok (.ifCond .eq 12, 3) := by decide +kernel
theorem dX8_sure_10 : decode cX8_sure 10 = .ok (.aload_n 0, 1) := by decide +kernel
theorem dX8_sure_11 : decode cX8_sure 11 = .ok (.getfield 43, 3) := by decide +kernel
theorem dX8_sure_14 : decode cX8_sure 14 = .ok (.iload_n 1, 1) := by decide +kernel
theorem dX8_sure_15 : decode cX8_sure 15 = .ok (.baload, 1) := by decide +kernel
theorem dX8_sure_16 : decode cX8_sure 16 = .ok (.ifCond .ne 9, 3) := by decide +kernel
theorem dX8_sure_19 : decode cX8_sure 19 = .ok (.aload_n 0, 1) := by decide +kernel
theorem dX8_sure_20 : decode cX8_sure 20 = .ok (.iconst 1, 1) := by decide +kernel
theorem dX8_sure_21 : decode cX8_sure 21 = .ok (.invokevirtual 95, 3) := by decide +kernel
theorem dX8_sure_24 : decode cX8_sure 24 = .ok (.lreturn, 1) := by decide +kernel
theorem dX8_sure_25 : decode cX8_sure 25 = .ok (.aload_n 0, 1) := by decide +kernel
theorem dX8_sure_26 : decode cX8_sure 26 = .ok (.invokevirtual 164, 3) := by decide +kernel
theorem dX8_sure_29 : decode cX8_sure 29 = .ok (.aload_n 0, 1) := by decide +kernel
theorem dX8_sure_30 : decode cX8_sure 30 = .ok (.getfield 158, 3) := by decide +kernel
theorem dX8_sure_33 : decode cX8_sure 33 = .ok (.ifCond .ne 9, 3) := by decide +kernel
theorem dX8_sure_36 : decode cX8_sure 36 = .ok (.aload_n 0, 1) := by decide +kernel
theorem dX8_sure_37 : decode cX8_sure 37 = .ok (.iconst 2, 1) := by decide +kernel
theorem dX8_sure_38 : decode cX8_sure 38 = .ok (.invokevirtual 95, 3) := by decide +kernel
theorem dX8_sure_41 : decode cX8_sure 41 = .ok (.lreturn, 1) := by decide +kernel
theorem dX8_sure_42 : decode cX8_sure 42 = .ok (.iconst 0, 1) := by decide +kernel
theorem dX8_sure_43 : decode cX8_sure 43 = .ok (.istore_n 2, 1) := by decide +kernel
theorem dX8_sure_44 : decode cX8_sure 44 = .ok (.iconst 0, 1) := by decide +kernel
theorem dX8_sure_45 : decode cX8_sure 45 = .ok (.istore_n 3, 1) := by decide +kernel
theorem dX8_sure_46 : decode cX8_sure 46 = .ok (.iload_n 3, 1) := by decide +kernel
theorem dX8_sure_47 : decode cX8_sure 47 = .ok (.aload_n 0, 1) := by decide +kernel
theorem dX8_sure_48 : decode cX8_sure 48 = .ok (.getfield 158, 3) := by decide +kernel
theorem dX8_sure_51 : decode cX8_sure 51 = .ok (.if_icmp .ge 22, 3) := by decide +kernel
theorem dX8_sure_54 : decode cX8_sure 54 = .ok (.iload_n 2, 1) := by decide +kernel
theorem dX8_sure_55 : decode cX8_sure 55 = .ok (.aload_n 0, 1) := by decide +kernel
theorem dX8_sure_56 : decode cX8_sure 56 = .ok (.getfield 76, 3) := by decide +kernel
theorem dX8_sure_59 : decode cX8_sure 59 = .ok (.iload_n 3, 1) := by decide +kernel
theorem dX8_sure_60 : decode cX8_sure 60 = .ok (.iaload, 1) := by decide +kernel
theorem dX8_sure_61 : decode cX8_sure 61 = .ok (.iload_n 1, 1) := by decide +kernel
theorem dX8_sure_62 : decode cX8_sure 62 = .ok (.ishr, 1) := by decide +kernel
theorem dX8_sure_63 : decode cX8_sure 63 = .ok (.iconst 1, 1) := by decide +kernel
theorem dX8_sure_64 : decode cX8_sure 64 = .ok (.iand, 1) := by decide +kernel
theorem dX8_sure_65 : decode cX8_sure 65 = .ok (.iadd, 1) := by decide +kernel
theorem dX8_sure_66 : decode cX8_sure 66 = .ok (.istore_n 2, 1) := by decide +kernel
theorem dX8_sure_67 : decode cX8_sure 67 = .ok (.iinc 3 1, 3) := by decide +kernel
theorem dX8_sure_70 : decode cX8_sure 70 = .ok (.goto (-24), 3) := by decide +kernel
theorem dX8_sure_73 : decode cX8_sure 73 = .ok (.iload_n 2, 1) := by decide +kernel
theorem dX8_sure_74 : decode cX8_sure 74 = .ok (.aload_n 0, 1) := by decide +kernel
theorem dX8_sure_75 : decode cX8_sure 75 = .ok (.getfield 158, 3) := by decide +kernel
theorem dX8_sure_78 : decode cX8_sure 78 = .ok (.if_icmp .ne 7, 3) := by decide +kernel
theorem dX8_sure_81 : decode cX8_sure 81 = .ok (.lconst 1, 1) := by decide +kernel
theorem dX8_sure_82 : decode cX8_sure 82 = .ok (.goto 14, 3) := by decide +kernel
theorem dX8_sure_85 : decode cX8_sure 85 = .ok (.iload_n 2, 1) := by decide +kernel
theorem dX8_sure_86 : decode cX8_sure 86 = .ok (.ifCond .ne 9, 3) := by decide +kernel
theorem dX8_sure_89 : decode cX8_sure 89 = .ok (.ldc2_w 167, 3) := by decide +kernel
theorem dX8_sure_92 : decode cX8_sure 92 = .ok (.goto 4, 3) := by decide +kernel
theorem dX8_sure_95 : decode cX8_sure 95 = .ok (.lconst 0, 1) := by decide +kernel
theorem dX8_sure_96 : decode cX8_sure 96 = .ok (.lreturn, 1) := by decide +kernel
set_option maxRecDepth 20000 in
theorem ggX8_partsOf_X8_left : GoodIn wsX8_partsOf wsX8_left := goodIn_r _ [8, 9, 10, 11, 12, 7, 13, 14, 15, 16, 17, 18, 19, 20, 21, 22, 23, 24, 25, 26, 27, 28, 29, 30, 31, 32, 33, 34, 35, 36, 37, 38, 39, 40] (by decide +kernel) (by decide +kernel)
set_option maxRecDepth 20000 in
theorem gX8_partsOf_X8_left : GoodIn wsX8_partsOf (wsV RX8 149 RX8 yX8_left wsX8_left) := goodIn_app (goodIn_of _ (by decide +kernel)) ggX8_partsOf_X8_left
set_option maxRecDepth 20000 in
theorem ggX8_partsOf_X8_together : GoodIn wsX8_partsOf wsX8_together := goodIn_r _ [13] (by decide +kernel) (by decide +kernel)
set_option maxRecDepth 20000 in
theorem gX8_partsOf_X8_together : GoodIn wsX8_partsOf (va_wsS RX8 141 yX8_together wsX8_together) := goodIn_app (goodIn_of _ (by decide +kernel)) ggX8_partsOf_X8_together
theorem dX8_partsOf_0 : decode cX8_partsOf 0 = .ok (.iconst 0, 1) := by decide +kernel
theorem dX8_partsOf_1 : decode cX8_partsOf 1 = .ok (.istore_n 2, 1) := by decide +kernel
theorem dX8_partsOf_2 : decode cX8_partsOf 2 = .ok (.iconst 0, 1) := by decide +kernel
theorem dX8_partsOf_3 : decode cX8_partsOf 3 = .ok (.istore_n 3, 1) := by decide +kernel
theorem dX8_partsOf_4 : decode cX8_partsOf 4 = .ok (.iload_n 3, 1) := by decide +kernel
theorem dX8_partsOf_5 : decode cX8_partsOf 5 = .ok (.aload_n 0, 1) := by decide +kernel
theorem dX8_partsOf_6 : decode cX8_partsOf 6 = .ok (.getfield 158, 3) := by decide +kernel
theorem dX8_partsOf_9 : decode cX8_partsOf 9 = .ok (.if_icmp .ge 42, 3) := by decide +kernel
theorem dX8_partsOf_12 : decode cX8_partsOf 12 = .ok (.iload_n 2, 1) := by decide +kernel
theorem dX8_partsOf_13 : decode cX8_partsOf 13 = .ok (.aload_n 0, 1) := by decide +kernel
theorem dX8_partsOf_14 : decode cX8_partsOf 14 = .ok (.aload_n 0, 1) := by decide +kernel
theorem dX8_partsOf_15 : decode cX8_partsOf 15 = .ok (.getfield 76, 3) := by decide +kernel
theorem dX8_partsOf_18 : decode cX8_partsOf 18 = .ok (.iload_n 3, 1) := by decide +kernel
theorem dX8_partsOf_19 : decode cX8_partsOf 19 = .ok (.iaload, 1) := by decide +kernel
theorem dX8_partsOf_20 : decode cX8_partsOf 20 = .ok (.invokevirtual 149, 3) := by decide +kernel
theorem dX8_partsOf_23 : decode cX8_partsOf 23 = .ok (.aload_n 0, 1) := by decide +kernel
theorem dX8_partsOf_24 : decode cX8_partsOf 24 = .ok (.getfield 56, 3) := by decide +kernel
theorem dX8_partsOf_27 : decode cX8_partsOf 27 = .ok (.aload_n 0, 1) := by decide +kernel
theorem dX8_partsOf_28 : decode cX8_partsOf 28 = .ok (.getfield 76, 3) := by decide +kernel
theorem dX8_partsOf_31 : decode cX8_partsOf 31 = .ok (.iload_n 3, 1) := by decide +kernel
theorem dX8_partsOf_32 : decode cX8_partsOf 32 = .ok (.iaload, 1) := by decide +kernel
theorem dX8_partsOf_33 : decode cX8_partsOf 33 = .ok (.invokestatic 141, 3) := by decide +kernel
theorem dX8_partsOf_36 : decode cX8_partsOf 36 = .ok (.iconst (-1), 1) := by decide +kernel
theorem dX8_partsOf_37 : decode cX8_partsOf 37 = .ok (.ixor, 1) := by decide +kernel
theorem dX8_partsOf_38 : decode cX8_partsOf 38 = .ok (.iand, 1) := by decide +kernel
theorem dX8_partsOf_39 : decode cX8_partsOf 39 = .ok (.iload_n 1, 1) := by decide +kernel
theorem dX8_partsOf_40 : decode cX8_partsOf 40 = .ok (.ishr, 1) := by decide +kernel
theorem dX8_partsOf_41 : decode cX8_partsOf 41 = .ok (.iconst 1, 1) := by decide +kernel
theorem dX8_partsOf_42 : decode cX8_partsOf 42 = .ok (.iand, 1) := by decide +kernel
theorem dX8_partsOf_43 : decode cX8_partsOf 43 = .ok (.iadd, 1) := by decide +kernel
theorem dX8_partsOf_44 : decode cX8_partsOf 44 = .ok (.istore_n 2, 1) := by decide +kernel
theorem dX8_partsOf_45 : decode cX8_partsOf 45 = .ok (.iinc 3 1, 3) := by decide +kernel
theorem dX8_partsOf_48 : decode cX8_partsOf 48 = .ok (.goto (-44), 3) := by decide +kernel
theorem dX8_partsOf_51 : decode cX8_partsOf 51 = .ok (.iload_n 2, 1) := by decide +kernel
theorem dX8_partsOf_52 : decode cX8_partsOf 52 = .ok (.aload_n 0, 1) := by decide +kernel
theorem dX8_partsOf_53 : decode cX8_partsOf 53 = .ok (.getfield 158, 3) := by decide +kernel
theorem dX8_partsOf_56 : decode cX8_partsOf 56 = .ok (.iload_n 2, 1) := by decide +kernel
theorem dX8_partsOf_57 : decode cX8_partsOf 57 = .ok (.isub, 1) := by decide +kernel
theorem dX8_partsOf_58 : decode cX8_partsOf 58 = .ok (.if_icmp .ge 7, 3) := by decide +kernel
theorem dX8_partsOf_61 : decode cX8_partsOf 61 = .ok (.iload_n 2, 1) := by decide +kernel
theorem dX8_partsOf_62 : decode cX8_partsOf 62 = .ok (.goto 9, 3) := by decide +kernel
theorem dX8_partsOf_65 : decode cX8_partsOf 65 = .ok (.aload_n 0, 1) := by decide +kernel
theorem dX8_partsOf_66 : decode cX8_partsOf 66 = .ok (.getfield 158, 3) := by decide +kernel
theorem dX8_partsOf_69 : decode cX8_partsOf 69 = .ok (.iload_n 2, 1) := by decide +kernel
theorem dX8_partsOf_70 : decode cX8_partsOf 70 = .ok (.isub, 1) := by decide +kernel
theorem dX8_partsOf_71 : decode cX8_partsOf 71 = .ok (.ireturn, 1) := by decide +kernel
set_option maxRecDepth 20000 in
theorem ggX8_parts_X8_isIn : GoodIn wsX8_parts wsX8_isIn := goodIn_r _ [5] (by decide +kernel) (by decide +kernel)
set_option maxRecDepth 20000 in
theorem gX8_parts_X8_isIn : GoodIn wsX8_parts (va_wsS RX8 81 yX8_isIn wsX8_isIn) := goodIn_app (goodIn_of _ (by decide +kernel)) ggX8_parts_X8_isIn
set_option maxRecDepth 20000 in
theorem ggX8_parts_X8_finding : GoodIn wsX8_parts wsX8_finding := goodIn_r _ [9, 10, 11, 54, 55, 56, 57, 58, 59, 60, 61, 62, 63, 64, 65, 66, 67, 68, 69, 70, 71, 72, 73, 74, 75, 76, 77, 78, 79, 80] (by decide +kernel) (by decide +kernel)
set_option maxRecDepth 20000 in
theorem gX8_parts_X8_finding : GoodIn wsX8_parts (wsV RX8 95 RX8 yX8_finding wsX8_finding) := goodIn_app (goodIn_of _ (by decide +kernel)) ggX8_parts_X8_finding
set_option maxRecDepth 20000 in
theorem ggX8_parts_X8_there : GoodIn wsX8_parts wsX8_there := goodIn_r _ [15, 16, 17, 18, 54, 55, 56, 57, 58, 59, 60, 61, 62, 63, 64, 65, 66, 67, 68, 69, 70, 71, 72, 73, 74, 75, 76, 77, 78, 79, 80] (by decide +kernel) (by decide +kernel)
set_option maxRecDepth 20000 in
theorem gX8_parts_X8_there : GoodIn wsX8_parts (wsV RX8 145 RX8 yX8_there wsX8_there) := goodIn_app (goodIn_of _ (by decide +kernel)) ggX8_parts_X8_there
set_option maxRecDepth 20000 in
theorem ggX8_parts_X8_tellStories : GoodIn wsX8_parts wsX8_tellStories := goodIn_r _ [22, 1, 23, 24, 25, 26, 27, 4, 28, 29, 30, 31, 32, 33, 34, 35, 36, 37, 38, 16, 18, 39, 40, 41, 42, 12, 13, 14, 15, 17, 43, 44, 45, 46, 47, 48, 49, 54, 55, 56, 57, 58, 59, 60, 61, 62, 63, 64, 65, 66, 67, 68, 69, 70, 71, 72, 73, 74, 75, 76, 77, 78, 79, 80] (by decide +kernel) (by decide +kernel)
set_option maxRecDepth 20000 in
theorem gX8_parts_X8_tellStories : GoodIn wsX8_parts (wsV RX8 164 RX8 yX8_tellStories wsX8_tellStories) := goodIn_app (goodIn_of _ (by decide +kernel)) ggX8_parts_X8_tellStories
set_option maxRecDepth 20000 in
theorem ggX8_parts_X8_partsOf : GoodIn wsX8_parts wsX8_partsOf := goodIn_r _ [53, 1, 24, 35, 43, 44, 45, 4, 46, 34, 37, 40, 41, 42, 54, 55, 56, 57, 58, 59, 60, 61, 62, 63, 64, 65, 66, 67, 68, 69, 70, 71, 72, 73, 74, 75, 76, 77, 78, 79, 80] (by decide +kernel) (by decide +kernel)
set_option maxRecDepth 20000 in
theorem gX8_parts_X8_partsOf : GoodIn wsX8_parts (wsV RX8 169 RX8 yX8_partsOf wsX8_partsOf) := goodIn_app (goodIn_of _ (by decide +kernel)) ggX8_parts_X8_partsOf
theorem dX8_parts_0 : decode cX8_parts 0 = .ok (.iload_n 1, 1) := by decide +kernel
theorem dX8_parts_1 : decode cX8_parts 1 = .ok (.iconst 0, 1) := by decide +kernel
theorem dX8_parts_2 : decode cX8_parts 2 = .ok (.bipush 15, 2) := by decide +kernel
theorem dX8_parts_4 : decode cX8_parts 4 = .ok (.invokestatic 81, 3) := by decide +kernel
theorem dX8_parts_7 : decode cX8_parts 7 = .ok (.ifCond .ne 9, 3) := by decide +kernel
theorem dX8_parts_10 : decode cX8_parts 10 = .ok (.aload_n 0, 1) := by decide +kernel
theorem dX8_parts_11 : decode cX8_parts 11 = .ok (.iconst 1, 1) := by decide +kernel
theorem dX8_parts_12 : decode cX8_parts 12 = .ok (.invokevirtual 95, 3) := by decide +kernel
theorem dX8_parts_15 : decode cX8_parts 15 = .ok (.lreturn, 1) := by decide +kernel
theorem dX8_parts_16 : decode cX8_parts 16 = .ok (.aload_n 0, 1) := by decide +kernel
theorem dX8_parts_17 : decode cX8_parts 17 = .ok (.iconst 0, 1) := by decide +kernel
theorem dX8_parts_18 : decode cX8_parts 18 = .ok (.invokevirtual 145, 3) := by decide +kernel
theorem dX8_parts_21 : decode cX8_parts 21 = .ok (.iload_n 1, 1) := by decide +kernel
theorem dX8_parts_22 : decode cX8_parts 22 = .ok (.ishr, 1) := by decide +kernel
theorem dX8_parts_23 : decode cX8_parts 23 = .ok (.iconst 1, 1) := by decide +kernel
theorem dX8_parts_24 : decode cX8_parts 24 = .ok (.iand, 1) := by decide +kernel
theorem dX8_parts_25 : decode cX8_parts 25 = .ok (.iconst 1, 1) := by decide +kernel
theorem dX8_parts_26 : decode cX8_parts 26 = .ok (.if_icmp .ne 9, 3) := by decide +kernel
theorem dX8_parts_29 : decode cX8_parts 29 = .ok (.aload_n 0, 1) := by decide +kernel
theorem dX8_parts_30 : decode cX8_parts 30 = .ok (.iconst 5, 1) := by decide +kernel
theorem dX8_parts_31 : decode cX8_parts 31 = .ok (.invokevirtual 95, 3) := by decide +kernel
theorem dX8_parts_34 : decode cX8_parts 34 = .ok (.lreturn, 1) := by decide +kernel
theorem dX8_parts_35 : decode cX8_parts 35 = .ok (.aload_n 0, 1) := by decide +kernel
theorem dX8_parts_36 : decode cX8_parts 36 = .ok (.invokevirtual 164, 3) := by decide +kernel
theorem dX8_parts_39 : decode cX8_parts 39 = .ok (.aload_n 0, 1) := by decide +kernel
theorem dX8_parts_40 : decode cX8_parts 40 = .ok (.getfield 158, 3) := by decide +kernel
theorem dX8_parts_43 : decode cX8_parts 43 = .ok (.ifCond .ne 11, 3) := by decide +kernel
theorem dX8_parts_46 : decode cX8_parts 46 = .ok (.aload_n 0, 1) := by decide +kernel
theorem dX8_parts_47 : decode cX8_parts 47 = .ok (.iconst 2, 1) := by decide +kernel
theorem dX8_parts_48 : decode cX8_parts 48 = .ok (.invokevirtual 95, 3) := by decide +kernel
theorem dX8_parts_51 : decode cX8_parts 51 = .ok (.goto 9, 3) := by decide +kernel
theorem dX8_parts_54 : decode cX8_parts 54 = .ok (.aload_n 0, 1) := by decide +kernel
theorem dX8_parts_55 : decode cX8_parts 55 = .ok (.iload_n 1, 1) := by decide +kernel
theorem dX8_parts_56 : decode cX8_parts 56 = .ok (.invokevirtual 169, 3) := by decide +kernel
theorem dX8_parts_59 : decode cX8_parts 59 = .ok (.i2l, 1) := by decide +kernel
theorem dX8_parts_60 : decode cX8_parts 60 = .ok (.lreturn, 1) := by decide +kernel
set_option maxRecDepth 20000 in
theorem ggX8_ask_X8_tellStories : GoodIn wsX8_ask wsX8_tellStories := goodIn_r _ [6, 1, 7, 8, 9, 10, 11, 5, 12, 13, 14, 15, 16, 17, 18, 19, 20, 21, 22, 23, 24, 25, 26, 27, 28, 29, 30, 31, 32, 33, 34, 35, 36, 37, 38, 39, 40, 51, 52, 53, 54, 55, 56, 57, 58, 59, 60, 61, 62, 63, 64, 65, 66, 67, 68, 69, 70, 71, 72, 73, 74, 75, 76, 77] (by decide +kernel) (by decide +kernel)
set_option maxRecDepth 20000 in
theorem gX8_ask_X8_tellStories : GoodIn wsX8_ask (wsV RX8 164 RX8 yX8_tellStories wsX8_tellStories) := goodIn_app (goodIn_of _ (by decide +kernel)) ggX8_ask_X8_tellStories
set_option maxRecDepth 20000 in
theorem ggX8_ask_X8_there : GoodIn wsX8_ask wsX8_there := goodIn_r _ [32, 23, 33, 24, 51, 52, 53, 54, 55, 56, 57, 58, 59, 60, 61, 62, 63, 64, 65, 66, 67, 68, 69, 70, 71, 72, 73, 74, 75, 76, 77] (by decide +kernel) (by decide +kernel)
set_option maxRecDepth 20000 in
theorem gX8_ask_X8_there : GoodIn wsX8_ask (wsV RX8 145 RX8 yX8_there wsX8_there) := goodIn_app (goodIn_of _ (by decide +kernel)) ggX8_ask_X8_there
set_option maxRecDepth 20000 in
theorem ggX8_ask_X8_partsOf : GoodIn wsX8_ask wsX8_partsOf := goodIn_r _ [44, 1, 8, 19, 34, 35, 36, 5, 37, 18, 21, 26, 27, 28, 51, 52, 53, 54, 55, 56, 57, 58, 59, 60, 61, 62, 63, 64, 65, 66, 67, 68, 69, 70, 71, 72, 73, 74, 75, 76, 77] (by decide +kernel) (by decide +kernel)
set_option maxRecDepth 20000 in
theorem gX8_ask_X8_partsOf : GoodIn wsX8_ask (wsV RX8 169 RX8 yX8_partsOf wsX8_partsOf) := goodIn_app (goodIn_of _ (by decide +kernel)) ggX8_ask_X8_partsOf
set_option maxRecDepth 20000 in
theorem ggX8_ask_X8_finding : GoodIn wsX8_ask wsX8_finding := goodIn_r _ [48, 49, 50, 51, 52, 53, 54, 55, 56, 57, 58, 59, 60, 61, 62, 63, 64, 65, 66, 67, 68, 69, 70, 71, 72, 73, 74, 75, 76, 77] (by decide +kernel) (by decide +kernel)
set_option maxRecDepth 20000 in
theorem gX8_ask_X8_finding : GoodIn wsX8_ask (wsV RX8 95 RX8 yX8_finding wsX8_finding) := goodIn_app (goodIn_of _ (by decide +kernel)) ggX8_ask_X8_finding
theorem dX8_ask_0 : decode cX8_ask 0 = .ok (.aload_n 0, 1) := by decide +kernel
theorem dX8_ask_1 : decode cX8_ask 1 = .ok (.invokevirtual 164, 3) := by decide +kernel
theorem dX8_ask_4 : decode cX8_ask 4 = .ok (.aload_n 0, 1) := by decide +kernel
theorem dX8_ask_5 : decode cX8_ask 5 = .ok (.iconst 0, 1) := by decide +kernel
theorem dX8_ask_6 : decode cX8_ask 6 = .ok (.invokevirtual 145, 3) := by decide +kernel
theorem dX8_ask_9 : decode cX8_ask 9 = .ok (.istore_n 1, 1) := by decide +kernel
theorem dX8_ask_10 : decode cX8_ask 10 = .ok (.iconst (-1), 1) := by decide +kernel
theorem dX8_ask_11 : decode cX8_ask 11 = .ok (.istore_n 2, 1) := by decide +kernel
theorem dX8_ask_12 : decode cX8_ask 12 = .ok (.iconst 0, 1) := by decide +kernel
theorem dX8_ask_13 : decode cX8_ask 13 = .ok (.istore_n 3, 1) := by decide +kernel
theorem dX8_ask_14 : decode cX8_ask 14 = .ok (.iload_n 3, 1) := by decide +kernel
theorem dX8_ask_15 : decode cX8_ask 15 = .ok (.bipush 16, 2) := by decide +kernel
theorem dX8_ask_17 : decode cX8_ask 17 = .ok (.if_icmp .ge 59, 3) := by decide +kernel
theorem dX8_ask_20 : decode cX8_ask 20 = .ok (.aload_n 0, 1) := by decide +kernel
theorem dX8_ask_21 : decode cX8_ask 21 = .ok (.getfield 158, 3) := by decide +kernel
theorem dX8_ask_24 : decode cX8_ask 24 = .ok (.ifCond .le 52, 3) := by decide +kernel
theorem dX8_ask_27 : decode cX8_ask 27 = .ok (.iload_n 1, 1) := by decide +kernel
theorem dX8_ask_28 : decode cX8_ask 28 = .ok (.iload_n 3, 1) := by decide +kernel
theorem dX8_ask_29 : decode cX8_ask 29 = .ok (.ishr, 1) := by decide +kernel
theorem dX8_ask_30 : decode cX8_ask 30 = .ok (.iconst 1, 1) := by decide +kernel
theorem dX8_ask_31 : decode cX8_ask 31 = .ok (.iand, 1) := by decide +kernel
theorem dX8_ask_32 : decode cX8_ask 32 = .ok (.ifCond .ne 7, 3) := by decide +kernel
theorem dX8_ask_35 : decode cX8_ask 35 = .ok (.iconst 1, 1) := by decide +kernel
theorem dX8_ask_36 : decode cX8_ask 36 = .ok (.goto 4, 3) := by decide +kernel
theorem dX8_ask_39 : decode cX8_ask 39 = .ok (.iconst 0, 1) := by decide +kernel
theorem dX8_ask_40 : decode cX8_ask 40 = .ok (.istore 4, 2) := by decide +kernel
theorem dX8_ask_42 : decode cX8_ask 42 = .ok (.iload 4, 2) := by decide +kernel
theorem dX8_ask_44 : decode cX8_ask 44 = .ok (.ifCond .eq 24, 3) := by decide +kernel
theorem dX8_ask_47 : decode cX8_ask 47 = .ok (.iload_n 2, 1) := by decide +kernel
theorem dX8_ask_48 : decode cX8_ask 48 = .ok (.ifCond .lt 16, 3) := by decide +kernel
theorem dX8_ask_51 : decode cX8_ask 51 = .ok (.aload_n 0, 1) := by decide +kernel
theorem dX8_ask_52 : decode cX8_ask 52 = .ok (.iload_n 3, 1) := by decide +kernel
theorem dX8_ask_53 : decode cX8_ask 53 = .ok (.invokevirtual 169, 3) := by decide +kernel
theorem dX8_ask_56 : decode cX8_ask 56 = .ok (.aload_n 0, 1) := by decide +kernel
theorem dX8_ask_57 : decode cX8_ask 57 = .ok (.iload_n 2, 1) := by decide +kernel
theorem dX8_ask_58 : decode cX8_ask 58 = .ok (.invokevirtual 169, 3) := by decide +kernel
theorem dX8_ask_61 : decode cX8_ask 61 = .ok (.if_icmp .le 7, 3) := by decide +kernel
theorem dX8_ask_64 : decode cX8_ask 64 = .ok (.iload_n 3, 1) := by decide +kernel
theorem dX8_ask_65 : decode cX8_ask 65 = .ok (.goto 4, 3) := by decide +kernel
theorem dX8_ask_68 : decode cX8_ask 68 = .ok (.iload_n 2, 1) := by decide +kernel
theorem dX8_ask_69 : decode cX8_ask 69 = .ok (.istore_n 2, 1) := by decide +kernel
theorem dX8_ask_70 : decode cX8_ask 70 = .ok (.iinc 3 1, 3) := by decide +kernel
theorem dX8_ask_73 : decode cX8_ask 73 = .ok (.goto (-59), 3) := by decide +kernel
theorem dX8_ask_76 : decode cX8_ask 76 = .ok (.iload_n 2, 1) := by decide +kernel
theorem dX8_ask_77 : decode cX8_ask 77 = .ok (.ifCond .ge 11, 3) := by decide +kernel
theorem dX8_ask_80 : decode cX8_ask 80 = .ok (.aload_n 0, 1) := by decide +kernel
theorem dX8_ask_81 : decode cX8_ask 81 = .ok (.iconst 2, 1) := by decide +kernel
theorem dX8_ask_82 : decode cX8_ask 82 = .ok (.invokevirtual 95, 3) := by decide +kernel
theorem dX8_ask_85 : decode cX8_ask 85 = .ok (.goto 5, 3) := by decide +kernel
theorem dX8_ask_88 : decode cX8_ask 88 = .ok (.iload_n 2, 1) := by decide +kernel
theorem dX8_ask_89 : decode cX8_ask 89 = .ok (.i2l, 1) := by decide +kernel
theorem dX8_ask_90 : decode cX8_ask 90 = .ok (.lreturn, 1) := by decide +kernel
set_option maxRecDepth 20000 in
theorem ggX8_tell_X8_finding : GoodIn wsX8_tell wsX8_finding := goodIn_r _ [7, 8, 9, 10, 11, 12, 13, 14, 15, 16, 17, 18, 19, 20, 21, 22, 23, 24, 25, 26, 27, 28, 29, 30, 31, 32, 33, 34, 35, 36] (by decide +kernel) (by decide +kernel)
set_option maxRecDepth 20000 in
theorem gX8_tell_X8_finding : GoodIn wsX8_tell (wsV RX8 95 RX8 yX8_finding wsX8_finding) := goodIn_app (goodIn_of _ (by decide +kernel)) ggX8_tell_X8_finding
theorem dX8_tell_0 : decode cX8_tell 0 = .ok (.aload_n 0, 1) := by decide +kernel
theorem dX8_tell_1 : decode cX8_tell 1 = .ok (.getfield 172, 3) := by decide +kernel
theorem dX8_tell_4 : decode cX8_tell 4 = .ok (.bipush 30, 2) := by decide +kernel
theorem dX8_tell_6 : decode cX8_tell 6 = .ok (.if_icmp .ne 9, 3) := by decide +kernel
theorem dX8_tell_9 : decode cX8_tell 9 = .ok (.aload_n 0, 1) := by decide +kernel
theorem dX8_tell_10 : decode cX8_tell 10 = .ok (.iconst 4, 1) := by decide +kernel
theorem dX8_tell_11 : decode cX8_tell 11 = .ok (.invokevirtual 95, 3) := by decide +kernel
theorem dX8_tell_14 : decode cX8_tell 14 = .ok (.lreturn, 1) := by decide +kernel
theorem dX8_tell_15 : decode cX8_tell 15 = .ok (.aload_n 0, 1) := by decide +kernel
theorem dX8_tell_16 : decode cX8_tell 16 = .ok (.getfield 66, 3) := by decide +kernel
theorem dX8_tell_19 : decode cX8_tell 19 = .ok (.aload_n 0, 1) := by decide +kernel
theorem dX8_tell_20 : decode cX8_tell 20 = .ok (.getfield 172, 3) := by decide +kernel
theorem dX8_tell_23 : decode cX8_tell 23 = .ok (.iload_n 1, 1) := by decide +kernel
theorem dX8_tell_24 : decode cX8_tell 24 = .ok (.iastore, 1) := by decide +kernel
theorem dX8_tell_25 : decode cX8_tell 25 = .ok (.aload_n 0, 1) := by decide +kernel
theorem dX8_tell_26 : decode cX8_tell 26 = .ok (.dup, 1) := by decide +kernel
theorem dX8_tell_27 : decode cX8_tell 27 = .ok (.getfield 172, 3) := by decide +kernel
theorem dX8_tell_30 : decode cX8_tell 30 = .ok (.iconst 1, 1) := by decide +kernel
theorem dX8_tell_31 : decode cX8_tell 31 = .ok (.iadd, 1) := by decide +kernel
theorem dX8_tell_32 : decode cX8_tell 32 = .ok (.putfield 172, 3) := by decide +kernel
theorem dX8_tell_35 : decode cX8_tell 35 = .ok (.aload_n 0, 1) := by decide +kernel
theorem dX8_tell_36 : decode cX8_tell 36 = .ok (.getfield 172, 3) := by decide +kernel
theorem dX8_tell_39 : decode cX8_tell 39 = .ok (.i2l, 1) := by decide +kernel
theorem dX8_tell_40 : decode cX8_tell 40 = .ok (.lreturn, 1) := by decide +kernel
set_option maxRecDepth 20000 in
theorem ggX8_check_X8_all : GoodIn wsX8_check wsX8_all := goodIn_r _ [9, 2, 49, 50, 51, 52, 53, 54, 55, 56, 57, 58, 59, 60, 61, 62, 63, 64, 65, 66, 67, 68, 69, 70, 71, 72, 73, 74, 75] (by decide +kernel) (by decide +kernel)
set_option maxRecDepth 20000 in
theorem gX8_check_X8_all : GoodIn wsX8_check (wsV RX8 123 RX8 yX8_all wsX8_all) := goodIn_app (goodIn_of _ (by decide +kernel)) ggX8_check_X8_all
set_option maxRecDepth 20000 in
theorem ggX8_check_X8_tellBounds : GoodIn wsX8_check wsX8_tellBounds := goodIn_r _ [13, 14, 15, 2, 16, 17, 18, 19, 20, 21, 22, 8, 23, 24, 25, 26, 27, 28, 29, 30, 31, 32, 33, 34, 35, 36, 37, 38, 49, 50, 51, 52, 53, 54, 55, 56, 57, 58, 59, 60, 61, 62, 63, 64, 65, 66, 67, 68, 69, 70, 71, 72, 73, 74, 75] (by decide +kernel) (by decide +kernel)
set_option maxRecDepth 20000 in
theorem gX8_check_X8_tellBounds : GoodIn wsX8_check (wsV RX8 127 RX8 yX8_tellBounds wsX8_tellBounds) := goodIn_app (goodIn_of _ (by decide +kernel)) ggX8_check_X8_tellBounds
set_option maxRecDepth 20000 in
theorem ggX8_check_X8_finding : GoodIn wsX8_check wsX8_finding := goodIn_r _ [42, 43, 44, 49, 50, 51, 52, 53, 54, 55, 56, 57, 58, 59, 60, 61, 62, 63, 64, 65, 66, 67, 68, 69, 70, 71, 72, 73, 74, 75] (by decide +kernel) (by decide +kernel)
set_option maxRecDepth 20000 in
theorem gX8_check_X8_finding : GoodIn wsX8_check (wsV RX8 95 RX8 yX8_finding wsX8_finding) := goodIn_app (goodIn_of _ (by decide +kernel)) ggX8_check_X8_finding
set_option maxRecDepth 20000 in
theorem ggX8_check_X8_timeOf : GoodIn wsX8_check wsX8_timeOf := goodIn_r _ [48, 14, 15, 49, 50, 51, 52, 53, 54, 55, 56, 57, 58, 59, 60, 61, 62, 63, 64, 65, 66, 67, 68, 69, 70, 71, 72, 73, 74, 75] (by decide +kernel) (by decide +kernel)
set_option maxRecDepth 20000 in
theorem gX8_check_X8_timeOf : GoodIn wsX8_check (wsV RX8 130 RX8 yX8_timeOf wsX8_timeOf) := goodIn_app (goodIn_of _ (by decide +kernel)) ggX8_check_X8_timeOf
theorem dX8_check_0 : decode cX8_check 0 = .ok (.aload_n 0, 1) := by decide +kernel
theorem dX8_check_1 : decode cX8_check 1 = .ok (.getfield 172, 3) := by decide +kernel
theorem dX8_check_4 : decode cX8_check 4 = .ok (.istore_n 1, 1) := by decide +kernel
theorem dX8_check_5 : decode cX8_check 5 = .ok (.aload_n 0, 1) := by decide +kernel
theorem dX8_check_6 : decode cX8_check 6 = .ok (.iconst 0, 1) := by decide +kernel
theorem dX8_check_7 : decode cX8_check 7 = .ok (.putfield 172, 3) := by decide +kernel
theorem dX8_check_10 : decode cX8_check 10 = .ok (.aload_n 0, 1) := by decide +kernel
theorem dX8_check_11 : decode cX8_check 11 = .ok (.aload_n 0, 1) := by decide +kernel
theorem dX8_check_12 : decode cX8_check 12 = .ok (.invokevirtual 123, 3) := by decide +kernel
theorem dX8_check_15 : decode cX8_check 15 = .ok (.invokevirtual 127, 3) := by decide +kernel
theorem dX8_check_18 : decode cX8_check 18 = .ok (.ifCond .ne 9, 3) := by decide +kernel
theorem dX8_check_21 : decode cX8_check 21 = .ok (.aload_n 0, 1) := by decide +kernel
theorem dX8_check_22 : decode cX8_check 22 = .ok (.iconst 5, 1) := by decide +kernel
theorem dX8_check_23 : decode cX8_check 23 = .ok (.invokevirtual 95, 3) := by decide +kernel
theorem dX8_check_26 : decode cX8_check 26 = .ok (.lreturn, 1) := by decide +kernel
theorem dX8_check_27 : decode cX8_check 27 = .ok (.iconst 0, 1) := by decide +kernel
theorem dX8_check_28 : decode cX8_check 28 = .ok (.istore_n 2, 1) := by decide +kernel
theorem dX8_check_29 : decode cX8_check 29 = .ok (.iload_n 2, 1) := by decide +kernel
theorem dX8_check_30 : decode cX8_check 30 = .ok (.aload_n 0, 1) := by decide +kernel
theorem dX8_check_31 : decode cX8_check 31 = .ok (.getfield 85, 3) := by decide +kernel
theorem dX8_check_34 : decode cX8_check 34 = .ok (.if_icmp .ge 73, 3) := by decide +kernel
theorem dX8_check_37 : decode cX8_check 37 = .ok (.iconst 2, 1) := by decide +kernel
theorem dX8_check_38 : decode cX8_check 38 = .ok (.iload_n 2, 1) := by decide +kernel
theorem dX8_check_39 : decode cX8_check 39 = .ok (.imul, 1) := by decide +kernel
theorem dX8_check_40 : decode cX8_check 40 = .ok (.iconst 1, 1) := by decide +kernel
theorem dX8_check_41 : decode cX8_check 41 = .ok (.iadd, 1) := by decide +kernel
theorem dX8_check_42 : decode cX8_check 42 = .ok (.iload_n 1, 1) := by decide +kernel
theorem dX8_check_43 : decode cX8_check 43 = .ok (.if_icmp .ge 47, 3) := by decide +kernel
theorem dX8_check_46 : decode cX8_check 46 = .ok (.aload_n 0, 1) := by decide +kernel
theorem dX8_check_47 : decode cX8_check 47 = .ok (.getfield 66, 3) := by decide +kernel
theorem dX8_check_50 : decode cX8_check 50 = .ok (.iconst 2, 1) := by decide +kernel
theorem dX8_check_51 : decode cX8_check 51 = .ok (.iload_n 2, 1) := by decide +kernel
theorem dX8_check_52 : decode cX8_check 52 = .ok (.imul, 1) := by decide +kernel
theorem dX8_check_53 : decode cX8_check 53 = .ok (.iaload, 1) := by decide +kernel
theorem dX8_check_54 : decode cX8_check 54 = .ok (.i2l, 1) := by decide +kernel
theorem dX8_check_55 : decode cX8_check 55 = .ok (.aload_n 0, 1) := by decide +kernel
theorem dX8_check_56 : decode cX8_check 56 = .ok (.iload_n 2, 1) := by decide +kernel
theorem dX8_check_57 : decode cX8_check 57 = .ok (.iconst 0, 1) := by decide +kernel
theorem dX8_check_58 : decode cX8_check 58 = .ok (.invokevirtual 130, 3) := by decide +kernel
theorem dX8_check_61 : decode cX8_check 61 = .ok (.lcmp, 1) := by decide +kernel
theorem dX8_check_62 : decode cX8_check 62 = .ok (.ifCond .ne 28, 3) := by decide +kernel
theorem dX8_check_65 : decode cX8_check 65 = .ok (.aload_n 0, 1) := by decide +kernel
theorem dX8_check_66 : decode cX8_check 66 = .ok (.getfield 66, 3) := by decide +kernel
theorem dX8_check_69 : decode cX8_check 69 = .ok (.iconst 2, 1) := by decide +kernel
theorem dX8_check_70 : decode cX8_check 70 = .ok (.iload_n 2, 1) := by decide +kernel
theorem dX8_check_71 : decode cX8_check 71 = .ok (.imul, 1) := by decide +kernel
theorem dX8_check_72 : decode cX8_check 72 = .ok (.iconst 1, 1) := by decide +kernel
theorem dX8_check_73 : decode cX8_check 73 = .ok (.iadd, 1) := by decide +kernel
theorem dX8_check_74 : decode cX8_check 74 = .ok (.iaload, 1) := by decide +kernel
theorem dX8_check_75 : decode cX8_check 75 = .ok (.i2l, 1) := by decide +kernel
theorem dX8_check_76 : decode cX8_check 76 = .ok (.aload_n 0, 1) := by decide +kernel
theorem dX8_check_77 : decode cX8_check 77 = .ok (.iload_n 2, 1) := by decide +kernel
theorem dX8_check_78 : decode cX8_check 78 = .ok (.iconst 1, 1) := by decide +kernel
theorem dX8_check_79 : decode cX8_check 79 = .ok (.invokevirtual 130, 3) := by decide +kernel
theorem dX8_check_82 : decode cX8_check 82 = .ok (.lcmp, 1) := by decide +kernel
theorem dX8_check_83 : decode cX8_check 83 = .ok (.ifCond .ne 7, 3) := by decide +kernel
theorem dX8_check_86 : decode cX8_check 86 = .ok (.iconst 1, 1) := by decide +kernel
theorem dX8_check_87 : decode cX8_check 87 = .ok (.goto 4, 3) := by decide +kernel
theorem dX8_check_90 : decode cX8_check 90 = .ok (.iconst 0, 1) := by decide +kernel
theorem dX8_check_91 : decode cX8_check 91 = .ok (.istore_n 3, 1) := by decide +kernel
theorem dX8_check_92 : decode cX8_check 92 = .ok (.iload_n 3, 1) := by decide +kernel
theorem dX8_check_93 : decode cX8_check 93 = .ok (.ifCond .ne 8, 3) := by decide +kernel
theorem dX8_check_96 : decode cX8_check 96 = .ok (.lconst 1, 1) := by decide +kernel
theorem dX8_check_97 : decode cX8_check 97 = .ok (.iload_n 2, 1) := by decide +kernel
theorem dX8_check_98 : decode cX8_check 98 = .ok (.i2l, 1) := by decide +kernel
theorem dX8_check_99 : decode cX8_check 99 = .ok (.ladd, 1) := by decide +kernel
theorem dX8_check_100 : decode cX8_check 100 = .ok (.lreturn, 1) := by decide +kernel
theorem dX8_check_101 : decode cX8_check 101 = .ok (.iinc 2 1, 3) := by decide +kernel
theorem dX8_check_104 : decode cX8_check 104 = .ok (.goto (-75), 3) := by decide +kernel
theorem dX8_check_107 : decode cX8_check 107 = .ok (.iload_n 1, 1) := by decide +kernel
theorem dX8_check_108 : decode cX8_check 108 = .ok (.iconst 2, 1) := by decide +kernel
theorem dX8_check_109 : decode cX8_check 109 = .ok (.aload_n 0, 1) := by decide +kernel
theorem dX8_check_110 : decode cX8_check 110 = .ok (.getfield 85, 3) := by decide +kernel
theorem dX8_check_113 : decode cX8_check 113 = .ok (.imul, 1) := by decide +kernel
theorem dX8_check_114 : decode cX8_check 114 = .ok (.if_icmp .le 9, 3) := by decide +kernel
theorem dX8_check_117 : decode cX8_check 117 = .ok (.ldc2_w 175, 3) := by decide +kernel
theorem dX8_check_120 : decode cX8_check 120 = .ok (.goto 4, 3) := by decide +kernel
theorem dX8_check_123 : decode cX8_check 123 = .ok (.lconst 0, 1) := by decide +kernel
theorem dX8_check_124 : decode cX8_check 124 = .ok (.lreturn, 1) := by decide +kernel
set_option maxRecDepth 20000 in
theorem ggX8_count_X8_known : GoodIn wsX8_count wsX8_known := goodIn_r _ [8, 9, 25, 26, 27, 28, 29, 30, 31, 32, 33, 34, 35, 36, 37, 38, 39, 40, 41, 42, 43, 44, 45, 46, 47, 48, 49, 50, 51] (by decide +kernel) (by decide +kernel)
set_option maxRecDepth 20000 in
theorem gX8_count_X8_known : GoodIn wsX8_count (wsV RX8 152 RX8 yX8_known wsX8_known) := goodIn_app (goodIn_of _ (by decide +kernel)) ggX8_count_X8_known
set_option maxRecDepth 20000 in
theorem ggX8_count_X8_size : GoodIn wsX8_count wsX8_size := goodIn_r _ [12] (by decide +kernel) (by decide +kernel)
set_option maxRecDepth 20000 in
theorem gX8_count_X8_size : GoodIn wsX8_count (va_wsS RX8 133 yX8_size wsX8_size) := goodIn_app (goodIn_of _ (by decide +kernel)) ggX8_count_X8_size
set_option maxRecDepth 20000 in
theorem ggX8_count_X8_there : GoodIn wsX8_count wsX8_there := goodIn_r _ [16, 1, 17, 18, 25, 26, 27, 28, 29, 30, 31, 32, 33, 34, 35, 36, 37, 38, 39, 40, 41, 42, 43, 44, 45, 46, 47, 48, 49, 50, 51] (by decide +kernel) (by decide +kernel)
set_option maxRecDepth 20000 in
theorem gX8_count_X8_there : GoodIn wsX8_count (wsV RX8 145 RX8 yX8_there wsX8_there) := goodIn_app (goodIn_of _ (by decide +kernel)) ggX8_count_X8_there
set_option maxRecDepth 20000 in
theorem ggX8_count_X8_finding : GoodIn wsX8_count wsX8_finding := goodIn_r _ [22, 23, 24, 25, 26, 27, 28, 29, 30, 31, 32, 33, 34, 35, 36, 37, 38, 39, 40, 41, 42, 43, 44, 45, 46, 47, 48, 49, 50, 51] (by decide +kernel) (by decide +kernel)
set_option maxRecDepth 20000 in
theorem gX8_count_X8_finding : GoodIn wsX8_count (wsV RX8 95 RX8 yX8_finding wsX8_finding) := goodIn_app (goodIn_of _ (by decide +kernel)) ggX8_count_X8_finding
theorem dX8_count_0 : decode cX8_count 0 = .ok (.iload_n 1, 1) := by decide +kernel
theorem dX8_count_1 : decode cX8_count 1 = .ok (.tableswitch 72 0 4 #[35, 41, 47, 56, 62], 35) := by decide +kernel
theorem dX8_count_36 : decode cX8_count 36 = .ok (.aload_n 0, 1) := by decide +kernel
theorem dX8_count_37 : decode cX8_count 37 = .ok (.getfield 85, 3) := by decide +kernel
theorem dX8_count_40 : decode cX8_count 40 = .ok (.i2l, 1) := by decide +kernel
theorem dX8_count_41 : decode cX8_count 41 = .ok (.lreturn, 1) := by decide +kernel
theorem dX8_count_42 : decode cX8_count 42 = .ok (.aload_n 0, 1) := by decide +kernel
theorem dX8_count_43 : decode cX8_count 43 = .ok (.getfield 103, 3) := by decide +kernel
theorem dX8_count_46 : decode cX8_count 46 = .ok (.i2l, 1) := by decide +kernel
theorem dX8_count_47 : decode cX8_count 47 = .ok (.lreturn, 1) := by decide +kernel
theorem dX8_count_48 : decode cX8_count 48 = .ok (.aload_n 0, 1) := by decide +kernel
theorem dX8_count_49 : decode cX8_count 49 = .ok (.invokevirtual 152, 3) := by decide +kernel
theorem dX8_count_52 : decode cX8_count 52 = .ok (.invokestatic 133, 3) := by decide +kernel
theorem dX8_count_55 : decode cX8_count 55 = .ok (.i2l, 1) := by decide +kernel
theorem dX8_count_56 : decode cX8_count 56 = .ok (.lreturn, 1) := by decide +kernel
theorem dX8_count_57 : decode cX8_count 57 = .ok (.aload_n 0, 1) := by decide +kernel
theorem dX8_count_58 : decode cX8_count 58 = .ok (.getfield 172, 3) := by decide +kernel
theorem dX8_count_61 : decode cX8_count 61 = .ok (.i2l, 1) := by decide +kernel
theorem dX8_count_62 : decode cX8_count 62 = .ok (.lreturn, 1) := by decide +kernel
theorem dX8_count_63 : decode cX8_count 63 = .ok (.aload_n 0, 1) := by decide +kernel
theorem dX8_count_64 : decode cX8_count 64 = .ok (.iconst 0, 1) := by decide +kernel
theorem dX8_count_65 : decode cX8_count 65 = .ok (.invokevirtual 145, 3) := by decide +kernel
theorem dX8_count_68 : decode cX8_count 68 = .ok (.invokestatic 133, 3) := by decide +kernel
theorem dX8_count_71 : decode cX8_count 71 = .ok (.i2l, 1) := by decide +kernel
theorem dX8_count_72 : decode cX8_count 72 = .ok (.lreturn, 1) := by decide +kernel
theorem dX8_count_73 : decode cX8_count 73 = .ok (.aload_n 0, 1) := by decide +kernel
theorem dX8_count_74 : decode cX8_count 74 = .ok (.iconst 1, 1) := by decide +kernel
theorem dX8_count_75 : decode cX8_count 75 = .ok (.invokevirtual 95, 3) := by decide +kernel
theorem dX8_count_78 : decode cX8_count 78 = .ok (.lreturn, 1) := by decide +kernel
set_option maxRecDepth 20000 in
theorem ggX8_found_X8_isIn : GoodIn wsX8_found wsX8_isIn := goodIn_r _ [5] (by decide +kernel) (by decide +kernel)
set_option maxRecDepth 20000 in
theorem gX8_found_X8_isIn : GoodIn wsX8_found (va_wsS RX8 81 yX8_isIn wsX8_isIn) := goodIn_app (goodIn_of _ (by decide +kernel)) ggX8_found_X8_isIn
set_option maxRecDepth 20000 in
theorem ggX8_found_X8_finding : GoodIn wsX8_found wsX8_finding := goodIn_r _ [9, 1, 10, 11, 12, 13, 14, 15, 16, 17, 18, 19, 20, 21, 22, 23, 24, 25, 26, 27, 28, 29, 30, 31, 32, 33, 34, 35, 36, 37] (by decide +kernel) (by decide +kernel)
set_option maxRecDepth 20000 in
theorem gX8_found_X8_finding : GoodIn wsX8_found (wsV RX8 95 RX8 yX8_finding wsX8_finding) := goodIn_app (goodIn_of _ (by decide +kernel)) ggX8_found_X8_finding
theorem dX8_found_0 : decode cX8_found 0 = .ok (.iload_n 1, 1) := by decide +kernel
theorem dX8_found_1 : decode cX8_found 1 = .ok (.iconst 1, 1) := by decide +kernel
theorem dX8_found_2 : decode cX8_found 2 = .ok (.iconst 5, 1) := by decide +kernel
theorem dX8_found_3 : decode cX8_found 3 = .ok (.invokestatic 81, 3) := by decide +kernel
theorem dX8_found_6 : decode cX8_found 6 = .ok (.ifCond .eq 13, 3) := by decide +kernel
theorem dX8_found_9 : decode cX8_found 9 = .ok (.aload_n 0, 1) := by decide +kernel
theorem dX8_found_10 : decode cX8_found 10 = .ok (.getfield 69, 3) := by decide +kernel
theorem dX8_found_13 : decode cX8_found 13 = .ok (.iload_n 1, 1) := by decide +kernel
theorem dX8_found_14 : decode cX8_found 14 = .ok (.iaload, 1) := by decide +kernel
theorem dX8_found_15 : decode cX8_found 15 = .ok (.i2l, 1) := by decide +kernel
theorem dX8_found_16 : decode cX8_found 16 = .ok (.goto 8, 3) := by decide +kernel
theorem dX8_found_19 : decode cX8_found 19 = .ok (.aload_n 0, 1) := by decide +kernel
theorem dX8_found_20 : decode cX8_found 20 = .ok (.iconst 1, 1) := by decide +kernel
theorem dX8_found_21 : decode cX8_found 21 = .ok (.invokevirtual 95, 3) := by decide +kernel
theorem dX8_found_24 : decode cX8_found 24 = .ok (.lreturn, 1) := by decide +kernel
theorem dJ6_bitCount_0f7a4_0 : decode cJ6_bitCount_0f7a4 0 = .ok (.iload_n 0, 1) := by decide +kernel
theorem dJ6_bitCount_0f7a4_1 : decode cJ6_bitCount_0f7a4 1 = .ok (.iload_n 0, 1) := by decide +kernel
theorem dJ6_bitCount_0f7a4_2 : decode cJ6_bitCount_0f7a4 2 = .ok (.iconst 1, 1) := by decide +kernel
theorem dJ6_bitCount_0f7a4_3 : decode cJ6_bitCount_0f7a4 3 = .ok (.iushr, 1) := by decide +kernel
theorem dJ6_bitCount_0f7a4_4 : decode cJ6_bitCount_0f7a4 4 = .ok (.ldc_w 265, 3) := by decide +kernel
