theorem dX8_offset_0 : decode cX8_offset 0 = .ok (.iload_n 1, 1) := by decide +kernel
theorem dX8_offset_1 : decode cX8_offset 1 = .ok (.invokestatic 88, 3) := by decide +kernel
theorem dX8_offset_4 : decode cX8_offset 4 = .ok (.ifCond .eq 13, 3) := by decide +kernel
theorem dX8_offset_7 : decode cX8_offset 7 = .ok (.iload_n 2, 1) := by decide +kernel
theorem dX8_offset_8 : decode cX8_offset 8 = .ok (.iconst 0, 1) := by decide +kernel
theorem dX8_offset_9 : decode cX8_offset 9 = .ok (.ldc 92, 2) := by decide +kernel
theorem dX8_offset_11 : decode cX8_offset 11 = .ok (.invokestatic 81, 3) := by decide +kernel
theorem dX8_offset_14 : decode cX8_offset 14 = .ok (.ifCond .ne 9, 3) := by decide +kernel
theorem dX8_offset_17 : decode cX8_offset 17 = .ok (.aload_n 0, 1) := by decide +kernel
theorem dX8_offset_18 : decode cX8_offset 18 = .ok (.iconst 1, 1) := by decide +kernel
theorem dX8_offset_19 : decode cX8_offset 19 = .ok (.invokevirtual 95, 3) := by decide +kernel
theorem dX8_offset_22 : decode cX8_offset 22 = .ok (.lreturn, 1) := by decide +kernel
theorem dX8_offset_23 : decode cX8_offset 23 = .ok (.aload_n 0, 1) := by decide +kernel
theorem dX8_offset_24 : decode cX8_offset 24 = .ok (.iload_n 1, 1) := by decide +kernel
theorem dX8_offset_25 : decode cX8_offset 25 = .ok (.iload_n 2, 1) := by decide +kernel
theorem dX8_offset_26 : decode cX8_offset 26 = .ok (.invokevirtual 99, 3) := by decide +kernel
theorem dX8_offset_29 : decode cX8_offset 29 = .ok (.istore 4, 2) := by decide +kernel
theorem dX8_offset_31 : decode cX8_offset 31 = .ok (.iload 4, 2) := by decide +kernel
theorem dX8_offset_33 : decode cX8_offset 33 = .ok (.ifCond .ge 11, 3) := by decide +kernel
theorem dX8_offset_36 : decode cX8_offset 36 = .ok (.aload_n 0, 1) := by decide +kernel
theorem dX8_offset_37 : decode cX8_offset 37 = .ok (.iconst 2, 1) := by decide +kernel
theorem dX8_offset_38 : decode cX8_offset 38 = .ok (.invokevirtual 95, 3) := by decide +kernel
theorem dX8_offset_41 : decode cX8_offset 41 = .ok (.goto 26, 3) := by decide +kernel
theorem dX8_offset_44 : decode cX8_offset 44 = .ok (.iload_n 3, 1) := by decide +kernel
theorem dX8_offset_45 : decode cX8_offset 45 = .ok (.ifCond .eq 14, 3) := by decide +kernel
theorem dX8_offset_48 : decode cX8_offset 48 = .ok (.aload_n 0, 1) := by decide +kernel
theorem dX8_offset_49 : decode cX8_offset 49 = .ok (.getfield 19, 3) := by decide +kernel
theorem dX8_offset_52 : decode cX8_offset 52 = .ok (.iload 4, 2) := by decide +kernel
theorem dX8_offset_54 : decode cX8_offset 54 = .ok (.iaload, 1) := by decide +kernel
theorem dX8_offset_55 : decode cX8_offset 55 = .ok (.i2l, 1) := by decide +kernel
theorem dX8_offset_56 : decode cX8_offset 56 = .ok (.goto 11, 3) := by decide +kernel
theorem dX8_offset_59 : decode cX8_offset 59 = .ok (.aload_n 0, 1) := by decide +kernel
theorem dX8_offset_60 : decode cX8_offset 60 = .ok (.getfield 16, 3) := by decide +kernel
theorem dX8_offset_63 : decode cX8_offset 63 = .ok (.iload 4, 2) := by decide +kernel
theorem dX8_offset_65 : decode cX8_offset 65 = .ok (.iaload, 1) := by decide +kernel
theorem dX8_offset_66 : decode cX8_offset 66 = .ok (.i2l, 1) := by decide +kernel
theorem dX8_offset_67 : decode cX8_offset 67 = .ok (.lreturn, 1) := by decide +kernel
set_option maxRecDepth 20000 in
theorem ggX8_trace_X8_isIn : GoodIn wsX8_trace wsX8_isIn := goodIn_r _ [10] (by decide +kernel) (by decide +kernel)
set_option maxRecDepth 20000 in
theorem gX8_trace_X8_isIn : GoodIn wsX8_trace (va_wsS RX8 81 yX8_isIn wsX8_isIn) := goodIn_app (goodIn_of _ (by decide +kernel)) ggX8_trace_X8_isIn
set_option maxRecDepth 20000 in
theorem ggX8_trace_X8_isClock : GoodIn wsX8_trace wsX8_isClock := goodIn_r _ [13, 7, 8, 9, 10] (by decide +kernel) (by decide +kernel)
set_option maxRecDepth 20000 in
theorem gX8_trace_X8_isClock : GoodIn wsX8_trace (va_wsS RX8 88 yX8_isClock wsX8_isClock) := goodIn_app (goodIn_of _ (by decide +kernel)) ggX8_trace_X8_isClock
set_option maxRecDepth 20000 in
theorem ggX8_trace_X8_finding : GoodIn wsX8_trace wsX8_finding := goodIn_r _ [17, 18, 19, 20, 21, 22, 23, 24, 25, 26, 27, 28, 29, 30, 31, 32, 33, 34, 35, 36, 37, 38, 39, 40, 41, 42, 43, 44, 45, 46] (by decide +kernel) (by decide +kernel)
set_option maxRecDepth 20000 in
theorem gX8_trace_X8_finding : GoodIn wsX8_trace (wsV RX8 95 RX8 yX8_finding wsX8_finding) := goodIn_app (goodIn_of _ (by decide +kernel)) ggX8_trace_X8_finding
theorem dX8_trace_0 : decode cX8_trace 0 = .ok (.iload_n 1, 1) := by decide +kernel
theorem dX8_trace_1 : decode cX8_trace 1 = .ok (.iconst 0, 1) := by decide +kernel
theorem dX8_trace_2 : decode cX8_trace 2 = .ok (.iconst 2, 1) := by decide +kernel
theorem dX8_trace_3 : decode cX8_trace 3 = .ok (.invokestatic 81, 3) := by decide +kernel
theorem dX8_trace_6 : decode cX8_trace 6 = .ok (.ifCond .eq 31, 3) := by decide +kernel
theorem dX8_trace_9 : decode cX8_trace 9 = .ok (.iload_n 2, 1) := by decide +kernel
theorem dX8_trace_10 : decode cX8_trace 10 = .ok (.invokestatic 88, 3) := by decide +kernel
theorem dX8_trace_13 : decode cX8_trace 13 = .ok (.ifCond .eq 24, 3) := by decide +kernel
theorem dX8_trace_16 : decode cX8_trace 16 = .ok (.iload_n 3, 1) := by decide +kernel
theorem dX8_trace_17 : decode cX8_trace 17 = .ok (.iconst 0, 1) := by decide +kernel
theorem dX8_trace_18 : decode cX8_trace 18 = .ok (.ldc 92, 2) := by decide +kernel
theorem dX8_trace_20 : decode cX8_trace 20 = .ok (.invokestatic 81, 3) := by decide +kernel
theorem dX8_trace_23 : decode cX8_trace 23 = .ok (.ifCond .eq 14, 3) := by decide +kernel
theorem dX8_trace_26 : decode cX8_trace 26 = .ok (.iload 4, 2) := by decide +kernel
theorem dX8_trace_28 : decode cX8_trace 28 = .ok (.iconst 0, 1) := by decide +kernel
theorem dX8_trace_29 : decode cX8_trace 29 = .ok (.bipush 15, 2) := by decide +kernel
theorem dX8_trace_31 : decode cX8_trace 31 = .ok (.invokestatic 81, 3) := by decide +kernel
theorem dX8_trace_34 : decode cX8_trace 34 = .ok (.ifCond .ne 9, 3) := by decide +kernel
theorem dX8_trace_37 : decode cX8_trace 37 = .ok (.aload_n 0, 1) := by decide +kernel
theorem dX8_trace_38 : decode cX8_trace 38 = .ok (.iconst 1, 1) := by decide +kernel
theorem dX8_trace_39 : decode cX8_trace 39 = .ok (.invokevirtual 95, 3) := by decide +kernel
theorem dX8_trace_42 : decode cX8_trace 42 = .ok (.lreturn, 1) := by decide +kernel
theorem dX8_trace_43 : decode cX8_trace 43 = .ok (.aload_n 0, 1) := by decide +kernel
theorem dX8_trace_44 : decode cX8_trace 44 = .ok (.getfield 85, 3) := by decide +kernel
theorem dX8_trace_47 : decode cX8_trace 47 = .ok (.bipush 12, 2) := by decide +kernel
theorem dX8_trace_49 : decode cX8_trace 49 = .ok (.if_icmp .ne 9, 3) := by decide +kernel
theorem dX8_trace_52 : decode cX8_trace 52 = .ok (.aload_n 0, 1) := by decide +kernel
theorem dX8_trace_53 : decode cX8_trace 53 = .ok (.iconst 4, 1) := by decide +kernel
theorem dX8_trace_54 : decode cX8_trace 54 = .ok (.invokevirtual 95, 3) := by decide +kernel
theorem dX8_trace_57 : decode cX8_trace 57 = .ok (.lreturn, 1) := by decide +kernel
theorem dX8_trace_58 : decode cX8_trace 58 = .ok (.aload_n 0, 1) := by decide +kernel
theorem dX8_trace_59 : decode cX8_trace 59 = .ok (.getfield 22, 3) := by decide +kernel
theorem dX8_trace_62 : decode cX8_trace 62 = .ok (.aload_n 0, 1) := by decide +kernel
theorem dX8_trace_63 : decode cX8_trace 63 = .ok (.getfield 85, 3) := by decide +kernel
theorem dX8_trace_66 : decode cX8_trace 66 = .ok (.iload_n 1, 1) := by decide +kernel
theorem dX8_trace_67 : decode cX8_trace 67 = .ok (.iastore, 1) := by decide +kernel
theorem dX8_trace_68 : decode cX8_trace 68 = .ok (.aload_n 0, 1) := by decide +kernel
theorem dX8_trace_69 : decode cX8_trace 69 = .ok (.getfield 25, 3) := by decide +kernel
theorem dX8_trace_72 : decode cX8_trace 72 = .ok (.aload_n 0, 1) := by decide +kernel
theorem dX8_trace_73 : decode cX8_trace 73 = .ok (.getfield 85, 3) := by decide +kernel
theorem dX8_trace_76 : decode cX8_trace 76 = .ok (.iload_n 2, 1) := by decide +kernel
theorem dX8_trace_77 : decode cX8_trace 77 = .ok (.iastore, 1) := by decide +kernel
theorem dX8_trace_78 : decode cX8_trace 78 = .ok (.aload_n 0, 1) := by decide +kernel
theorem dX8_trace_79 : decode cX8_trace 79 = .ok (.getfield 28, 3) := by decide +kernel
theorem dX8_trace_82 : decode cX8_trace 82 = .ok (.aload_n 0, 1) := by decide +kernel
theorem dX8_trace_83 : decode cX8_trace 83 = .ok (.getfield 85, 3) := by decide +kernel
theorem dX8_trace_86 : decode cX8_trace 86 = .ok (.iload_n 3, 1) := by decide +kernel
theorem dX8_trace_87 : decode cX8_trace 87 = .ok (.iastore, 1) := by decide +kernel
theorem dX8_trace_88 : decode cX8_trace 88 = .ok (.aload_n 0, 1) := by decide +kernel
theorem dX8_trace_89 : decode cX8_trace 89 = .ok (.getfield 31, 3) := by decide +kernel
theorem dX8_trace_92 : decode cX8_trace 92 = .ok (.aload_n 0, 1) := by decide +kernel
theorem dX8_trace_93 : decode cX8_trace 93 = .ok (.getfield 85, 3) := by decide +kernel
theorem dX8_trace_96 : decode cX8_trace 96 = .ok (.iload 4, 2) := by decide +kernel
theorem dX8_trace_98 : decode cX8_trace 98 = .ok (.iastore, 1) := by decide +kernel
theorem dX8_trace_99 : decode cX8_trace 99 = .ok (.aload_n 0, 1) := by decide +kernel
theorem dX8_trace_100 : decode cX8_trace 100 = .ok (.dup, 1) := by decide +kernel
theorem dX8_trace_101 : decode cX8_trace 101 = .ok (.getfield 85, 3) := by decide +kernel
theorem dX8_trace_104 : decode cX8_trace 104 = .ok (.iconst 1, 1) := by decide +kernel
theorem dX8_trace_105 : decode cX8_trace 105 = .ok (.iadd, 1) := by decide +kernel
theorem dX8_trace_106 : decode cX8_trace 106 = .ok (.putfield 85, 3) := by decide +kernel
theorem dX8_trace_109 : decode cX8_trace 109 = .ok (.aload_n 0, 1) := by decide +kernel
theorem dX8_trace_110 : decode cX8_trace 110 = .ok (.getfield 85, 3) := by decide +kernel
theorem dX8_trace_113 : decode cX8_trace 113 = .ok (.iconst 1, 1) := by decide +kernel
theorem dX8_trace_114 : decode cX8_trace 114 = .ok (.isub, 1) := by decide +kernel
theorem dX8_trace_115 : decode cX8_trace 115 = .ok (.i2l, 1) := by decide +kernel
theorem dX8_trace_116 : decode cX8_trace 116 = .ok (.lreturn, 1) := by decide +kernel
theorem dX8_removeTie_0 : decode cX8_removeTie 0 = .ok (.aload_n 0, 1) := by decide +kernel
theorem dX8_removeTie_1 : decode cX8_removeTie 1 = .ok (.dup, 1) := by decide +kernel
theorem dX8_removeTie_2 : decode cX8_removeTie 2 = .ok (.getfield 103, 3) := by decide +kernel
theorem dX8_removeTie_5 : decode cX8_removeTie 5 = .ok (.iconst 1, 1) := by decide +kernel
theorem dX8_removeTie_6 : decode cX8_removeTie 6 = .ok (.isub, 1) := by decide +kernel
theorem dX8_removeTie_7 : decode cX8_removeTie 7 = .ok (.putfield 103, 3) := by decide +kernel
theorem dX8_removeTie_10 : decode cX8_removeTie 10 = .ok (.iload_n 1, 1) := by decide +kernel
theorem dX8_removeTie_11 : decode cX8_removeTie 11 = .ok (.istore_n 2, 1) := by decide +kernel
theorem dX8_removeTie_12 : decode cX8_removeTie 12 = .ok (.iload_n 2, 1) := by decide +kernel
theorem dX8_removeTie_13 : decode cX8_removeTie 13 = .ok (.aload_n 0, 1) := by decide +kernel
theorem dX8_removeTie_14 : decode cX8_removeTie 14 = .ok (.getfield 103, 3) := by decide +kernel
theorem dX8_removeTie_17 : decode cX8_removeTie 17 = .ok (.if_icmp .ge 51, 3) := by decide +kernel
theorem dX8_removeTie_20 : decode cX8_removeTie 20 = .ok (.aload_n 0, 1) := by decide +kernel
theorem dX8_removeTie_21 : decode cX8_removeTie 21 = .ok (.getfield 34, 3) := by decide +kernel
theorem dX8_removeTie_24 : decode cX8_removeTie 24 = .ok (.iload_n 2, 1) := by decide +kernel
theorem dX8_removeTie_25 : decode cX8_removeTie 25 = .ok (.aload_n 0, 1) := by decide +kernel
theorem dX8_removeTie_26 : decode cX8_removeTie 26 = .ok (.getfield 34, 3) := by decide +kernel
theorem dX8_removeTie_29 : decode cX8_removeTie 29 = .ok (.iload_n 2, 1) := by decide +kernel
theorem dX8_removeTie_30 : decode cX8_removeTie 30 = .ok (.iconst 1, 1) := by decide +kernel
theorem dX8_removeTie_31 : decode cX8_removeTie 31 = .ok (.iadd, 1) := by decide +kernel
theorem dX8_removeTie_32 : decode cX8_removeTie 32 = .ok (.iaload, 1) := by decide +kernel
theorem dX8_removeTie_33 : decode cX8_removeTie 33 = .ok (.iastore, 1) := by decide +kernel
theorem dX8_removeTie_34 : decode cX8_removeTie 34 = .ok (.aload_n 0, 1) := by decide +kernel
theorem dX8_removeTie_35 : decode cX8_removeTie 35 = .ok (.getfield 37, 3) := by decide +kernel
theorem dX8_removeTie_38 : decode cX8_removeTie 38 = .ok (.iload_n 2, 1) := by decide +kernel
theorem dX8_removeTie_39 : decode cX8_removeTie 39 = .ok (.aload_n 0, 1) := by decide +kernel
theorem dX8_removeTie_40 : decode cX8_removeTie 40 = .ok (.getfield 37, 3) := by decide +kernel
theorem dX8_removeTie_43 : decode cX8_removeTie 43 = .ok (.iload_n 2, 1) := by decide +kernel
theorem dX8_removeTie_44 : decode cX8_removeTie 44 = .ok (.iconst 1, 1) := by decide +kernel
theorem dX8_removeTie_45 : decode cX8_removeTie 45 = .ok (.iadd, 1) := by decide +kernel
theorem dX8_removeTie_46 : decode cX8_removeTie 46 = .ok (.iaload, 1) := by decide +kernel
theorem dX8_removeTie_47 : decode cX8_removeTie 47 = .ok (.iastore, 1) := by decide +kernel
theorem dX8_removeTie_48 : decode cX8_removeTie 48 = .ok (.aload_n 0, 1) := by decide +kernel
theorem dX8_removeTie_49 : decode cX8_removeTie 49 = .ok (.getfield 40, 3) := by decide +kernel
theorem dX8_removeTie_52 : decode cX8_removeTie 52 = .ok (.iload_n 2, 1) := by decide +kernel
theorem dX8_removeTie_53 : decode cX8_removeTie 53 = .ok (.aload_n 0, 1) := by decide +kernel
theorem dX8_removeTie_54 : decode cX8_removeTie 54 = .ok (.getfield 40, 3) := by decide +kernel
theorem dX8_removeTie_57 : decode cX8_removeTie 57 = .ok (.iload_n 2, 1) := by decide +kernel
theorem dX8_removeTie_58 : decode cX8_removeTie 58 = .ok (.iconst 1, 1) := by decide +kernel
theorem dX8_removeTie_59 : decode cX8_removeTie 59 = .ok (.iadd, 1) := by decide +kernel
theorem dX8_removeTie_60 : decode cX8_removeTie 60 = .ok (.iaload, 1) := by decide +kernel
theorem dX8_removeTie_61 : decode cX8_removeTie 61 = .ok (.iastore, 1) := by decide +kernel
theorem dX8_removeTie_62 : decode cX8_removeTie 62 = .ok (.iinc 2 1, 3) := by decide +kernel
theorem dX8_removeTie_65 : decode cX8_removeTie 65 = .ok (.goto (-53), 3) := by decide +kernel
theorem dX8_removeTie_68 : decode cX8_removeTie 68 = .ok (.return_, 1) := by decide +kernel
set_option maxRecDepth 20000 in
theorem ggX8_drop_X8_finding : GoodIn wsX8_drop wsX8_finding := goodIn_r _ [9, 10, 11, 17, 18, 19, 20, 21, 22, 23, 24, 25, 26, 27, 28, 29, 30, 31, 32, 33, 34, 35, 36, 37, 38, 39, 40, 41, 42, 43] (by decide +kernel) (by decide +kernel)
set_option maxRecDepth 20000 in
theorem gX8_drop_X8_finding : GoodIn wsX8_drop (wsV RX8 95 RX8 yX8_finding wsX8_finding) := goodIn_app (goodIn_of _ (by decide +kernel)) ggX8_drop_X8_finding
set_option maxRecDepth 20000 in
theorem ggX8_drop_X8_removeTie : GoodIn wsX8_drop wsX8_removeTie := goodIn_r _ [15, 2, 3, 4, 16, 17, 18, 19, 20, 21, 22, 23, 24, 25, 26, 27, 28, 29, 30, 31, 32, 33, 34, 35, 36, 37, 38, 39, 40, 41, 42, 43] (by decide +kernel) (by decide +kernel)
set_option maxRecDepth 20000 in
theorem gX8_drop_X8_removeTie : GoodIn wsX8_drop (wsV RX8 106 RX8 yX8_removeTie wsX8_removeTie) := goodIn_app (goodIn_of _ (by decide +kernel)) ggX8_drop_X8_removeTie
theorem dX8_drop_0 : decode cX8_drop 0 = .ok (.aload_n 0, 1) := by decide +kernel
theorem dX8_drop_1 : decode cX8_drop 1 = .ok (.getfield 85, 3) := by decide +kernel
theorem dX8_drop_4 : decode cX8_drop 4 = .ok (.ifCond .ne 9, 3) := by decide +kernel
theorem dX8_drop_7 : decode cX8_drop 7 = .ok (.aload_n 0, 1) := by decide +kernel
theorem dX8_drop_8 : decode cX8_drop 8 = .ok (.iconst 2, 1) := by decide +kernel
theorem dX8_drop_9 : decode cX8_drop 9 = .ok (.invokevirtual 95, 3) := by decide +kernel
theorem dX8_drop_12 : decode cX8_drop 12 = .ok (.lreturn, 1) := by decide +kernel
theorem dX8_drop_13 : decode cX8_drop 13 = .ok (.aload_n 0, 1) := by decide +kernel
theorem dX8_drop_14 : decode cX8_drop 14 = .ok (.dup, 1) := by decide +kernel
theorem dX8_drop_15 : decode cX8_drop 15 = .ok (.getfield 85, 3) := by decide +kernel
theorem dX8_drop_18 : decode cX8_drop 18 = .ok (.iconst 1, 1) := by decide +kernel
theorem dX8_drop_19 : decode cX8_drop 19 = .ok (.isub, 1) := by decide +kernel
theorem dX8_drop_20 : decode cX8_drop 20 = .ok (.putfield 85, 3) := by decide +kernel
theorem dX8_drop_23 : decode cX8_drop 23 = .ok (.aload_n 0, 1) := by decide +kernel
theorem dX8_drop_24 : decode cX8_drop 24 = .ok (.getfield 103, 3) := by decide +kernel
theorem dX8_drop_27 : decode cX8_drop 27 = .ok (.iconst 1, 1) := by decide +kernel
theorem dX8_drop_28 : decode cX8_drop 28 = .ok (.isub, 1) := by decide +kernel
theorem dX8_drop_29 : decode cX8_drop 29 = .ok (.istore_n 1, 1) := by decide +kernel
theorem dX8_drop_30 : decode cX8_drop 30 = .ok (.iload_n 1, 1) := by decide +kernel
theorem dX8_drop_31 : decode cX8_drop 31 = .ok (.ifCond .lt 40, 3) := by decide +kernel
theorem dX8_drop_34 : decode cX8_drop 34 = .ok (.aload_n 0, 1) := by decide +kernel
theorem dX8_drop_35 : decode cX8_drop 35 = .ok (.getfield 34, 3) := by decide +kernel
theorem dX8_drop_38 : decode cX8_drop 38 = .ok (.iload_n 1, 1) := by decide +kernel
theorem dX8_drop_39 : decode cX8_drop 39 = .ok (.iaload, 1) := by decide +kernel
theorem dX8_drop_40 : decode cX8_drop 40 = .ok (.aload_n 0, 1) := by decide +kernel
theorem dX8_drop_41 : decode cX8_drop 41 = .ok (.getfield 85, 3) := by decide +kernel
theorem dX8_drop_44 : decode cX8_drop 44 = .ok (.if_icmp .eq 16, 3) := by decide +kernel
theorem dX8_drop_47 : decode cX8_drop 47 = .ok (.aload_n 0, 1) := by decide +kernel
theorem dX8_drop_48 : decode cX8_drop 48 = .ok (.getfield 37, 3) := by decide +kernel
theorem dX8_drop_51 : decode cX8_drop 51 = .ok (.iload_n 1, 1) := by decide +kernel
theorem dX8_drop_52 : decode cX8_drop 52 = .ok (.iaload, 1) := by decide +kernel
theorem dX8_drop_53 : decode cX8_drop 53 = .ok (.aload_n 0, 1) := by decide +kernel
theorem dX8_drop_54 : decode cX8_drop 54 = .ok (.getfield 85, 3) := by decide +kernel
theorem dX8_drop_57 : decode cX8_drop 57 = .ok (.if_icmp .ne 8, 3) := by decide +kernel
theorem dX8_drop_60 : decode cX8_drop 60 = .ok (.aload_n 0, 1) := by decide +kernel
theorem dX8_drop_61 : decode cX8_drop 61 = .ok (.iload_n 1, 1) := by decide +kernel
theorem dX8_drop_62 : decode cX8_drop 62 = .ok (.invokevirtual 106, 3) := by decide +kernel
theorem dX8_drop_65 : decode cX8_drop 65 = .ok (.iinc 1 (-1), 3) := by decide +kernel
theorem dX8_drop_68 : decode cX8_drop 68 = .ok (.goto (-38), 3) := by decide +kernel
theorem dX8_drop_71 : decode cX8_drop 71 = .ok (.aload_n 0, 1) := by decide +kernel
theorem dX8_drop_72 : decode cX8_drop 72 = .ok (.getfield 85, 3) := by decide +kernel
theorem dX8_drop_75 : decode cX8_drop 75 = .ok (.i2l, 1) := by decide +kernel
theorem dX8_drop_76 : decode cX8_drop 76 = .ok (.lreturn, 1) := by decide +kernel
set_option maxRecDepth 20000 in
theorem ggX8_about_X8_isTrace : GoodIn wsX8_about wsX8_isTrace := goodIn_r _ [9, 10, 20, 21, 22, 23, 24, 25, 26, 27, 28, 29, 30, 31, 32, 33, 34, 35, 36, 37, 38, 39, 40, 41, 42, 43, 44, 45, 46] (by decide +kernel) (by decide +kernel)
set_option maxRecDepth 20000 in
theorem gX8_about_X8_isTrace : GoodIn wsX8_about (wsV RX8 110 RX8 yX8_isTrace wsX8_isTrace) := goodIn_app (goodIn_of _ (by decide +kernel)) ggX8_about_X8_isTrace
set_option maxRecDepth 20000 in
theorem ggX8_about_X8_isIn : GoodIn wsX8_about wsX8_isIn := goodIn_r _ [13] (by decide +kernel) (by decide +kernel)
set_option maxRecDepth 20000 in
theorem gX8_about_X8_isIn : GoodIn wsX8_about (va_wsS RX8 81 yX8_isIn wsX8_isIn) := goodIn_app (goodIn_of _ (by decide +kernel)) ggX8_about_X8_isIn
set_option maxRecDepth 20000 in
theorem ggX8_about_X8_finding : GoodIn wsX8_about wsX8_finding := goodIn_r _ [17, 18, 19, 20, 21, 22, 23, 24, 25, 26, 27, 28, 29, 30, 31, 32, 33, 34, 35, 36, 37, 38, 39, 40, 41, 42, 43, 44, 45, 46] (by decide +kernel) (by decide +kernel)
set_option maxRecDepth 20000 in
theorem gX8_about_X8_finding : GoodIn wsX8_about (wsV RX8 95 RX8 yX8_finding wsX8_finding) := goodIn_app (goodIn_of _ (by decide +kernel)) ggX8_about_X8_finding
theorem dX8_about_0 : decode cX8_about 0 = .ok (.aload_n 0, 1) := by decide +kernel
theorem dX8_about_1 : decode cX8_about 1 = .ok (.iload_n 1, 1) := by decide +kernel
theorem dX8_about_2 : decode cX8_about 2 = .ok (.invokevirtual 110, 3) := by decide +kernel
theorem dX8_about_5 : decode cX8_about 5 = .ok (.ifCond .eq 12, 3) := by decide +kernel
theorem dX8_about_8 : decode cX8_about 8 = .ok (.iload_n 2, 1) := by decide +kernel
theorem dX8_about_9 : decode cX8_about 9 = .ok (.iconst 0, 1) := by decide +kernel
theorem dX8_about_10 : decode cX8_about 10 = .ok (.iconst 3, 1) := by decide +kernel
theorem dX8_about_11 : decode cX8_about 11 = .ok (.invokestatic 81, 3) := by decide +kernel
theorem dX8_about_14 : decode cX8_about 14 = .ok (.ifCond .ne 9, 3) := by decide +kernel
theorem dX8_about_17 : decode cX8_about 17 = .ok (.aload_n 0, 1) := by decide +kernel
theorem dX8_about_18 : decode cX8_about 18 = .ok (.iconst 1, 1) := by decide +kernel
theorem dX8_about_19 : decode cX8_about 19 = .ok (.invokevirtual 95, 3) := by decide +kernel
theorem dX8_about_22 : decode cX8_about 22 = .ok (.lreturn, 1) := by decide +kernel
theorem dX8_about_23 : decode cX8_about 23 = .ok (.iload_n 2, 1) := by decide +kernel
theorem dX8_about_24 : decode cX8_about 24 = .ok (.ifCond .ne 13, 3) := by decide +kernel
theorem dX8_about_27 : decode cX8_about 27 = .ok (.aload_n 0, 1) := by decide +kernel
theorem dX8_about_28 : decode cX8_about 28 = .ok (.getfield 22, 3) := by decide +kernel
theorem dX8_about_31 : decode cX8_about 31 = .ok (.iload_n 1, 1) := by decide +kernel
theorem dX8_about_32 : decode cX8_about 32 = .ok (.iaload, 1) := by decide +kernel
theorem dX8_about_33 : decode cX8_about 33 = .ok (.i2l, 1) := by decide +kernel
theorem dX8_about_34 : decode cX8_about 34 = .ok (.goto 40, 3) := by decide +kernel
theorem dX8_about_37 : decode cX8_about 37 = .ok (.iload_n 2, 1) := by decide +kernel
theorem dX8_about_38 : decode cX8_about 38 = .ok (.iconst 1, 1) := by decide +kernel
theorem dX8_about_39 : decode cX8_about 39 = .ok (.if_icmp .ne 13, 3) := by decide +kernel
theorem dX8_about_42 : decode cX8_about 42 = .ok (.aload_n 0, 1) := by decide +kernel
theorem dX8_about_43 : decode cX8_about 43 = .ok (.getfield 25, 3) := by decide +kernel
theorem dX8_about_46 : decode cX8_about 46 = .ok (.iload_n 1, 1) := by decide +kernel
theorem dX8_about_47 : decode cX8_about 47 = .ok (.iaload, 1) := by decide +kernel
theorem dX8_about_48 : decode cX8_about 48 = .ok (.i2l, 1) := by decide +kernel
theorem dX8_about_49 : decode cX8_about 49 = .ok (.goto 25, 3) := by decide +kernel
theorem dX8_about_52 : decode cX8_about 52 = .ok (.iload_n 2, 1) := by decide +kernel
theorem dX8_about_53 : decode cX8_about 53 = .ok (.iconst 2, 1) := by decide +kernel
theorem dX8_about_54 : decode cX8_about 54 = .ok (.if_icmp .ne 13, 3) := by decide +kernel
theorem dX8_about_57 : decode cX8_about 57 = .ok (.aload_n 0, 1) := by decide +kernel
theorem dX8_about_58 : decode cX8_about 58 = .ok (.getfield 28, 3) := by decide +kernel
theorem dX8_about_61 : decode cX8_about 61 = .ok (.iload_n 1, 1) := by decide +kernel
theorem dX8_about_62 : decode cX8_about 62 = .ok (.iaload, 1) := by decide +kernel
theorem dX8_about_63 : decode cX8_about 63 = .ok (.i2l, 1) := by decide +kernel
theorem dX8_about_64 : decode cX8_about 64 = .ok (.goto 10, 3) := by decide +kernel
theorem dX8_about_67 : decode cX8_about 67 = .ok (.aload_n 0, 1) := by decide +kernel
theorem dX8_about_68 : decode cX8_about 68 = .ok (.getfield 31, 3) := by decide +kernel
theorem dX8_about_71 : decode cX8_about 71 = .ok (.iload_n 1, 1) := by decide +kernel
theorem dX8_about_72 : decode cX8_about 72 = .ok (.iaload, 1) := by decide +kernel
theorem dX8_about_73 : decode cX8_about 73 = .ok (.i2l, 1) := by decide +kernel
theorem dX8_about_74 : decode cX8_about 74 = .ok (.lreturn, 1) := by decide +kernel
set_option maxRecDepth 20000 in
theorem ggX8_as_X8_isTrace : GoodIn wsX8_as wsX8_isTrace := goodIn_r _ [7, 8, 18, 19, 20, 21, 22, 23, 24, 25, 26, 27, 28, 29, 30, 31, 32, 33, 34, 35, 36, 37, 38, 39, 40, 41, 42, 43, 44] (by decide +kernel) (by decide +kernel)
set_option maxRecDepth 20000 in
theorem gX8_as_X8_isTrace : GoodIn wsX8_as (wsV RX8 110 RX8 yX8_isTrace wsX8_isTrace) := goodIn_app (goodIn_of _ (by decide +kernel)) ggX8_as_X8_isTrace
set_option maxRecDepth 20000 in
theorem ggX8_as_X8_isIn : GoodIn wsX8_as wsX8_isIn := goodIn_r _ [11] (by decide +kernel) (by decide +kernel)
set_option maxRecDepth 20000 in
theorem gX8_as_X8_isIn : GoodIn wsX8_as (va_wsS RX8 81 yX8_isIn wsX8_isIn) := goodIn_app (goodIn_of _ (by decide +kernel)) ggX8_as_X8_isIn
set_option maxRecDepth 20000 in
theorem ggX8_as_X8_finding : GoodIn wsX8_as wsX8_finding := goodIn_r _ [15, 16, 17, 18, 19, 20, 21, 22, 23, 24, 25, 26, 27, 28, 29, 30, 31, 32, 33, 34, 35, 36, 37, 38, 39, 40, 41, 42, 43, 44] (by decide +kernel) (by decide +kernel)
set_option maxRecDepth 20000 in
theorem gX8_as_X8_finding : GoodIn wsX8_as (wsV RX8 95 RX8 yX8_finding wsX8_finding) := goodIn_app (goodIn_of _ (by decide +kernel)) ggX8_as_X8_finding
theorem dX8_as_0 : decode cX8_as 0 = .ok (.aload_n 0, 1) := by decide +kernel
theorem dX8_as_1 : decode cX8_as 1 = .ok (.iload_n 1, 1) := by decide +kernel
theorem dX8_as_2 : decode cX8_as 2 = .ok (.invokevirtual 110, 3) := by decide +kernel
theorem dX8_as_5 : decode cX8_as 5 = .ok (.ifCond .eq 12, 3) := by decide +kernel
theorem dX8_as_8 : decode cX8_as 8 = .ok (.iload_n 2, 1) := by decide +kernel
theorem dX8_as_9 : decode cX8_as 9 = .ok (.iconst 0, 1) := by decide +kernel
theorem dX8_as_10 : decode cX8_as 10 = .ok (.iconst 2, 1) := by decide +kernel
theorem dX8_as_11 : decode cX8_as 11 = .ok (.invokestatic 81, 3) := by decide +kernel
theorem dX8_as_14 : decode cX8_as 14 = .ok (.ifCond .ne 9, 3) := by decide +kernel
theorem dX8_as_17 : decode cX8_as 17 = .ok (.aload_n 0, 1) := by decide +kernel
theorem dX8_as_18 : decode cX8_as 18 = .ok (.iconst 1, 1) := by decide +kernel
theorem dX8_as_19 : decode cX8_as 19 = .ok (.invokevirtual 95, 3) := by decide +kernel
theorem dX8_as_22 : decode cX8_as 22 = .ok (.lreturn, 1) := by decide +kernel
theorem dX8_as_23 : decode cX8_as 23 = .ok (.iload_n 2, 1) := by decide +kernel
theorem dX8_as_24 : decode cX8_as 24 = .ok (.ifCond .eq 13, 3) := by decide +kernel
theorem dX8_as_27 : decode cX8_as 27 = .ok (.aload_n 0, 1) := by decide +kernel
theorem dX8_as_28 : decode cX8_as 28 = .ok (.getfield 22, 3) := by decide +kernel
theorem dX8_as_31 : decode cX8_as 31 = .ok (.iload_n 1, 1) := by decide +kernel
theorem dX8_as_32 : decode cX8_as 32 = .ok (.iaload, 1) := by decide +kernel
theorem dX8_as_33 : decode cX8_as 33 = .ok (.iload_n 2, 1) := by decide +kernel
theorem dX8_as_34 : decode cX8_as 34 = .ok (.if_icmp .ne 13, 3) := by decide +kernel
theorem dX8_as_37 : decode cX8_as 37 = .ok (.aload_n 0, 1) := by decide +kernel
theorem dX8_as_38 : decode cX8_as 38 = .ok (.getfield 31, 3) := by decide +kernel
theorem dX8_as_41 : decode cX8_as 41 = .ok (.iload_n 1, 1) := by decide +kernel
theorem dX8_as_42 : decode cX8_as 42 = .ok (.iaload, 1) := by decide +kernel
theorem dX8_as_43 : decode cX8_as 43 = .ok (.i2l, 1) := by decide +kernel
theorem dX8_as_44 : decode cX8_as 44 = .ok (.goto 8, 3) := by decide +kernel
theorem dX8_as_47 : decode cX8_as 47 = .ok (.aload_n 0, 1) := by decide +kernel
theorem dX8_as_48 : decode cX8_as 48 = .ok (.iconst 3, 1) := by decide +kernel
theorem dX8_as_49 : decode cX8_as 49 = .ok (.invokevirtual 95, 3) := by decide +kernel
theorem dX8_as_52 : decode cX8_as 52 = .ok (.lreturn, 1) := by decide +kernel
set_option maxRecDepth 20000 in
theorem ggX8_end_X8_pieceOf : GoodIn wsX8_end wsX8_pieceOf := goodIn_r _ [11, 12, 13, 14, 15, 16, 17, 18, 19, 20, 21, 22, 23, 24, 25, 26, 27, 28, 29, 30, 31, 32, 33, 34, 35, 36, 37, 38, 39, 40] (by decide +kernel) (by decide +kernel)
set_option maxRecDepth 20000 in
theorem gX8_end_X8_pieceOf : GoodIn wsX8_end (wsV RX8 99 RX8 yX8_pieceOf wsX8_pieceOf) := goodIn_app (goodIn_of _ (by decide +kernel)) ggX8_end_X8_pieceOf
theorem dX8_end_0 : decode cX8_end 0 = .ok (.aload_n 0, 1) := by decide +kernel
theorem dX8_end_1 : decode cX8_end 1 = .ok (.aload_n 0, 1) := by decide +kernel
theorem dX8_end_2 : decode cX8_end 2 = .ok (.getfield 25, 3) := by decide +kernel
theorem dX8_end_5 : decode cX8_end 5 = .ok (.iload_n 1, 1) := by decide +kernel
theorem dX8_end_6 : decode cX8_end 6 = .ok (.iaload, 1) := by decide +kernel
theorem dX8_end_7 : decode cX8_end 7 = .ok (.aload_n 0, 1) := by decide +kernel
theorem dX8_end_8 : decode cX8_end 8 = .ok (.getfield 28, 3) := by decide +kernel
theorem dX8_end_11 : decode cX8_end 11 = .ok (.iload_n 1, 1) := by decide +kernel
theorem dX8_end_12 : decode cX8_end 12 = .ok (.iaload, 1) := by decide +kernel
theorem dX8_end_13 : decode cX8_end 13 = .ok (.invokevirtual 99, 3) := by decide +kernel
theorem dX8_end_16 : decode cX8_end 16 = .ok (.istore_n 3, 1) := by decide +kernel
theorem dX8_end_17 : decode cX8_end 17 = .ok (.iload_n 3, 1) := by decide +kernel
theorem dX8_end_18 : decode cX8_end 18 = .ok (.ifCond .lt 17, 3) := by decide +kernel
theorem dX8_end_21 : decode cX8_end 21 = .ok (.iload_n 2, 1) := by decide +kernel
theorem dX8_end_22 : decode cX8_end 22 = .ok (.ifCond .eq 17, 3) := by decide +kernel
theorem dX8_end_25 : decode cX8_end 25 = .ok (.aload_n 0, 1) := by decide +kernel
theorem dX8_end_26 : decode cX8_end 26 = .ok (.getfield 22, 3) := by decide +kernel
theorem dX8_end_29 : decode cX8_end 29 = .ok (.iload_n 1, 1) := by decide +kernel
theorem dX8_end_30 : decode cX8_end 30 = .ok (.iaload, 1) := by decide +kernel
theorem dX8_end_31 : decode cX8_end 31 = .ok (.iconst 1, 1) := by decide +kernel
theorem dX8_end_32 : decode cX8_end 32 = .ok (.if_icmp .ne 7, 3) := by decide +kernel
theorem dX8_end_35 : decode cX8_end 35 = .ok (.ldc2_w 113, 3) := by decide +kernel
theorem dX8_end_38 : decode cX8_end 38 = .ok (.lreturn, 1) := by decide +kernel
theorem dX8_end_39 : decode cX8_end 39 = .ok (.aload_n 0, 1) := by decide +kernel
theorem dX8_end_40 : decode cX8_end 40 = .ok (.getfield 28, 3) := by decide +kernel
theorem dX8_end_43 : decode cX8_end 43 = .ok (.iload_n 1, 1) := by decide +kernel
theorem dX8_end_44 : decode cX8_end 44 = .ok (.iaload, 1) := by decide +kernel
theorem dX8_end_45 : decode cX8_end 45 = .ok (.iload_n 2, 1) := by decide +kernel
theorem dX8_end_46 : decode cX8_end 46 = .ok (.ifCond .eq 12, 3) := by decide +kernel
theorem dX8_end_49 : decode cX8_end 49 = .ok (.aload_n 0, 1) := by decide +kernel
theorem dX8_end_50 : decode cX8_end 50 = .ok (.getfield 19, 3) := by decide +kernel
theorem dX8_end_53 : decode cX8_end 53 = .ok (.iload_n 3, 1) := by decide +kernel
theorem dX8_end_54 : decode cX8_end 54 = .ok (.iaload, 1) := by decide +kernel
theorem dX8_end_55 : decode cX8_end 55 = .ok (.goto 9, 3) := by decide +kernel
theorem dX8_end_58 : decode cX8_end 58 = .ok (.aload_n 0, 1) := by decide +kernel
theorem dX8_end_59 : decode cX8_end 59 = .ok (.getfield 16, 3) := by decide +kernel
theorem dX8_end_62 : decode cX8_end 62 = .ok (.iload_n 3, 1) := by decide +kernel
theorem dX8_end_63 : decode cX8_end 63 = .ok (.iaload, 1) := by decide +kernel
theorem dX8_end_64 : decode cX8_end 64 = .ok (.iadd, 1) := by decide +kernel
theorem dX8_end_65 : decode cX8_end 65 = .ok (.i2l, 1) := by decide +kernel
theorem dX8_end_66 : decode cX8_end 66 = .ok (.lreturn, 1) := by decide +kernel
set_option maxRecDepth 20000 in
theorem ggX8_span_X8_isTrace : GoodIn wsX8_span wsX8_isTrace := goodIn_r _ [6, 7, 29, 30, 31, 32, 33, 34, 35, 36, 37, 38, 39, 40, 41, 42, 43, 44, 45, 46, 47, 48, 49, 50, 51, 52, 53, 54, 55] (by decide +kernel) (by decide +kernel)
set_option maxRecDepth 20000 in
theorem gX8_span_X8_isTrace : GoodIn wsX8_span (wsV RX8 110 RX8 yX8_isTrace wsX8_isTrace) := goodIn_app (goodIn_of _ (by decide +kernel)) ggX8_span_X8_isTrace
set_option maxRecDepth 20000 in
theorem ggX8_span_X8_finding : GoodIn wsX8_span wsX8_finding := goodIn_r _ [11, 12, 13, 29, 30, 31, 32, 33, 34, 35, 36, 37, 38, 39, 40, 41, 42, 43, 44, 45, 46, 47, 48, 49, 50, 51, 52, 53, 54, 55] (by decide +kernel) (by decide +kernel)
set_option maxRecDepth 20000 in
theorem gX8_span_X8_finding : GoodIn wsX8_span (wsV RX8 95 RX8 yX8_finding wsX8_finding) := goodIn_app (goodIn_of _ (by decide +kernel)) ggX8_span_X8_finding
set_option maxRecDepth 20000 in
theorem ggX8_span_X8_end : GoodIn wsX8_span wsX8_end := goodIn_r _ [17, 18, 19, 20, 1, 21, 22, 23, 24, 25, 5, 26, 27, 28, 29, 30, 31, 32, 33, 34, 35, 36, 37, 38, 39, 40, 41, 42, 43, 44, 45, 46, 47, 48, 49, 50, 51, 52, 53, 54, 55] (by decide +kernel) (by decide +kernel)
set_option maxRecDepth 20000 in
theorem gX8_span_X8_end : GoodIn wsX8_span (wsV RX8 115 RX8 yX8_end wsX8_end) := goodIn_app (goodIn_of _ (by decide +kernel)) ggX8_span_X8_end
theorem dX8_span_0 : decode cX8_span 0 = .ok (.aload_n 0, 1) := by decide +kernel
theorem dX8_span_1 : decode cX8_span 1 = .ok (.iload_n 1, 1) := by decide +kernel
theorem dX8_span_2 : decode cX8_span 2 = .ok (.invokevirtual 110, 3) := by decide +kernel
theorem dX8_span_5 : decode cX8_span 5 = .ok (.ifCond .ne 9, 3) := by decide +kernel
theorem dX8_span_8 : decode cX8_span 8 = .ok (.aload_n 0, 1) := by decide +kernel
theorem dX8_span_9 : decode cX8_span 9 = .ok (.iconst 1, 1) := by decide +kernel
theorem dX8_span_10 : decode cX8_span 10 = .ok (.invokevirtual 95, 3) := by decide +kernel
theorem dX8_span_13 : decode cX8_span 13 = .ok (.lreturn, 1) := by decide +kernel
theorem dX8_span_14 : decode cX8_span 14 = .ok (.aload_n 0, 1) := by decide +kernel
theorem dX8_span_15 : decode cX8_span 15 = .ok (.iload_n 1, 1) := by decide +kernel
theorem dX8_span_16 : decode cX8_span 16 = .ok (.iload_n 2, 1) := by decide +kernel
theorem dX8_span_17 : decode cX8_span 17 = .ok (.invokevirtual 115, 3) := by decide +kernel
theorem dX8_span_20 : decode cX8_span 20 = .ok (.lstore_n 3, 1) := by decide +kernel
theorem dX8_span_21 : decode cX8_span 21 = .ok (.lload_n 3, 1) := by decide +kernel
theorem dX8_span_22 : decode cX8_span 22 = .ok (.ldc2_w 113, 3) := by decide +kernel
theorem dX8_span_25 : decode cX8_span 25 = .ok (.lcmp, 1) := by decide +kernel
theorem dX8_span_26 : decode cX8_span 26 = .ok (.ifCond .ne 11, 3) := by decide +kernel
theorem dX8_span_29 : decode cX8_span 29 = .ok (.aload_n 0, 1) := by decide +kernel
theorem dX8_span_30 : decode cX8_span 30 = .ok (.iconst 2, 1) := by decide +kernel
theorem dX8_span_31 : decode cX8_span 31 = .ok (.invokevirtual 95, 3) := by decide +kernel
theorem dX8_span_34 : decode cX8_span 34 = .ok (.goto 4, 3) := by decide +kernel
theorem dX8_span_37 : decode cX8_span 37 = .ok (.lload_n 3, 1) := by decide +kernel
theorem dX8_span_38 : decode cX8_span 38 = .ok (.lreturn, 1) := by decide +kernel
set_option maxRecDepth 20000 in
theorem ggX8_tie_X8_isTrace : GoodIn wsX8_tie wsX8_isTrace := goodIn_r _ [11, 12, 22, 23, 24, 25, 26, 27, 28, 29, 30, 31, 32, 33, 34, 35, 36, 37, 38, 39, 40, 41, 42, 43, 44, 45, 46, 47, 48] (by decide +kernel) (by decide +kernel)
set_option maxRecDepth 20000 in
theorem gX8_tie_X8_isTrace : GoodIn wsX8_tie (wsV RX8 110 RX8 yX8_isTrace wsX8_isTrace) := goodIn_app (goodIn_of _ (by decide +kernel)) ggX8_tie_X8_isTrace
set_option maxRecDepth 20000 in
theorem ggX8_tie_X8_isIn : GoodIn wsX8_tie wsX8_isIn := goodIn_r _ [15] (by decide +kernel) (by decide +kernel)
set_option maxRecDepth 20000 in
theorem gX8_tie_X8_isIn : GoodIn wsX8_tie (va_wsS RX8 81 yX8_isIn wsX8_isIn) := goodIn_app (goodIn_of _ (by decide +kernel)) ggX8_tie_X8_isIn
set_option maxRecDepth 20000 in
theorem ggX8_tie_X8_finding : GoodIn wsX8_tie wsX8_finding := goodIn_r _ [19, 20, 21, 22, 23, 24, 25, 26, 27, 28, 29, 30, 31, 32, 33, 34, 35, 36, 37, 38, 39, 40, 41, 42, 43, 44, 45, 46, 47, 48] (by decide +kernel) (by decide +kernel)
set_option maxRecDepth 20000 in
theorem gX8_tie_X8_finding : GoodIn wsX8_tie (wsV RX8 95 RX8 yX8_finding wsX8_finding) := goodIn_app (goodIn_of _ (by decide +kernel)) ggX8_tie_X8_finding
theorem dX8_tie_0 : decode cX8_tie 0 = .ok (.aload_n 0, 1) := by decide +kernel
theorem dX8_tie_1 : decode cX8_tie 1 = .ok (.iload_n 1, 1) := by decide +kernel
theorem dX8_tie_2 : decode cX8_tie 2 = .ok (.invokevirtual 110, 3) := by decide +kernel
theorem dX8_tie_5 : decode cX8_tie 5 = .ok (.ifCond .eq 27, 3) := by decide +kernel
theorem dX8_tie_8 : decode cX8_tie 8 = .ok (.aload_n 0, 1) := by decide +kernel
theorem dX8_tie_9 : decode cX8_tie 9 = .ok (.iload_n 2, 1) := by decide +kernel
theorem dX8_tie_10 : decode cX8_tie 10 = .ok (.invokevirtual 110, 3) := by decide +kernel
theorem dX8_tie_13 : decode cX8_tie 13 = .ok (.ifCond .eq 19, 3) := by decide +kernel
theorem dX8_tie_16 : decode cX8_tie 16 = .ok (.iload_n 1, 1) := by decide +kernel
theorem dX8_tie_17 : decode cX8_tie 17 = .ok (.iload_n 2, 1) := by decide +kernel
theorem dX8_tie_18 : decode cX8_tie 18 = .ok (.if_icmp .eq 14, 3) := by decide +kernel
theorem dX8_tie_21 : decode cX8_tie 21 = .ok (.iload_n 3, 1) := by decide +kernel
theorem dX8_tie_22 : decode cX8_tie 22 = .ok (.ldc 93, 2) := by decide +kernel
theorem dX8_tie_24 : decode cX8_tie 24 = .ok (.ldc 94, 2) := by decide +kernel
theorem dX8_tie_26 : decode cX8_tie 26 = .ok (.invokestatic 81, 3) := by decide +kernel
theorem dX8_tie_29 : decode cX8_tie 29 = .ok (.ifCond .ne 9, 3) := by decide +kernel
theorem dX8_tie_32 : decode cX8_tie 32 = .ok (.aload_n 0, 1) := by decide +kernel
theorem dX8_tie_33 : decode cX8_tie 33 = .ok (.iconst 1, 1) := by decide +kernel
theorem dX8_tie_34 : decode cX8_tie 34 = .ok (.invokevirtual 95, 3) := by decide +kernel
theorem dX8_tie_37 : decode cX8_tie 37 = .ok (.lreturn, 1) := by decide +kernel
theorem dX8_tie_38 : decode cX8_tie 38 = .ok (.aload_n 0, 1) := by decide +kernel
theorem dX8_tie_39 : decode cX8_tie 39 = .ok (.getfield 103, 3) := by decide +kernel
theorem dX8_tie_42 : decode cX8_tie 42 = .ok (.bipush 24, 2) := by decide +kernel
theorem dX8_tie_44 : decode cX8_tie 44 = .ok (.if_icmp .ne 9, 3) := by decide +kernel
theorem dX8_tie_47 : decode cX8_tie 47 = .ok (.aload_n 0, 1) := by decide +kernel
theorem dX8_tie_48 : decode cX8_tie 48 = .ok (.iconst 4, 1) := by decide +kernel
theorem dX8_tie_49 : decode cX8_tie 49 = .ok (.invokevirtual 95, 3) := by decide +kernel
theorem dX8_tie_52 : decode cX8_tie 52 = .ok (.lreturn, 1) := by decide +kernel
theorem dX8_tie_53 : decode cX8_tie 53 = .ok (.aload_n 0, 1) := by decide +kernel
theorem dX8_tie_54 : decode cX8_tie 54 = .ok (.getfield 34, 3) := by decide +kernel
theorem dX8_tie_57 : decode cX8_tie 57 = .ok (.aload_n 0, 1) := by decide +kernel
theorem dX8_tie_58 : decode cX8_tie 58 = .ok (.getfield 103, 3) := by decide +kernel
theorem dX8_tie_61 : decode cX8_tie 61 = .ok (.iload_n 1, 1) := by decide +kernel
theorem dX8_tie_62 : decode cX8_tie 62 = .ok (.iastore, 1) := by decide +kernel
theorem dX8_tie_63 : decode cX8_tie 63 = .ok (.aload_n 0, 1) := by decide +kernel
theorem dX8_tie_64 : decode cX8_tie 64 = .ok (.getfield 37, 3) := by decide +kernel
theorem dX8_tie_67 : decode cX8_tie 67 = .ok (.aload_n 0, 1) := by decide +kernel
theorem dX8_tie_68 : decode cX8_tie 68 = .ok (.getfield 103, 3) := by decide +kernel
theorem dX8_tie_71 : decode cX8_tie 71 = .ok (.iload_n 2, 1) := by decide +kernel
theorem dX8_tie_72 : decode cX8_tie 72 = .ok (.iastore, 1) := by decide +kernel
theorem dX8_tie_73 : decode cX8_tie 73 = .ok (.aload_n 0, 1) := by decide +kernel
theorem dX8_tie_74 : decode cX8_tie 74 = .ok (.getfield 40, 3) := by decide +kernel
theorem dX8_tie_77 : decode cX8_tie 77 = .ok (.aload_n 0, 1) := by decide +kernel
theorem dX8_tie_78 : decode cX8_tie 78 = .ok (.getfield 103, 3) := by decide +kernel
theorem dX8_tie_81 : decode cX8_tie 81 = .ok (.iload_n 3, 1) := by decide +kernel
theorem dX8_tie_82 : decode cX8_tie 82 = .ok (.iastore, 1) := by decide +kernel
theorem dX8_tie_83 : decode cX8_tie 83 = .ok (.aload_n 0, 1) := by decide +kernel
theorem dX8_tie_84 : decode cX8_tie 84 = .ok (.dup, 1) := by decide +kernel
theorem dX8_tie_85 : decode cX8_tie 85 = .ok (.getfield 103, 3) := by decide +kernel
theorem dX8_tie_88 : decode cX8_tie 88 = .ok (.iconst 1, 1) := by decide +kernel
theorem dX8_tie_89 : decode cX8_tie 89 = .ok (.iadd, 1) := by decide +kernel
theorem dX8_tie_90 : decode cX8_tie 90 = .ok (.putfield 103, 3) := by decide +kernel
theorem dX8_tie_93 : decode cX8_tie 93 = .ok (.aload_n 0, 1) := by decide +kernel
theorem dX8_tie_94 : decode cX8_tie 94 = .ok (.getfield 103, 3) := by decide +kernel
theorem dX8_tie_97 : decode cX8_tie 97 = .ok (.i2l, 1) := by decide +kernel
theorem dX8_tie_98 : decode cX8_tie 98 = .ok (.lreturn, 1) := by decide +kernel
set_option maxRecDepth 20000 in
theorem ggX8_untie_X8_finding : GoodIn wsX8_untie wsX8_finding := goodIn_r _ [6, 7, 8, 16, 17, 18, 19, 20, 21, 22, 23, 24, 25, 26, 27, 28, 29, 30, 31, 32, 33, 34, 35, 36, 37, 38, 39, 40, 41, 42] (by decide +kernel) (by decide +kernel)
set_option maxRecDepth 20000 in
theorem gX8_untie_X8_finding : GoodIn wsX8_untie (wsV RX8 95 RX8 yX8_finding wsX8_finding) := goodIn_app (goodIn_of _ (by decide +kernel)) ggX8_untie_X8_finding
set_option maxRecDepth 20000 in
theorem ggX8_untie_X8_removeTie : GoodIn wsX8_untie wsX8_removeTie := goodIn_r _ [12, 1, 13, 14, 15, 16, 17, 18, 19, 20, 21, 22, 23, 24, 25, 26, 27, 28, 29, 30, 31, 32, 33, 34, 35, 36, 37, 38, 39, 40, 41, 42] (by decide +kernel) (by decide +kernel)
set_option maxRecDepth 20000 in
theorem gX8_untie_X8_removeTie : GoodIn wsX8_untie (wsV RX8 106 RX8 yX8_removeTie wsX8_removeTie) := goodIn_app (goodIn_of _ (by decide +kernel)) ggX8_untie_X8_removeTie
theorem dX8_untie_0 : decode cX8_untie 0 = .ok (.iload_n 1, 1) := by decide +kernel
theorem dX8_untie_1 : decode cX8_untie 1 = .ok (.ifCond .lt 11, 3) := by decide +kernel
theorem dX8_untie_4 : decode cX8_untie 4 = .ok (.iload_n 1, 1) := by decide +kernel
theorem dX8_untie_5 : decode cX8_untie 5 = .ok (.aload_n 0, 1) := by decide +kernel
theorem dX8_untie_6 : decode cX8_untie 6 = .ok (.getfield 103, 3) := by decide +kernel
theorem dX8_untie_9 : decode cX8_untie 9 = .ok (.if_icmp .lt 9, 3) := by decide +kernel
theorem dX8_untie_12 : decode cX8_untie 12 = .ok (.aload_n 0, 1) := by decide +kernel
theorem dX8_untie_13 : decode cX8_untie 13 = .ok (.iconst 1, 1) := by decide +kernel
theorem dX8_untie_14 : decode cX8_untie 14 = .ok (.invokevirtual 95, 3) := by decide +kernel
theorem dX8_untie_17 : decode cX8_untie 17 = .ok (.lreturn, 1) := by decide +kernel
theorem dX8_untie_18 : decode cX8_untie 18 = .ok (.aload_n 0, 1) := by decide +kernel
theorem dX8_untie_19 : decode cX8_untie 19 = .ok (.iload_n 1, 1) := by decide +kernel
theorem dX8_untie_20 : decode cX8_untie 20 = .ok (.invokevirtual 106, 3) := by decide +kernel
theorem dX8_untie_23 : decode cX8_untie 23 = .ok (.aload_n 0, 1) := by decide +kernel
theorem dX8_untie_24 : decode cX8_untie 24 = .ok (.getfield 103, 3) := by decide +kernel
theorem dX8_untie_27 : decode cX8_untie 27 = .ok (.i2l, 1) := by decide +kernel
theorem dX8_untie_28 : decode cX8_untie 28 = .ok (.lreturn, 1) := by decide +kernel
theorem dX8_bound_0 : decode cX8_bound 0 = .ok (.aload_n 0, 1) := by decide +kernel
theorem dX8_bound_1 : decode cX8_bound 1 = .ok (.getfield 72, 3) := by decide +kernel
theorem dX8_bound_4 : decode cX8_bound 4 = .ok (.bipush 13, 2) := by decide +kernel
theorem dX8_bound_6 : decode cX8_bound 6 = .ok (.iload_n 1, 1) := by decide +kernel
theorem dX8_bound_7 : decode cX8_bound 7 = .ok (.imul, 1) := by decide +kernel
theorem dX8_bound_8 : decode cX8_bound 8 = .ok (.iload_n 2, 1) := by decide +kernel
theorem dX8_bound_9 : decode cX8_bound 9 = .ok (.iadd, 1) := by decide +kernel
theorem dX8_bound_10 : decode cX8_bound 10 = .ok (.lload_n 3, 1) := by decide +kernel
theorem dX8_bound_11 : decode cX8_bound 11 = .ok (.aload_n 0, 1) := by decide +kernel
theorem dX8_bound_12 : decode cX8_bound 12 = .ok (.getfield 72, 3) := by decide +kernel
theorem dX8_bound_15 : decode cX8_bound 15 = .ok (.bipush 13, 2) := by decide +kernel
theorem dX8_bound_17 : decode cX8_bound 17 = .ok (.iload_n 1, 1) := by decide +kernel
theorem dX8_bound_18 : decode cX8_bound 18 = .ok (.imul, 1) := by decide +kernel
theorem dX8_bound_19 : decode cX8_bound 19 = .ok (.iload_n 2, 1) := by decide +kernel
theorem dX8_bound_20 : decode cX8_bound 20 = .ok (.iadd, 1) := by decide +kernel
theorem dX8_bound_21 : decode cX8_bound 21 = .ok (.laload, 1) := by decide +kernel
theorem dX8_bound_22 : decode cX8_bound 22 = .ok (.lcmp, 1) := by decide +kernel
theorem dX8_bound_23 : decode cX8_bound 23 = .ok (.ifCond .ge 7, 3) := by decide +kernel
theorem dX8_bound_26 : decode cX8_bound 26 = .ok (.lload_n 3, 1) := by decide +kernel
theorem dX8_bound_27 : decode cX8_bound 27 = .ok (.goto 14, 3) := by decide +kernel
theorem dX8_bound_30 : decode cX8_bound 30 = .ok (.aload_n 0, 1) := by decide +kernel
theorem dX8_bound_31 : decode cX8_bound 31 = .ok (.getfield 72, 3) := by decide +kernel
theorem dX8_bound_34 : decode cX8_bound 34 = .ok (.bipush 13, 2) := by decide +kernel
theorem dX8_bound_36 : decode cX8_bound 36 = .ok (.iload_n 1, 1) := by decide +kernel
theorem dX8_bound_37 : decode cX8_bound 37 = .ok (.imul, 1) := by decide +kernel
theorem dX8_bound_38 : decode cX8_bound 38 = .ok (.iload_n 2, 1) := by decide +kernel
theorem dX8_bound_39 : decode cX8_bound 39 = .ok (.iadd, 1) := by decide +kernel
theorem dX8_bound_40 : decode cX8_bound 40 = .ok (.laload, 1) := by decide +kernel
theorem dX8_bound_41 : decode cX8_bound 41 = .ok (.lastore, 1) := by decide +kernel
theorem dX8_bound_42 : decode cX8_bound 42 = .ok (.return_, 1) := by decide +kernel
set_option maxRecDepth 20000 in
theorem ggX8_tellBounds_X8_end : GoodIn wsX8_tellBounds wsX8_end := goodIn_r _ [12, 13, 14, 15, 2, 16, 17, 18, 19, 20, 11, 21, 22, 23, 28, 29, 30, 31, 32, 33, 34, 35, 36, 37, 38, 39, 40, 41, 42, 43, 44, 45, 46, 47, 48, 49, 50, 51, 52, 53, 54] (by decide +kernel) (by decide +kernel)
set_option maxRecDepth 20000 in
theorem gX8_tellBounds_X8_end : GoodIn wsX8_tellBounds (wsV RX8 115 RX8 yX8_end wsX8_end) := goodIn_app (goodIn_of _ (by decide +kernel)) ggX8_tellBounds_X8_end
set_option maxRecDepth 20000 in
theorem ggX8_tellBounds_X8_bound : GoodIn wsX8_tellBounds wsX8_bound := goodIn_r _ [27, 1, 28, 29, 30, 31, 32, 33, 34, 35, 36, 37, 38, 39, 40, 41, 42, 43, 44, 45, 46, 47, 48, 49, 50, 51, 52, 53, 54] (by decide +kernel) (by decide +kernel)
set_option maxRecDepth 20000 in
theorem gX8_tellBounds_X8_bound : GoodIn wsX8_tellBounds (wsV RX8 119 RX8 yX8_bound wsX8_bound) := goodIn_app (goodIn_of _ (by decide +kernel)) ggX8_tellBounds_X8_bound
theorem dX8_tellBounds_0 : decode cX8_tellBounds 0 = .ok (.iconst 0, 1) := by decide +kernel
theorem dX8_tellBounds_1 : decode cX8_tellBounds 1 = .ok (.istore_n 2, 1) := by decide +kernel
theorem dX8_tellBounds_2 : decode cX8_tellBounds 2 = .ok (.iload_n 2, 1) := by decide +kernel
theorem dX8_tellBounds_3 : decode cX8_tellBounds 3 = .ok (.sipush 169, 3) := by decide +kernel
theorem dX8_tellBounds_6 : decode cX8_tellBounds 6 = .ok (.if_icmp .ge 33, 3) := by decide +kernel
theorem dX8_tellBounds_9 : decode cX8_tellBounds 9 = .ok (.aload_n 0, 1) := by decide +kernel
theorem dX8_tellBounds_10 : decode cX8_tellBounds 10 = .ok (.getfield 72, 3) := by decide +kernel
theorem dX8_tellBounds_13 : decode cX8_tellBounds 13 = .ok (.iload_n 2, 1) := by decide +kernel
theorem dX8_tellBounds_14 : decode cX8_tellBounds 14 = .ok (.iload_n 2, 1) := by decide +kernel
theorem dX8_tellBounds_15 : decode cX8_tellBounds 15 = .ok (.bipush 13, 2) := by decide +kernel
theorem dX8_tellBounds_17 : decode cX8_tellBounds 17 = .ok (.idiv, 1) := by decide +kernel
theorem dX8_tellBounds_18 : decode cX8_tellBounds 18 = .ok (.iload_n 2, 1) := by decide +kernel
theorem dX8_tellBounds_19 : decode cX8_tellBounds 19 = .ok (.bipush 13, 2) := by decide +kernel
theorem dX8_tellBounds_21 : decode cX8_tellBounds 21 = .ok (.irem, 1) := by decide +kernel
theorem dX8_tellBounds_22 : decode cX8_tellBounds 22 = .ok (.if_icmp .ne 7, 3) := by decide +kernel
theorem dX8_tellBounds_25 : decode cX8_tellBounds 25 = .ok (.lconst 0, 1) := by decide +kernel
theorem dX8_tellBounds_26 : decode cX8_tellBounds 26 = .ok (.goto 6, 3) := by decide +kernel
theorem dX8_tellBounds_29 : decode cX8_tellBounds 29 = .ok (.ldc2_w 113, 3) := by decide +kernel
theorem dX8_tellBounds_32 : decode cX8_tellBounds 32 = .ok (.lastore, 1) := by decide +kernel
theorem dX8_tellBounds_33 : decode cX8_tellBounds 33 = .ok (.iinc 2 1, 3) := by decide +kernel
theorem dX8_tellBounds_36 : decode cX8_tellBounds 36 = .ok (.goto (-34), 3) := by decide +kernel
theorem dX8_tellBounds_39 : decode cX8_tellBounds 39 = .ok (.iconst 0, 1) := by decide +kernel
theorem dX8_tellBounds_40 : decode cX8_tellBounds 40 = .ok (.istore_n 2, 1) := by decide +kernel
theorem dX8_tellBounds_41 : decode cX8_tellBounds 41 = .ok (.iload_n 2, 1) := by decide +kernel
theorem dX8_tellBounds_42 : decode cX8_tellBounds 42 = .ok (.aload_n 0, 1) := by decide +kernel
theorem dX8_tellBounds_43 : decode cX8_tellBounds 43 = .ok (.getfield 85, 3) := by decide +kernel
theorem dX8_tellBounds_46 : decode cX8_tellBounds 46 = .ok (.if_icmp .ge 65, 3) := by decide +kernel
theorem dX8_tellBounds_49 : decode cX8_tellBounds 49 = .ok (.iload_n 1, 1) := by decide +kernel
theorem dX8_tellBounds_50 : decode cX8_tellBounds 50 = .ok (.iload_n 2, 1) := by decide +kernel
theorem dX8_tellBounds_51 : decode cX8_tellBounds 51 = .ok (.ishr, 1) := by decide +kernel
theorem dX8_tellBounds_52 : decode cX8_tellBounds 52 = .ok (.iconst 1, 1) := by decide +kernel
theorem dX8_tellBounds_53 : decode cX8_tellBounds 53 = .ok (.iand, 1) := by decide +kernel
theorem dX8_tellBounds_54 : decode cX8_tellBounds 54 = .ok (.iconst 1, 1) := by decide +kernel
theorem dX8_tellBounds_55 : decode cX8_tellBounds 55 = .ok (.if_icmp .ne 50, 3) := by decide +kernel
theorem dX8_tellBounds_58 : decode cX8_tellBounds 58 = .ok (.aload_n 0, 1) := by decide +kernel
theorem dX8_tellBounds_59 : decode cX8_tellBounds 59 = .ok (.iload_n 2, 1) := by decide +kernel
theorem dX8_tellBounds_60 : decode cX8_tellBounds 60 = .ok (.iconst 0, 1) := by decide +kernel
theorem dX8_tellBounds_61 : decode cX8_tellBounds 61 = .ok (.invokevirtual 115, 3) := by decide +kernel
theorem dX8_tellBounds_64 : decode cX8_tellBounds 64 = .ok (.lstore_n 3, 1) := by decide +kernel
theorem dX8_tellBounds_65 : decode cX8_tellBounds 65 = .ok (.aload_n 0, 1) := by decide +kernel
theorem dX8_tellBounds_66 : decode cX8_tellBounds 66 = .ok (.iload_n 2, 1) := by decide +kernel
theorem dX8_tellBounds_67 : decode cX8_tellBounds 67 = .ok (.iconst 1, 1) := by decide +kernel
theorem dX8_tellBounds_68 : decode cX8_tellBounds 68 = .ok (.invokevirtual 115, 3) := by decide +kernel
theorem dX8_tellBounds_71 : decode cX8_tellBounds 71 = .ok (.lstore 5, 2) := by decide +kernel
theorem dX8_tellBounds_73 : decode cX8_tellBounds 73 = .ok (.aload_n 0, 1) := by decide +kernel
theorem dX8_tellBounds_74 : decode cX8_tellBounds 74 = .ok (.iload_n 2, 1) := by decide +kernel
theorem dX8_tellBounds_75 : decode cX8_tellBounds 75 = .ok (.bipush 12, 2) := by decide +kernel
theorem dX8_tellBounds_77 : decode cX8_tellBounds 77 = .ok (.lload_n 3, 1) := by decide +kernel
theorem dX8_tellBounds_78 : decode cX8_tellBounds 78 = .ok (.ldc2_w 113, 3) := by decide +kernel
theorem dX8_tellBounds_81 : decode cX8_tellBounds 81 = .ok (.lcmp, 1) := by decide +kernel
theorem dX8_tellBounds_82 : decode cX8_tellBounds 82 = .ok (.ifCond .ne 9, 3) := by decide +kernel
theorem dX8_tellBounds_85 : decode cX8_tellBounds 85 = .ok (.ldc2_w 113, 3) := by decide +kernel
theorem dX8_tellBounds_88 : decode cX8_tellBounds 88 = .ok (.goto 5, 3) := by decide +kernel
theorem dX8_tellBounds_91 : decode cX8_tellBounds 91 = .ok (.lload_n 3, 1) := by decide +kernel
theorem dX8_tellBounds_92 : decode cX8_tellBounds 92 = .ok (.lneg, 1) := by decide +kernel
theorem dX8_tellBounds_93 : decode cX8_tellBounds 93 = .ok (.invokevirtual 119, 3) := by decide +kernel
theorem dX8_tellBounds_96 : decode cX8_tellBounds 96 = .ok (.aload_n 0, 1) := by decide +kernel
theorem dX8_tellBounds_97 : decode cX8_tellBounds 97 = .ok (.bipush 12, 2) := by decide +kernel
theorem dX8_tellBounds_99 : decode cX8_tellBounds 99 = .ok (.iload_n 2, 1) := by decide +kernel
theorem dX8_tellBounds_100 : decode cX8_tellBounds 100 = .ok (.lload 5, 2) := by decide +kernel
theorem dX8_tellBounds_102 : decode cX8_tellBounds 102 = .ok (.invokevirtual 119, 3) := by decide +kernel
theorem dX8_tellBounds_105 : decode cX8_tellBounds 105 = .ok (.iinc 2 1, 3) := by decide +kernel
theorem dX8_tellBounds_108 : decode cX8_tellBounds 108 = .ok (.goto (-67), 3) := by decide +kernel
theorem dX8_tellBounds_111 : decode cX8_tellBounds 111 = .ok (.iconst 0, 1) := by decide +kernel
theorem dX8_tellBounds_112 : decode cX8_tellBounds 112 = .ok (.istore_n 2, 1) := by decide +kernel
theorem dX8_tellBounds_113 : decode cX8_tellBounds 113 = .ok (.iload_n 2, 1) := by decide +kernel
theorem dX8_tellBounds_114 : decode cX8_tellBounds 114 = .ok (.aload_n 0, 1) := by decide +kernel
theorem dX8_tellBounds_115 : decode cX8_tellBounds 115 = .ok (.getfield 103, 3) := by decide +kernel
theorem dX8_tellBounds_118 : decode cX8_tellBounds 118 = .ok (.if_icmp .ge 61, 3) := by decide +kernel
theorem dX8_tellBounds_121 : decode cX8_tellBounds 121 = .ok (.iload_n 1, 1) := by decide +kernel
theorem dX8_tellBounds_122 : decode cX8_tellBounds 122 = .ok (.aload_n 0, 1) := by decide +kernel
theorem dX8_tellBounds_123 : decode cX8_tellBounds 123 = .ok (.getfield 34, 3) := by decide +kernel
theorem dX8_tellBounds_126 : decode cX8_tellBounds 126 = .ok (.iload_n 2, 1) := by decide +kernel
theorem dX8_tellBounds_127 : decode cX8_tellBounds 127 = .ok (.iaload, 1) := by decide +kernel
theorem dX8_tellBounds_128 : decode cX8_tellBounds 128 = .ok (.ishr, 1) := by decide +kernel
theorem dX8_tellBounds_129 : decode cX8_tellBounds 129 = .ok (.iconst 1, 1) := by decide +kernel
theorem dX8_tellBounds_130 : decode cX8_tellBounds 130 = .ok (.iand, 1) := by decide +kernel
theorem dX8_tellBounds_131 : decode cX8_tellBounds 131 = .ok (.iconst 1, 1) := by decide +kernel
theorem dX8_tellBounds_132 : decode cX8_tellBounds 132 = .ok (.if_icmp .ne 41, 3) := by decide +kernel
theorem dX8_tellBounds_135 : decode cX8_tellBounds 135 = .ok (.iload_n 1, 1) := by decide +kernel
theorem dX8_tellBounds_136 : decode cX8_tellBounds 136 = .ok (.aload_n 0, 1) := by decide +kernel
theorem dX8_tellBounds_137 : decode cX8_tellBounds 137 = .ok (.getfield 37, 3) := by decide +kernel
theorem dX8_tellBounds_140 : decode cX8_tellBounds 140 = .ok (.iload_n 2, 1) := by decide +kernel
theorem dX8_tellBounds_141 : decode cX8_tellBounds 141 = .ok (.iaload, 1) := by decide +kernel
theorem dX8_tellBounds_142 : decode cX8_tellBounds 142 = .ok (.ishr, 1) := by decide +kernel
theorem dX8_tellBounds_143 : decode cX8_tellBounds 143 = .ok (.iconst 1, 1) := by decide +kernel
theorem dX8_tellBounds_144 : decode cX8_tellBounds 144 = .ok (.iand, 1) := by decide +kernel
theorem dX8_tellBounds_145 : decode cX8_tellBounds 145 = .ok (.iconst 1, 1) := by decide +kernel
theorem dX8_tellBounds_146 : decode cX8_tellBounds 146 = .ok (.if_icmp .ne 27, 3) := by decide +kernel
theorem dX8_tellBounds_149 : decode cX8_tellBounds 149 = .ok (.aload_n 0, 1) := by decide +kernel
theorem dX8_tellBounds_150 : decode cX8_tellBounds 150 = .ok (.aload_n 0, 1) := by decide +kernel
theorem dX8_tellBounds_151 : decode cX8_tellBounds 151 = .ok (.getfield 37, 3) := by decide +kernel
theorem dX8_tellBounds_154 : decode cX8_tellBounds 154 = .ok (.iload_n 2, 1) := by decide +kernel
theorem dX8_tellBounds_155 : decode cX8_tellBounds 155 = .ok (.iaload, 1) := by decide +kernel
theorem dX8_tellBounds_156 : decode cX8_tellBounds 156 = .ok (.aload_n 0, 1) := by decide +kernel
theorem dX8_tellBounds_157 : decode cX8_tellBounds 157 = .ok (.getfield 34, 3) := by decide +kernel
theorem dX8_tellBounds_160 : decode cX8_tellBounds 160 = .ok (.iload_n 2, 1) := by decide +kernel
theorem dX8_tellBounds_161 : decode cX8_tellBounds 161 = .ok (.iaload, 1) := by decide +kernel
theorem dX8_tellBounds_162 : decode cX8_tellBounds 162 = .ok (.aload_n 0, 1) := by decide +kernel
theorem dX8_tellBounds_163 : decode cX8_tellBounds 163 = .ok (.getfield 40, 3) := by decide +kernel
theorem dX8_tellBounds_166 : decode cX8_tellBounds 166 = .ok (.iload_n 2, 1) := by decide +kernel
theorem dX8_tellBounds_167 : decode cX8_tellBounds 167 = .ok (.iaload, 1) := by decide +kernel
theorem dX8_tellBounds_168 : decode cX8_tellBounds 168 = .ok (.ineg, 1) := by decide +kernel
theorem dX8_tellBounds_169 : decode cX8_tellBounds 169 = .ok (.i2l, 1) := by decide +kernel
theorem dX8_tellBounds_170 : decode cX8_tellBounds 170 = .ok (.invokevirtual 119, 3) := by decide +kernel
theorem dX8_tellBounds_173 : decode cX8_tellBounds 173 = .ok (.iinc 2 1, 3) := by decide +kernel
theorem dX8_tellBounds_176 : decode cX8_tellBounds 176 = .ok (.goto (-63), 3) := by decide +kernel
theorem dX8_tellBounds_179 : decode cX8_tellBounds 179 = .ok (.iconst 0, 1) := by decide +kernel
theorem dX8_tellBounds_180 : decode cX8_tellBounds 180 = .ok (.istore_n 2, 1) := by decide +kernel
theorem dX8_tellBounds_181 : decode cX8_tellBounds 181 = .ok (.iload_n 2, 1) := by decide +kernel
theorem dX8_tellBounds_182 : decode cX8_tellBounds 182 = .ok (.bipush 13, 2) := by decide +kernel
theorem dX8_tellBounds_184 : decode cX8_tellBounds 184 = .ok (.if_icmp .ge 100, 3) := by decide +kernel
theorem dX8_tellBounds_187 : decode cX8_tellBounds 187 = .ok (.iconst 0, 1) := by decide +kernel
theorem dX8_tellBounds_188 : decode cX8_tellBounds 188 = .ok (.istore_n 3, 1) := by decide +kernel
theorem dX8_tellBounds_189 : decode cX8_tellBounds 189 = .ok (.iload_n 3, 1) := by decide +kernel
theorem dX8_tellBounds_190 : decode cX8_tellBounds 190 = .ok (.sipush 169, 3) := by decide +kernel
theorem dX8_tellBounds_193 : decode cX8_tellBounds 193 = .ok (.if_icmp .ge 85, 3) := by decide +kernel
theorem dX8_tellBounds_196 : decode cX8_tellBounds 196 = .ok (.aload_n 0, 1) := by decide +kernel
theorem dX8_tellBounds_197 : decode cX8_tellBounds 197 = .ok (.getfield 72, 3) := by decide +kernel
theorem dX8_tellBounds_200 : decode cX8_tellBounds 200 = .ok (.iload_n 3, 1) := by decide +kernel
theorem dX8_tellBounds_201 : decode cX8_tellBounds 201 = .ok (.bipush 13, 2) := by decide +kernel
theorem dX8_tellBounds_203 : decode cX8_tellBounds 203 = .ok (.idiv, 1) := by decide +kernel
theorem dX8_tellBounds_204 : decode cX8_tellBounds 204 = .ok (.bipush 13, 2) := by decide +kernel
theorem dX8_tellBounds_206 : decode cX8_tellBounds 206 = .ok (.imul, 1) := by decide +kernel
theorem dX8_tellBounds_207 : decode cX8_tellBounds 207 = .ok (.iload_n 2, 1) := by decide +kernel
theorem dX8_tellBounds_208 : decode cX8_tellBounds 208 = .ok (.iadd, 1) := by decide +kernel
theorem dX8_tellBounds_209 : decode cX8_tellBounds 209 = .ok (.laload, 1) := by decide +kernel
theorem dX8_tellBounds_210 : decode cX8_tellBounds 210 = .ok (.lstore 4, 2) := by decide +kernel
theorem dX8_tellBounds_212 : decode cX8_tellBounds 212 = .ok (.aload_n 0, 1) := by decide +kernel
theorem dX8_tellBounds_213 : decode cX8_tellBounds 213 = .ok (.getfield 72, 3) := by decide +kernel
theorem dX8_tellBounds_216 : decode cX8_tellBounds 216 = .ok (.bipush 13, 2) := by decide +kernel
theorem dX8_tellBounds_218 : decode cX8_tellBounds 218 = .ok (.iload_n 2, 1) := by decide +kernel
theorem dX8_tellBounds_219 : decode cX8_tellBounds 219 = .ok (.imul, 1) := by decide +kernel
theorem dX8_tellBounds_220 : decode cX8_tellBounds 220 = .ok (.iload_n 3, 1) := by decide +kernel
theorem dX8_tellBounds_221 : decode cX8_tellBounds 221 = .ok (.bipush 13, 2) := by decide +kernel
theorem dX8_tellBounds_223 : decode cX8_tellBounds 223 = .ok (.irem, 1) := by decide +kernel
theorem dX8_tellBounds_224 : decode cX8_tellBounds 224 = .ok (.iadd, 1) := by decide +kernel
theorem dX8_tellBounds_225 : decode cX8_tellBounds 225 = .ok (.laload, 1) := by decide +kernel
theorem dX8_tellBounds_226 : decode cX8_tellBounds 226 = .ok (.lstore 6, 2) := by decide +kernel
theorem dX8_tellBounds_228 : decode cX8_tellBounds 228 = .ok (.lload 4, 2) := by decide +kernel
theorem dX8_tellBounds_230 : decode cX8_tellBounds 230 = .ok (.ldc2_w 113, 3) := by decide +kernel
theorem dX8_tellBounds_233 : decode cX8_tellBounds 233 = .ok (.lcmp, 1) := by decide +kernel
theorem dX8_tellBounds_234 : decode cX8_tellBounds 234 = .ok (.ifCond .eq 38, 3) := by decide +kernel
theorem dX8_tellBounds_237 : decode cX8_tellBounds 237 = .ok (.lload 6, 2) := by decide +kernel
theorem dX8_tellBounds_239 : decode cX8_tellBounds 239 = .ok (.ldc2_w 113, 3) := by decide +kernel
theorem dX8_tellBounds_242 : decode cX8_tellBounds 242 = .ok (.lcmp, 1) := by decide +kernel
theorem dX8_tellBounds_243 : decode cX8_tellBounds 243 = .ok (.ifCond .eq 29, 3) := by decide +kernel
theorem dX8_tellBounds_246 : decode cX8_tellBounds 246 = .ok (.lload 4, 2) := by decide +kernel
theorem dX8_tellBounds_248 : decode cX8_tellBounds 248 = .ok (.lload 6, 2) := by decide +kernel
theorem dX8_tellBounds_250 : decode cX8_tellBounds 250 = .ok (.ladd, 1) := by decide +kernel
theorem dX8_tellBounds_251 : decode cX8_tellBounds 251 = .ok (.aload_n 0, 1) := by decide +kernel
theorem dX8_tellBounds_252 : decode cX8_tellBounds 252 = .ok (.getfield 72, 3) := by decide +kernel
theorem dX8_tellBounds_255 : decode cX8_tellBounds 255 = .ok (.iload_n 3, 1) := by decide +kernel
theorem dX8_tellBounds_256 : decode cX8_tellBounds 256 = .ok (.laload, 1) := by decide +kernel
theorem dX8_tellBounds_257 : decode cX8_tellBounds 257 = .ok (.lcmp, 1) := by decide +kernel
theorem dX8_tellBounds_258 : decode cX8_tellBounds 258 = .ok (.ifCond .ge 14, 3) := by decide +kernel
theorem dX8_tellBounds_261 : decode cX8_tellBounds 261 = .ok (.aload_n 0, 1) := by decide +kernel
theorem dX8_tellBounds_262 : decode cX8_tellBounds 262 = .ok (.getfield 72, 3) := by decide +kernel
theorem dX8_tellBounds_265 : decode cX8_tellBounds 265 = .ok (.iload_n 3, 1) := by decide +kernel
theorem dX8_tellBounds_266 : decode cX8_tellBounds 266 = .ok (.lload 4, 2) := by decide +kernel
theorem dX8_tellBounds_268 : decode cX8_tellBounds 268 = .ok (.lload 6, 2) := by decide +kernel
theorem dX8_tellBounds_270 : decode cX8_tellBounds 270 = .ok (.ladd, 1) := by decide +kernel
theorem dX8_tellBounds_271 : decode cX8_tellBounds 271 = .ok (.lastore, 1) := by decide +kernel
theorem dX8_tellBounds_272 : decode cX8_tellBounds 272 = .ok (.iinc 3 1, 3) := by decide +kernel
theorem dX8_tellBounds_275 : decode cX8_tellBounds 275 = .ok (.goto (-86), 3) := by decide +kernel
theorem dX8_tellBounds_278 : decode cX8_tellBounds 278 = .ok (.iinc 2 1, 3) := by decide +kernel
theorem dX8_tellBounds_281 : decode cX8_tellBounds 281 = .ok (.goto (-100), 3) := by decide +kernel
theorem dX8_tellBounds_284 : decode cX8_tellBounds 284 = .ok (.iconst 1, 1) := by decide +kernel
theorem dX8_tellBounds_285 : decode cX8_tellBounds 285 = .ok (.istore_n 2, 1) := by decide +kernel
theorem dX8_tellBounds_286 : decode cX8_tellBounds 286 = .ok (.iconst 0, 1) := by decide +kernel
theorem dX8_tellBounds_287 : decode cX8_tellBounds 287 = .ok (.istore_n 3, 1) := by decide +kernel
theorem dX8_tellBounds_288 : decode cX8_tellBounds 288 = .ok (.iload_n 3, 1) := by decide +kernel
theorem dX8_tellBounds_289 : decode cX8_tellBounds 289 = .ok (.bipush 13, 2) := by decide +kernel
theorem dX8_tellBounds_291 : decode cX8_tellBounds 291 = .ok (.if_icmp .ge 33, 3) := by decide +kernel
theorem dX8_tellBounds_294 : decode cX8_tellBounds 294 = .ok (.iload_n 2, 1) := by decide +kernel
theorem dX8_tellBounds_295 : decode cX8_tellBounds 295 = .ok (.aload_n 0, 1) := by decide +kernel
theorem dX8_tellBounds_296 : decode cX8_tellBounds 296 = .ok (.getfield 72, 3) := by decide +kernel
theorem dX8_tellBounds_299 : decode cX8_tellBounds 299 = .ok (.bipush 13, 2) := by decide +kernel
theorem dX8_tellBounds_301 : decode cX8_tellBounds 301 = .ok (.iload_n 3, 1) := by decide +kernel
theorem dX8_tellBounds_302 : decode cX8_tellBounds 302 = .ok (.imul, 1) := by decide +kernel
theorem dX8_tellBounds_303 : decode cX8_tellBounds 303 = .ok (.iload_n 3, 1) := by decide +kernel
theorem dX8_tellBounds_304 : decode cX8_tellBounds 304 = .ok (.iadd, 1) := by decide +kernel
theorem dX8_tellBounds_305 : decode cX8_tellBounds 305 = .ok (.laload, 1) := by decide +kernel
theorem dX8_tellBounds_306 : decode cX8_tellBounds 306 = .ok (.lconst 0, 1) := by decide +kernel
theorem dX8_tellBounds_307 : decode cX8_tellBounds 307 = .ok (.lcmp, 1) := by decide +kernel
theorem dX8_tellBounds_308 : decode cX8_tellBounds 308 = .ok (.ifCond .lt 7, 3) := by decide +kernel
theorem dX8_tellBounds_311 : decode cX8_tellBounds 311 = .ok (.iconst 1, 1) := by decide +kernel
theorem dX8_tellBounds_312 : decode cX8_tellBounds 312 = .ok (.goto 4, 3) := by decide +kernel
theorem dX8_tellBounds_315 : decode cX8_tellBounds 315 = .ok (.iconst 0, 1) := by decide +kernel
theorem dX8_tellBounds_316 : decode cX8_tellBounds 316 = .ok (.iand, 1) := by decide +kernel
theorem dX8_tellBounds_317 : decode cX8_tellBounds 317 = .ok (.istore_n 2, 1) := by decide +kernel
theorem dX8_tellBounds_318 : decode cX8_tellBounds 318 = .ok (.iinc 3 1, 3) := by decide +kernel
theorem dX8_tellBounds_321 : decode cX8_tellBounds 321 = .ok (.goto (-33), 3) := by decide +kernel
theorem dX8_tellBounds_324 : decode cX8_tellBounds 324 = .ok (.iload_n 2, 1) := by decide +kernel
theorem dX8_tellBounds_325 : decode cX8_tellBounds 325 = .ok (.ireturn, 1) := by decide +kernel
theorem dX8_all_0 : decode cX8_all 0 = .ok (.iconst 1, 1) := by decide +kernel
theorem dX8_all_1 : decode cX8_all 1 = .ok (.aload_n 0, 1) := by decide +kernel
theorem dX8_all_2 : decode cX8_all 2 = .ok (.getfield 85, 3) := by decide +kernel
theorem dX8_all_5 : decode cX8_all 5 = .ok (.ishl, 1) := by decide +kernel
theorem dX8_all_6 : decode cX8_all 6 = .ok (.iconst 1, 1) := by decide +kernel
theorem dX8_all_7 : decode cX8_all 7 = .ok (.isub, 1) := by decide +kernel
theorem dX8_all_8 : decode cX8_all 8 = .ok (.ireturn, 1) := by decide +kernel
theorem dX8_timeOf_0 : decode cX8_timeOf 0 = .ok (.iload_n 2, 1) := by decide +kernel
theorem dX8_timeOf_1 : decode cX8_timeOf 1 = .ok (.ifCond .eq 16, 3) := by decide +kernel
theorem dX8_timeOf_4 : decode cX8_timeOf 4 = .ok (.aload_n 0, 1) := by decide +kernel
theorem dX8_timeOf_5 : decode cX8_timeOf 5 = .ok (.getfield 72, 3) := by decide +kernel
theorem dX8_timeOf_8 : decode cX8_timeOf 8 = .ok (.sipush 156, 3) := by decide +kernel
theorem dX8_timeOf_11 : decode cX8_timeOf 11 = .ok (.iload_n 1, 1) := by decide +kernel
theorem dX8_timeOf_12 : decode cX8_timeOf 12 = .ok (.iadd, 1) := by decide +kernel
theorem dX8_timeOf_13 : decode cX8_timeOf 13 = .ok (.laload, 1) := by decide +kernel
theorem dX8_timeOf_14 : decode cX8_timeOf 14 = .ok (.goto 15, 3) := by decide +kernel
theorem dX8_timeOf_17 : decode cX8_timeOf 17 = .ok (.aload_n 0, 1) := by decide +kernel
theorem dX8_timeOf_18 : decode cX8_timeOf 18 = .ok (.getfield 72, 3) := by decide +kernel
theorem dX8_timeOf_21 : decode cX8_timeOf 21 = .ok (.bipush 13, 2) := by decide +kernel
theorem dX8_timeOf_23 : decode cX8_timeOf 23 = .ok (.iload_n 1, 1) := by decide +kernel
theorem dX8_timeOf_24 : decode cX8_timeOf 24 = .ok (.imul, 1) := by decide +kernel
theorem dX8_timeOf_25 : decode cX8_timeOf 25 = .ok (.bipush 12, 2) := by decide +kernel
theorem dX8_timeOf_27 : decode cX8_timeOf 27 = .ok (.iadd, 1) := by decide +kernel
theorem dX8_timeOf_28 : decode cX8_timeOf 28 = .ok (.laload, 1) := by decide +kernel
theorem dX8_timeOf_29 : decode cX8_timeOf 29 = .ok (.lstore_n 3, 1) := by decide +kernel
theorem dX8_timeOf_30 : decode cX8_timeOf 30 = .ok (.lload_n 3, 1) := by decide +kernel
theorem dX8_timeOf_31 : decode cX8_timeOf 31 = .ok (.ldc2_w 113, 3) := by decide +kernel
theorem dX8_timeOf_34 : decode cX8_timeOf 34 = .ok (.lcmp, 1) := by decide +kernel
theorem dX8_timeOf_35 : decode cX8_timeOf 35 = .ok (.ifCond .eq 7, 3) := by decide +kernel
theorem dX8_timeOf_38 : decode cX8_timeOf 38 = .ok (.iload_n 2, 1) := by decide +kernel
theorem dX8_timeOf_39 : decode cX8_timeOf 39 = .ok (.ifCond .eq 7, 3) := by decide +kernel
theorem dX8_timeOf_42 : decode cX8_timeOf 42 = .ok (.lload_n 3, 1) := by decide +kernel
theorem dX8_timeOf_43 : decode cX8_timeOf 43 = .ok (.goto 5, 3) := by decide +kernel
theorem dX8_timeOf_46 : decode cX8_timeOf 46 = .ok (.lload_n 3, 1) := by decide +kernel
theorem dX8_timeOf_47 : decode cX8_timeOf 47 = .ok (.lneg, 1) := by decide +kernel
theorem dX8_timeOf_48 : decode cX8_timeOf 48 = .ok (.lreturn, 1) := by decide +kernel
set_option maxRecDepth 20000 in
theorem ggX8_time_X8_isTrace : GoodIn wsX8_time wsX8_isTrace := goodIn_r _ [6, 7, 50, 51, 52, 53, 54, 55, 56, 57, 58, 59, 60, 61, 62, 63, 64, 65, 66, 67, 68, 69, 70, 71, 72, 73, 74, 75, 76] (by decide +kernel) (by decide +kernel)
set_option maxRecDepth 20000 in
theorem gX8_time_X8_isTrace : GoodIn wsX8_time (wsV RX8 110 RX8 yX8_isTrace wsX8_isTrace) := goodIn_app (goodIn_of _ (by decide +kernel)) ggX8_time_X8_isTrace
set_option maxRecDepth 20000 in
theorem ggX8_time_X8_finding : GoodIn wsX8_time wsX8_finding := goodIn_r _ [11, 12, 13, 50, 51, 52, 53, 54, 55, 56, 57, 58, 59, 60, 61, 62, 63, 64, 65, 66, 67, 68, 69, 70, 71, 72, 73, 74, 75, 76] (by decide +kernel) (by decide +kernel)
set_option maxRecDepth 20000 in
theorem gX8_time_X8_finding : GoodIn wsX8_time (wsV RX8 95 RX8 yX8_finding wsX8_finding) := goodIn_app (goodIn_of _ (by decide +kernel)) ggX8_time_X8_finding
set_option maxRecDepth 20000 in
theorem ggX8_time_X8_all : GoodIn wsX8_time wsX8_all := goodIn_r _ [17, 7, 50, 51, 52, 53, 54, 55, 56, 57, 58, 59, 60, 61, 62, 63, 64, 65, 66, 67, 68, 69, 70, 71, 72, 73, 74, 75, 76] (by decide +kernel) (by decide +kernel)
set_option maxRecDepth 20000 in
theorem gX8_time_X8_all : GoodIn wsX8_time (wsV RX8 123 RX8 yX8_all wsX8_all) := goodIn_app (goodIn_of _ (by decide +kernel)) ggX8_time_X8_all
set_option maxRecDepth 20000 in
theorem ggX8_time_X8_tellBounds : GoodIn wsX8_time wsX8_tellBounds := goodIn_r _ [21, 22, 1, 7, 23, 24, 25, 26, 27, 28, 29, 5, 30, 31, 32, 33, 34, 35, 36, 37, 38, 39, 40, 41, 42, 43, 44, 45, 50, 51, 52, 53, 54, 55, 56, 57, 58, 59, 60, 61, 62, 63, 64, 65, 66, 67, 68, 69, 70, 71, 72, 73, 74, 75, 76] (by decide +kernel) (by decide +kernel)
set_option maxRecDepth 20000 in
theorem gX8_time_X8_tellBounds : GoodIn wsX8_time (wsV RX8 127 RX8 yX8_tellBounds wsX8_tellBounds) := goodIn_app (goodIn_of _ (by decide +kernel)) ggX8_time_X8_tellBounds
set_option maxRecDepth 20000 in
theorem ggX8_time_X8_timeOf : GoodIn wsX8_time wsX8_timeOf := goodIn_r _ [49, 22, 1, 50, 51, 52, 53, 54, 55, 56, 57, 58, 59, 60, 61, 62, 63, 64, 65, 66, 67, 68, 69, 70, 71, 72, 73, 74, 75, 76] (by decide +kernel) (by decide +kernel)
set_option maxRecDepth 20000 in
theorem gX8_time_X8_timeOf : GoodIn wsX8_time (wsV RX8 130 RX8 yX8_timeOf wsX8_timeOf) := goodIn_app (goodIn_of _ (by decide +kernel)) ggX8_time_X8_timeOf
theorem dX8_time_0 : decode cX8_time 0 = .ok (.aload_n 0, 1) := by decide +kernel
theorem dX8_time_1 : decode cX8_time 1 = .ok (.iload_n 1, 1) := by decide +kernel
theorem dX8_time_2 : decode cX8_time 2 = .ok (.invokevirtual 110, 3) := by decide +kernel
theorem dX8_time_5 : decode cX8_time 5 = .ok (.ifCond .ne 9, 3) := by decide +kernel
theorem dX8_time_8 : decode cX8_time 8 = .ok (.aload_n 0, 1) := by decide +kernel
theorem dX8_time_9 : decode cX8_time 9 = .ok (.iconst 1, 1) := by decide +kernel
theorem dX8_time_10 : decode cX8_time 10 = .ok (.invokevirtual 95, 3) := by decide +kernel
theorem dX8_time_13 : decode cX8_time 13 = .ok (.lreturn, 1) := by decide +kernel
theorem dX8_time_14 : decode cX8_time 14 = .ok (.aload_n 0, 1) := by decide +kernel
theorem dX8_time_15 : decode cX8_time 15 = .ok (.aload_n 0, 1) := by decide +kernel
theorem dX8_time_16 : decode cX8_time 16 = .ok (.invokevirtual 123, 3) := by decide +kernel
theorem dX8_time_19 : decode cX8_time 19 = .ok (.invokevirtual 127, 3) := by decide +kernel
theorem dX8_time_22 : decode cX8_time 22 = .ok (.ifCond .ne 9, 3) := by decide +kernel
theorem dX8_time_25 : decode cX8_time 25 = .ok (.aload_n 0, 1) := by decide +kernel
theorem dX8_time_26 : decode cX8_time 26 = .ok (.iconst 5, 1) := by decide +kernel
theorem dX8_time_27 : decode cX8_time 27 = .ok (.invokevirtual 95, 3) := by decide +kernel
theorem dX8_time_30 : decode cX8_time 30 = .ok (.lreturn, 1) := by decide +kernel
theorem dX8_time_31 : decode cX8_time 31 = .ok (.aload_n 0, 1) := by decide +kernel
theorem dX8_time_32 : decode cX8_time 32 = .ok (.iload_n 1, 1) := by decide +kernel
theorem dX8_time_33 : decode cX8_time 33 = .ok (.iload_n 2, 1) := by decide +kernel
theorem dX8_time_34 : decode cX8_time 34 = .ok (.invokevirtual 130, 3) := by decide +kernel
theorem dX8_time_37 : decode cX8_time 37 = .ok (.lstore_n 3, 1) := by decide +kernel
theorem dX8_time_38 : decode cX8_time 38 = .ok (.lload_n 3, 1) := by decide +kernel
theorem dX8_time_39 : decode cX8_time 39 = .ok (.ldc2_w 113, 3) := by decide +kernel
theorem dX8_time_42 : decode cX8_time 42 = .ok (.lcmp, 1) := by decide +kernel
theorem dX8_time_43 : decode cX8_time 43 = .ok (.ifCond .ne 11, 3) := by decide +kernel
theorem dX8_time_46 : decode cX8_time 46 = .ok (.aload_n 0, 1) := by decide +kernel
theorem dX8_time_47 : decode cX8_time 47 = .ok (.iconst 2, 1) := by decide +kernel
theorem dX8_time_48 : decode cX8_time 48 = .ok (.invokevirtual 95, 3) := by decide +kernel
theorem dX8_time_51 : decode cX8_time 51 = .ok (.goto 4, 3) := by decide +kernel
theorem dX8_time_54 : decode cX8_time 54 = .ok (.lload_n 3, 1) := by decide +kernel
theorem dX8_time_55 : decode cX8_time 55 = .ok (.lreturn, 1) := by decide +kernel
set_option maxRecDepth 20000 in
theorem ggX8_apart_X8_isTrace : GoodIn wsX8_apart wsX8_isTrace := goodIn_r _ [7, 8, 46, 47, 48, 49, 50, 51, 52, 53, 54, 55, 56, 57, 58, 59, 60, 61, 62, 63, 64, 65, 66, 67, 68, 69, 70, 71, 72] (by decide +kernel) (by decide +kernel)
set_option maxRecDepth 20000 in
theorem gX8_apart_X8_isTrace : GoodIn wsX8_apart (wsV RX8 110 RX8 yX8_isTrace wsX8_isTrace) := goodIn_app (goodIn_of _ (by decide +kernel)) ggX8_apart_X8_isTrace
set_option maxRecDepth 20000 in
theorem ggX8_apart_X8_finding : GoodIn wsX8_apart wsX8_finding := goodIn_r _ [12, 13, 14, 46, 47, 48, 49, 50, 51, 52, 53, 54, 55, 56, 57, 58, 59, 60, 61, 62, 63, 64, 65, 66, 67, 68, 69, 70, 71, 72] (by decide +kernel) (by decide +kernel)
set_option maxRecDepth 20000 in
theorem gX8_apart_X8_finding : GoodIn wsX8_apart (wsV RX8 95 RX8 yX8_finding wsX8_finding) := goodIn_app (goodIn_of _ (by decide +kernel)) ggX8_apart_X8_finding
set_option maxRecDepth 20000 in
theorem ggX8_apart_X8_all : GoodIn wsX8_apart wsX8_all := goodIn_r _ [18, 8, 46, 47, 48, 49, 50, 51, 52, 53, 54, 55, 56, 57, 58, 59, 60, 61, 62, 63, 64, 65, 66, 67, 68, 69, 70, 71, 72] (by decide +kernel) (by decide +kernel)
set_option maxRecDepth 20000 in
theorem gX8_apart_X8_all : GoodIn wsX8_apart (wsV RX8 123 RX8 yX8_all wsX8_all) := goodIn_app (goodIn_of _ (by decide +kernel)) ggX8_apart_X8_all
set_option maxRecDepth 20000 in
theorem ggX8_apart_X8_tellBounds : GoodIn wsX8_apart wsX8_tellBounds := goodIn_r _ [22, 1, 2, 8, 23, 24, 25, 26, 27, 28, 29, 6, 30, 31, 32, 33, 34, 35, 36, 37, 38, 39, 40, 41, 42, 43, 44, 45, 46, 47, 48, 49, 50, 51, 52, 53, 54, 55, 56, 57, 58, 59, 60, 61, 62, 63, 64, 65, 66, 67, 68, 69, 70, 71, 72] (by decide +kernel) (by decide +kernel)
set_option maxRecDepth 20000 in
theorem gX8_apart_X8_tellBounds : GoodIn wsX8_apart (wsV RX8 127 RX8 yX8_tellBounds wsX8_tellBounds) := goodIn_app (goodIn_of _ (by decide +kernel)) ggX8_apart_X8_tellBounds
theorem dX8_apart_0 : decode cX8_apart 0 = .ok (.aload_n 0, 1) := by decide +kernel
theorem dX8_apart_1 : decode cX8_apart 1 = .ok (.iload_n 1, 1) := by decide +kernel
theorem dX8_apart_2 : decode cX8_apart 2 = .ok (.invokevirtual 110, 3) := by decide +kernel
theorem dX8_apart_5 : decode cX8_apart 5 = .ok (.ifCond .eq 16, 3) := by decide +kernel
theorem dX8_apart_8 : decode cX8_apart 8 = .ok (.aload_n 0, 1) := by decide +kernel
theorem dX8_apart_9 : decode cX8_apart 9 = .ok (.iload_n 2, 1) := by decide +kernel
theorem dX8_apart_10 : decode cX8_apart 10 = .ok (.invokevirtual 110, 3) := by decide +kernel
theorem dX8_apart_13 : decode cX8_apart 13 = .ok (.ifCond .eq 8, 3) := by decide +kernel
theorem dX8_apart_16 : decode cX8_apart 16 = .ok (.iload_n 1, 1) := by decide +kernel
theorem dX8_apart_17 : decode cX8_apart 17 = .ok (.iload_n 2, 1) := by decide +kernel
theorem dX8_apart_18 : decode cX8_apart 18 = .ok (.if_icmp .ne 9, 3) := by decide +kernel
theorem dX8_apart_21 : decode cX8_apart 21 = .ok (.aload_n 0, 1) := by decide +kernel
theorem dX8_apart_22 : decode cX8_apart 22 = .ok (.iconst 1, 1) := by decide +kernel
theorem dX8_apart_23 : decode cX8_apart 23 = .ok (.invokevirtual 95, 3) := by decide +kernel
theorem dX8_apart_26 : decode cX8_apart 26 = .ok (.lreturn, 1) := by decide +kernel
theorem dX8_apart_27 : decode cX8_apart 27 = .ok (.aload_n 0, 1) := by decide +kernel
theorem dX8_apart_28 : decode cX8_apart 28 = .ok (.aload_n 0, 1) := by decide +kernel
theorem dX8_apart_29 : decode cX8_apart 29 = .ok (.invokevirtual 123, 3) := by decide +kernel
theorem dX8_apart_32 : decode cX8_apart 32 = .ok (.invokevirtual 127, 3) := by decide +kernel
theorem dX8_apart_35 : decode cX8_apart 35 = .ok (.ifCond .ne 9, 3) := by decide +kernel
theorem dX8_apart_38 : decode cX8_apart 38 = .ok (.aload_n 0, 1) := by decide +kernel
theorem dX8_apart_39 : decode cX8_apart 39 = .ok (.iconst 5, 1) := by decide +kernel
theorem dX8_apart_40 : decode cX8_apart 40 = .ok (.invokevirtual 95, 3) := by decide +kernel
theorem dX8_apart_43 : decode cX8_apart 43 = .ok (.lreturn, 1) := by decide +kernel
theorem dX8_apart_44 : decode cX8_apart 44 = .ok (.iload_n 3, 1) := by decide +kernel
theorem dX8_apart_45 : decode cX8_apart 45 = .ok (.ifCond .eq 17, 3) := by decide +kernel
theorem dX8_apart_48 : decode cX8_apart 48 = .ok (.aload_n 0, 1) := by decide +kernel
theorem dX8_apart_49 : decode cX8_apart 49 = .ok (.getfield 72, 3) := by decide +kernel
theorem dX8_apart_52 : decode cX8_apart 52 = .ok (.bipush 13, 2) := by decide +kernel
theorem dX8_apart_54 : decode cX8_apart 54 = .ok (.iload_n 1, 1) := by decide +kernel
theorem dX8_apart_55 : decode cX8_apart 55 = .ok (.imul, 1) := by decide +kernel
theorem dX8_apart_56 : decode cX8_apart 56 = .ok (.iload_n 2, 1) := by decide +kernel
theorem dX8_apart_57 : decode cX8_apart 57 = .ok (.iadd, 1) := by decide +kernel
theorem dX8_apart_58 : decode cX8_apart 58 = .ok (.laload, 1) := by decide +kernel
theorem dX8_apart_59 : decode cX8_apart 59 = .ok (.goto 14, 3) := by decide +kernel
theorem dX8_apart_62 : decode cX8_apart 62 = .ok (.aload_n 0, 1) := by decide +kernel
theorem dX8_apart_63 : decode cX8_apart 63 = .ok (.getfield 72, 3) := by decide +kernel
theorem dX8_apart_66 : decode cX8_apart 66 = .ok (.bipush 13, 2) := by decide +kernel
theorem dX8_apart_68 : decode cX8_apart 68 = .ok (.iload_n 2, 1) := by decide +kernel
theorem dX8_apart_69 : decode cX8_apart 69 = .ok (.imul, 1) := by decide +kernel
theorem dX8_apart_70 : decode cX8_apart 70 = .ok (.iload_n 1, 1) := by decide +kernel
theorem dX8_apart_71 : decode cX8_apart 71 = .ok (.iadd, 1) := by decide +kernel
theorem dX8_apart_72 : decode cX8_apart 72 = .ok (.laload, 1) := by decide +kernel
theorem dX8_apart_73 : decode cX8_apart 73 = .ok (.lstore 4, 2) := by decide +kernel
theorem dX8_apart_75 : decode cX8_apart 75 = .ok (.lload 4, 2) := by decide +kernel
theorem dX8_apart_77 : decode cX8_apart 77 = .ok (.ldc2_w 113, 3) := by decide +kernel
theorem dX8_apart_80 : decode cX8_apart 80 = .ok (.lcmp, 1) := by decide +kernel
theorem dX8_apart_81 : decode cX8_apart 81 = .ok (.ifCond .ne 11, 3) := by decide +kernel
theorem dX8_apart_84 : decode cX8_apart 84 = .ok (.aload_n 0, 1) := by decide +kernel
theorem dX8_apart_85 : decode cX8_apart 85 = .ok (.iconst 2, 1) := by decide +kernel
theorem dX8_apart_86 : decode cX8_apart 86 = .ok (.invokevirtual 95, 3) := by decide +kernel
theorem dX8_apart_89 : decode cX8_apart 89 = .ok (.goto 15, 3) := by decide +kernel
theorem dX8_apart_92 : decode cX8_apart 92 = .ok (.iload_n 3, 1) := by decide +kernel
theorem dX8_apart_93 : decode cX8_apart 93 = .ok (.ifCond .eq 8, 3) := by decide +kernel
theorem dX8_apart_96 : decode cX8_apart 96 = .ok (.lload 4, 2) := by decide +kernel
theorem dX8_apart_98 : decode cX8_apart 98 = .ok (.goto 6, 3) := by decide +kernel
theorem dX8_apart_101 : decode cX8_apart 101 = .ok (.lload 4, 2) := by decide +kernel
theorem dX8_apart_103 : decode cX8_apart 103 = .ok (.lneg, 1) := by decide +kernel
theorem dX8_apart_104 : decode cX8_apart 104 = .ok (.lreturn, 1) := by decide +kernel
theorem dX8_size_0 : decode cX8_size 0 = .ok (.iconst 0, 1) := by decide +kernel
theorem dX8_size_1 : decode cX8_size 1 = .ok (.istore_n 1, 1) := by decide +kernel
theorem dX8_size_2 : decode cX8_size 2 = .ok (.iconst 0, 1) := by decide +kernel
theorem dX8_size_3 : decode cX8_size 3 = .ok (.istore_n 2, 1) := by decide +kernel
theorem dX8_size_4 : decode cX8_size 4 = .ok (.iload_n 2, 1) := by decide +kernel
theorem dX8_size_5 : decode cX8_size 5 = .ok (.bipush 16, 2) := by decide +kernel
theorem dX8_size_7 : decode cX8_size 7 = .ok (.if_icmp .ge 17, 3) := by decide +kernel
theorem dX8_size_10 : decode cX8_size 10 = .ok (.iload_n 1, 1) := by decide +kernel
theorem dX8_size_11 : decode cX8_size 11 = .ok (.iload_n 0, 1) := by decide +kernel
theorem dX8_size_12 : decode cX8_size 12 = .ok (.iload_n 2, 1) := by decide +kernel
theorem dX8_size_13 : decode cX8_size 13 = .ok (.ishr, 1) := by decide +kernel
theorem dX8_size_14 : decode cX8_size 14 = .ok (.iconst 1, 1) := by decide +kernel
theorem dX8_size_15 : decode cX8_size 15 = .ok (.iand, 1) := by decide +kernel
theorem dX8_size_16 : decode cX8_size 16 = .ok (.iadd, 1) := by decide +kernel
theorem dX8_size_17 : decode cX8_size 17 = .ok (.istore_n 1, 1) := by decide +kernel
theorem dX8_size_18 : decode cX8_size 18 = .ok (.iinc 2 1, 3) := by decide +kernel
theorem dX8_size_21 : decode cX8_size 21 = .ok (.goto (-17), 3) := by decide +kernel
theorem dX8_size_24 : decode cX8_size 24 = .ok (.iload_n 1, 1) := by decide +kernel
theorem dX8_size_25 : decode cX8_size 25 = .ok (.ireturn, 1) := by decide +kernel
set_option maxRecDepth 20000 in
theorem ggX8_quarrel_X8_all : GoodIn wsX8_quarrel wsX8_all := goodIn_r _ [5, 6, 45, 46, 47, 48, 49, 50, 51, 52, 53, 54, 55, 56, 57, 58, 59, 60, 61, 62, 63, 64, 65, 66, 67, 68, 69, 70, 71] (by decide +kernel) (by decide +kernel)
set_option maxRecDepth 20000 in
theorem gX8_quarrel_X8_all : GoodIn wsX8_quarrel (wsV RX8 123 RX8 yX8_all wsX8_all) := goodIn_app (goodIn_of _ (by decide +kernel)) ggX8_quarrel_X8_all
set_option maxRecDepth 20000 in
theorem ggX8_quarrel_X8_tellBounds : GoodIn wsX8_quarrel wsX8_tellBounds := goodIn_r _ [10, 11, 12, 6, 13, 14, 15, 16, 17, 18, 19, 4, 20, 21, 22, 23, 24, 25, 26, 27, 28, 29, 30, 31, 32, 33, 34, 35, 45, 46, 47, 48, 49, 50, 51, 52, 53, 54, 55, 56, 57, 58, 59, 60, 61, 62, 63, 64, 65, 66, 67, 68, 69, 70, 71] (by decide +kernel) (by decide +kernel)
set_option maxRecDepth 20000 in
theorem gX8_quarrel_X8_tellBounds : GoodIn wsX8_quarrel (wsV RX8 127 RX8 yX8_tellBounds wsX8_tellBounds) := goodIn_app (goodIn_of _ (by decide +kernel)) ggX8_quarrel_X8_tellBounds
set_option maxRecDepth 20000 in
theorem ggX8_quarrel_X8_finding : GoodIn wsX8_quarrel wsX8_finding := goodIn_r _ [39, 40, 41, 45, 46, 47, 48, 49, 50, 51, 52, 53, 54, 55, 56, 57, 58, 59, 60, 61, 62, 63, 64, 65, 66, 67, 68, 69, 70, 71] (by decide +kernel) (by decide +kernel)
set_option maxRecDepth 20000 in
theorem gX8_quarrel_X8_finding : GoodIn wsX8_quarrel (wsV RX8 95 RX8 yX8_finding wsX8_finding) := goodIn_app (goodIn_of _ (by decide +kernel)) ggX8_quarrel_X8_finding
set_option maxRecDepth 20000 in
theorem ggX8_quarrel_X8_size : GoodIn wsX8_quarrel wsX8_size := goodIn_r _ [44] (by decide +kernel) (by decide +kernel)
set_option maxRecDepth 20000 in
theorem gX8_quarrel_X8_size : GoodIn wsX8_quarrel (va_wsS RX8 133 yX8_size wsX8_size) := goodIn_app (goodIn_of _ (by decide +kernel)) ggX8_quarrel_X8_size
theorem dX8_quarrel_0 : decode cX8_quarrel 0 = .ok (.aload_n 0, 1) := by decide +kernel
theorem dX8_quarrel_1 : decode cX8_quarrel 1 = .ok (.aload_n 0, 1) := by decide +kernel
theorem dX8_quarrel_2 : decode cX8_quarrel 2 = .ok (.invokevirtual 123, 3) := by decide +kernel
theorem dX8_quarrel_5 : decode cX8_quarrel 5 = .ok (.invokevirtual 127, 3) := by decide +kernel
theorem dX8_quarrel_8 : decode cX8_quarrel 8 = .ok (.ifCond .eq 9, 3) := by decide +kernel
theorem dX8_quarrel_11 : decode cX8_quarrel 11 = .ok (.aload_n 0, 1) := by decide +kernel
theorem dX8_quarrel_12 : decode cX8_quarrel 12 = .ok (.iconst 2, 1) := by decide +kernel
theorem dX8_quarrel_13 : decode cX8_quarrel 13 = .ok (.invokevirtual 95, 3) := by decide +kernel
theorem dX8_quarrel_16 : decode cX8_quarrel 16 = .ok (.lreturn, 1) := by decide +kernel
theorem dX8_quarrel_17 : decode cX8_quarrel 17 = .ok (.aload_n 0, 1) := by decide +kernel
theorem dX8_quarrel_18 : decode cX8_quarrel 18 = .ok (.invokevirtual 123, 3) := by decide +kernel
theorem dX8_quarrel_21 : decode cX8_quarrel 21 = .ok (.istore_n 1, 1) := by decide +kernel
theorem dX8_quarrel_22 : decode cX8_quarrel 22 = .ok (.iconst 0, 1) := by decide +kernel
theorem dX8_quarrel_23 : decode cX8_quarrel 23 = .ok (.istore_n 2, 1) := by decide +kernel
theorem dX8_quarrel_24 : decode cX8_quarrel 24 = .ok (.iload_n 2, 1) := by decide +kernel
theorem dX8_quarrel_25 : decode cX8_quarrel 25 = .ok (.aload_n 0, 1) := by decide +kernel
theorem dX8_quarrel_26 : decode cX8_quarrel 26 = .ok (.invokevirtual 123, 3) := by decide +kernel
theorem dX8_quarrel_29 : decode cX8_quarrel 29 = .ok (.if_icmp .ge 30, 3) := by decide +kernel
theorem dX8_quarrel_32 : decode cX8_quarrel 32 = .ok (.iload_n 2, 1) := by decide +kernel
theorem dX8_quarrel_33 : decode cX8_quarrel 33 = .ok (.invokestatic 133, 3) := by decide +kernel
theorem dX8_quarrel_36 : decode cX8_quarrel 36 = .ok (.iload_n 1, 1) := by decide +kernel
theorem dX8_quarrel_37 : decode cX8_quarrel 37 = .ok (.invokestatic 133, 3) := by decide +kernel
theorem dX8_quarrel_40 : decode cX8_quarrel 40 = .ok (.if_icmp .ge 13, 3) := by decide +kernel
theorem dX8_quarrel_43 : decode cX8_quarrel 43 = .ok (.aload_n 0, 1) := by decide +kernel
theorem dX8_quarrel_44 : decode cX8_quarrel 44 = .ok (.iload_n 2, 1) := by decide +kernel
theorem dX8_quarrel_45 : decode cX8_quarrel 45 = .ok (.invokevirtual 127, 3) := by decide +kernel
theorem dX8_quarrel_48 : decode cX8_quarrel 48 = .ok (.ifCond .ne 5, 3) := by decide +kernel
theorem dX8_quarrel_51 : decode cX8_quarrel 51 = .ok (.iload_n 2, 1) := by decide +kernel
theorem dX8_quarrel_52 : decode cX8_quarrel 52 = .ok (.istore_n 1, 1) := by decide +kernel
theorem dX8_quarrel_53 : decode cX8_quarrel 53 = .ok (.iinc 2 1, 3) := by decide +kernel
theorem dX8_quarrel_56 : decode cX8_quarrel 56 = .ok (.goto (-32), 3) := by decide +kernel
theorem dX8_quarrel_59 : decode cX8_quarrel 59 = .ok (.iload_n 1, 1) := by decide +kernel
theorem dX8_quarrel_60 : decode cX8_quarrel 60 = .ok (.i2l, 1) := by decide +kernel
theorem dX8_quarrel_61 : decode cX8_quarrel 61 = .ok (.lreturn, 1) := by decide +kernel
set_option maxRecDepth 20000 in
theorem ggX8_without_X8_isTrace : GoodIn wsX8_without wsX8_isTrace := goodIn_r _ [6, 7, 50, 51, 52, 53, 54, 55, 56, 57, 58, 59, 60, 61, 62, 63, 64, 65, 66, 67, 68, 69, 70, 71, 72, 73, 74, 75, 76] (by decide +kernel) (by decide +kernel)
set_option maxRecDepth 20000 in
theorem gX8_without_X8_isTrace : GoodIn wsX8_without (wsV RX8 110 RX8 yX8_isTrace wsX8_isTrace) := goodIn_app (goodIn_of _ (by decide +kernel)) ggX8_without_X8_isTrace
set_option maxRecDepth 20000 in
theorem ggX8_without_X8_finding : GoodIn wsX8_without wsX8_finding := goodIn_r _ [11, 12, 13, 50, 51, 52, 53, 54, 55, 56, 57, 58, 59, 60, 61, 62, 63, 64, 65, 66, 67, 68, 69, 70, 71, 72, 73, 74, 75, 76] (by decide +kernel) (by decide +kernel)
set_option maxRecDepth 20000 in
theorem gX8_without_X8_finding : GoodIn wsX8_without (wsV RX8 95 RX8 yX8_finding wsX8_finding) := goodIn_app (goodIn_of _ (by decide +kernel)) ggX8_without_X8_finding
set_option maxRecDepth 20000 in
theorem ggX8_without_X8_all : GoodIn wsX8_without wsX8_all := goodIn_r _ [17, 7, 50, 51, 52, 53, 54, 55, 56, 57, 58, 59, 60, 61, 62, 63, 64, 65, 66, 67, 68, 69, 70, 71, 72, 73, 74, 75, 76] (by decide +kernel) (by decide +kernel)
set_option maxRecDepth 20000 in
theorem gX8_without_X8_all : GoodIn wsX8_without (wsV RX8 123 RX8 yX8_all wsX8_all) := goodIn_app (goodIn_of _ (by decide +kernel)) ggX8_without_X8_all
set_option maxRecDepth 20000 in
theorem ggX8_without_X8_tellBounds : GoodIn wsX8_without wsX8_tellBounds := goodIn_r _ [21, 22, 1, 7, 23, 24, 25, 26, 27, 28, 29, 5, 30, 31, 32, 33, 34, 35, 36, 37, 38, 39, 40, 41, 42, 43, 44, 45, 50, 51, 52, 53, 54, 55, 56, 57, 58, 59, 60, 61, 62, 63, 64, 65, 66, 67, 68, 69, 70, 71, 72, 73, 74, 75, 76] (by decide +kernel) (by decide +kernel)
set_option maxRecDepth 20000 in
theorem gX8_without_X8_tellBounds : GoodIn wsX8_without (wsV RX8 127 RX8 yX8_tellBounds wsX8_tellBounds) := goodIn_app (goodIn_of _ (by decide +kernel)) ggX8_without_X8_tellBounds
set_option maxRecDepth 20000 in
theorem ggX8_without_X8_timeOf : GoodIn wsX8_without wsX8_timeOf := goodIn_r _ [49, 22, 1, 50, 51, 52, 53, 54, 55, 56, 57, 58, 59, 60, 61, 62, 63, 64, 65, 66, 67, 68, 69, 70, 71, 72, 73, 74, 75, 76] (by decide +kernel) (by decide +kernel)
set_option maxRecDepth 20000 in
theorem gX8_without_X8_timeOf : GoodIn wsX8_without (wsV RX8 130 RX8 yX8_timeOf wsX8_timeOf) := goodIn_app (goodIn_of _ (by decide +kernel)) ggX8_without_X8_timeOf
theorem dX8_without_0 : decode cX8_without 0 = .ok (.aload_n 0, 1) := by decide +kernel
theorem dX8_without_1 : decode cX8_without 1 = .ok (.iload_n 1, 1) := by decide +kernel
theorem dX8_without_2 : decode cX8_without 2 = .ok (.invokevirtual 110, 3) := by decide +kernel
theorem dX8_without_5 : decode cX8_without 5 = .ok (.ifCond .eq 16, 3) := by decide +kernel
theorem dX8_without_8 : decode cX8_without 8 = .ok (.aload_n 0, 1) := by decide +kernel
theorem dX8_without_9 : decode cX8_without 9 = .ok (.iload_n 2, 1) := by decide +kernel
theorem dX8_without_10 : decode cX8_without 10 = .ok (.invokevirtual 110, 3) := by decide +kernel
theorem dX8_without_13 : decode cX8_without 13 = .ok (.ifCond .eq 8, 3) := by decide +kernel
theorem dX8_without_16 : decode cX8_without 16 = .ok (.iload_n 1, 1) := by decide +kernel
theorem dX8_without_17 : decode cX8_without 17 = .ok (.iload_n 2, 1) := by decide +kernel
theorem dX8_without_18 : decode cX8_without 18 = .ok (.if_icmp .ne 9, 3) := by decide +kernel
