theorem dX7_init_16 : decode cX7_init 16 = .ok (.if_icmp .ge 22, 3) := by decide +kernel
theorem dX7_init_19 : decode cX7_init 19 = .ok (.aload_n 0, 1) := by decide +kernel
theorem dX7_init_20 : decode cX7_init 20 = .ok (.getfield 11, 3) := by decide +kernel
theorem dX7_init_23 : decode cX7_init 23 = .ok (.iload_n 1, 1) := by decide +kernel
theorem dX7_init_24 : decode cX7_init 24 = .ok (.new 9, 3) := by decide +kernel
theorem dX7_init_27 : decode cX7_init 27 = .ok (.dup, 1) := by decide +kernel
theorem dX7_init_28 : decode cX7_init 28 = .ok (.invokespecial 15, 3) := by decide +kernel
theorem dX7_init_31 : decode cX7_init 31 = .ok (.aastore, 1) := by decide +kernel
theorem dX7_init_32 : decode cX7_init 32 = .ok (.iinc 1 1, 3) := by decide +kernel
theorem dX7_init_35 : decode cX7_init 35 = .ok (.goto (-21), 3) := by decide +kernel
theorem dX7_init_38 : decode cX7_init 38 = .ok (.aload_n 0, 1) := by decide +kernel
theorem dX7_init_39 : decode cX7_init 39 = .ok (.new 16, 3) := by decide +kernel
theorem dX7_init_42 : decode cX7_init 42 = .ok (.dup, 1) := by decide +kernel
theorem dX7_init_43 : decode cX7_init 43 = .ok (.invokespecial 18, 3) := by decide +kernel
theorem dX7_init_46 : decode cX7_init 46 = .ok (.putfield 19, 3) := by decide +kernel
theorem dX7_init_49 : decode cX7_init 49 = .ok (.aload_n 0, 1) := by decide +kernel
theorem dX7_init_50 : decode cX7_init 50 = .ok (.new 23, 3) := by decide +kernel
theorem dX7_init_53 : decode cX7_init 53 = .ok (.dup, 1) := by decide +kernel
theorem dX7_init_54 : decode cX7_init 54 = .ok (.invokespecial 25, 3) := by decide +kernel
theorem dX7_init_57 : decode cX7_init 57 = .ok (.putfield 26, 3) := by decide +kernel
theorem dX7_init_60 : decode cX7_init 60 = .ok (.aload_n 0, 1) := by decide +kernel
theorem dX7_init_61 : decode cX7_init 61 = .ok (.new 30, 3) := by decide +kernel
theorem dX7_init_64 : decode cX7_init 64 = .ok (.dup, 1) := by decide +kernel
theorem dX7_init_65 : decode cX7_init 65 = .ok (.invokespecial 32, 3) := by decide +kernel
theorem dX7_init_68 : decode cX7_init 68 = .ok (.putfield 33, 3) := by decide +kernel
theorem dX7_init_71 : decode cX7_init 71 = .ok (.aload_n 0, 1) := by decide +kernel
theorem dX7_init_72 : decode cX7_init 72 = .ok (.new 37, 3) := by decide +kernel
theorem dX7_init_75 : decode cX7_init 75 = .ok (.dup, 1) := by decide +kernel
theorem dX7_init_76 : decode cX7_init 76 = .ok (.invokespecial 39, 3) := by decide +kernel
theorem dX7_init_79 : decode cX7_init 79 = .ok (.putfield 40, 3) := by decide +kernel
theorem dX7_init_82 : decode cX7_init 82 = .ok (.aload_n 0, 1) := by decide +kernel
theorem dX7_init_83 : decode cX7_init 83 = .ok (.new 44, 3) := by decide +kernel
theorem dX7_init_86 : decode cX7_init 86 = .ok (.dup, 1) := by decide +kernel
theorem dX7_init_87 : decode cX7_init 87 = .ok (.invokespecial 46, 3) := by decide +kernel
theorem dX7_init_90 : decode cX7_init 90 = .ok (.putfield 47, 3) := by decide +kernel
theorem dX7_init_93 : decode cX7_init 93 = .ok (.aload_n 0, 1) := by decide +kernel
theorem dX7_init_94 : decode cX7_init 94 = .ok (.new 51, 3) := by decide +kernel
theorem dX7_init_97 : decode cX7_init 97 = .ok (.dup, 1) := by decide +kernel
theorem dX7_init_98 : decode cX7_init 98 = .ok (.invokespecial 53, 3) := by decide +kernel
theorem dX7_init_101 : decode cX7_init 101 = .ok (.putfield 54, 3) := by decide +kernel
theorem dX7_init_104 : decode cX7_init 104 = .ok (.aload_n 0, 1) := by decide +kernel
theorem dX7_init_105 : decode cX7_init 105 = .ok (.bipush 30, 2) := by decide +kernel
theorem dX7_init_107 : decode cX7_init 107 = .ok (.newarray .int, 2) := by decide +kernel
theorem dX7_init_109 : decode cX7_init 109 = .ok (.putfield 58, 3) := by decide +kernel
theorem dX7_init_112 : decode cX7_init 112 = .ok (.aload_n 0, 1) := by decide +kernel
theorem dX7_init_113 : decode cX7_init 113 = .ok (.iconst 0, 1) := by decide +kernel
theorem dX7_init_114 : decode cX7_init 114 = .ok (.putfield 62, 3) := by decide +kernel
theorem dX7_init_117 : decode cX7_init 117 = .ok (.aload_n 0, 1) := by decide +kernel
theorem dX7_init_118 : decode cX7_init 118 = .ok (.bipush 6, 2) := by decide +kernel
theorem dX7_init_120 : decode cX7_init 120 = .ok (.newarray .int, 2) := by decide +kernel
theorem dX7_init_122 : decode cX7_init 122 = .ok (.putfield 66, 3) := by decide +kernel
theorem dX7_init_125 : decode cX7_init 125 = .ok (.return_, 1) := by decide +kernel
set_option maxRecDepth 20000 in
theorem ggX7_piece_X7_isWithin : GoodIn wsX7_piece wsX7_isWithin := goodIn_r _ [5] (by decide +kernel) (by decide +kernel)
set_option maxRecDepth 20000 in
theorem gX7_piece_X7_isWithin : GoodIn wsX7_piece (va_wsS RX7 69 yX7_isWithin wsX7_isWithin) := goodIn_app (goodIn_of _ (by decide +kernel)) ggX7_piece_X7_isWithin
set_option maxRecDepth 20000 in
theorem ggX7_piece_X7_isReading : GoodIn wsX7_piece wsX7_isReading := goodIn_r _ [8, 9, 2, 3, 4, 5] (by decide +kernel) (by decide +kernel)
set_option maxRecDepth 20000 in
theorem gX7_piece_X7_isReading : GoodIn wsX7_piece (va_wsS RX7 73 yX7_isReading wsX7_isReading) := goodIn_app (goodIn_of _ (by decide +kernel)) ggX7_piece_X7_isReading
set_option maxRecDepth 20000 in
theorem ggX7_piece_X7_isShift : GoodIn wsX7_piece wsX7_isShift := goodIn_r _ [12, 13, 14, 2, 3, 4, 5] (by decide +kernel) (by decide +kernel)
set_option maxRecDepth 20000 in
theorem gX7_piece_X7_isShift : GoodIn wsX7_piece (va_wsS RX7 77 yX7_isShift wsX7_isShift) := goodIn_app (goodIn_of _ (by decide +kernel)) ggX7_piece_X7_isShift
set_option maxRecDepth 20000 in
theorem ggX7_piece_X7_finding : GoodIn wsX7_piece wsX7_finding := goodIn_r _ [18, 19, 20, 2, 3, 4, 5, 39, 40, 41, 42, 43, 44, 45, 46, 47, 48] (by decide +kernel) (by decide +kernel)
set_option maxRecDepth 20000 in
theorem gX7_piece_X7_finding : GoodIn wsX7_piece (wsV RX7 80 RX7 yX7_finding wsX7_finding) := goodIn_app (goodIn_of _ (by decide +kernel)) ggX7_piece_X7_finding
set_option maxRecDepth 20000 in
theorem ggX7_piece_X1_isBehindAll : GoodIn wsX7_piece wsX1_isBehindAll := goodIn_r _ [25, 26, 27, 49, 50, 51, 52] (by decide +kernel) (by decide +kernel)
set_option maxRecDepth 20000 in
theorem gX7_piece_X1_isBehindAll : GoodIn wsX7_piece (wsV RX7 84 RX1 yX1_isBehindAll wsX1_isBehindAll) := goodIn_app (goodIn_of _ (by decide +kernel)) ggX7_piece_X1_isBehindAll
set_option maxRecDepth 20000 in
theorem ggX7_piece_X1_isFull : GoodIn wsX7_piece wsX1_isFull := goodIn_r _ [31, 26, 49, 50, 51, 52] (by decide +kernel) (by decide +kernel)
set_option maxRecDepth 20000 in
theorem gX7_piece_X1_isFull : GoodIn wsX7_piece (wsV RX7 87 RX1 yX1_isFull wsX1_isFull) := goodIn_app (goodIn_of _ (by decide +kernel)) ggX7_piece_X1_isFull
set_option maxRecDepth 20000 in
theorem ggX7_piece_X1_append : GoodIn wsX7_piece wsX1_append := goodIn_r _ [35, 27, 26, 36, 37, 38, 29, 30, 24, 31, 49, 50, 51, 52] (by decide +kernel) (by decide +kernel)
set_option maxRecDepth 20000 in
theorem gX7_piece_X1_append : GoodIn wsX7_piece (wsV RX7 91 RX1 yX1_append wsX1_append) := goodIn_app (goodIn_of _ (by decide +kernel)) ggX7_piece_X1_append
theorem dX7_piece_0 : decode cX7_piece 0 = .ok (.iload_n 1, 1) := by decide +kernel
theorem dX7_piece_1 : decode cX7_piece 1 = .ok (.iconst 0, 1) := by decide +kernel
theorem dX7_piece_2 : decode cX7_piece 2 = .ok (.iconst 3, 1) := by decide +kernel
theorem dX7_piece_3 : decode cX7_piece 3 = .ok (.invokestatic 69, 3) := by decide +kernel
theorem dX7_piece_6 : decode cX7_piece 6 = .ok (.ifCond .eq 31, 3) := by decide +kernel
theorem dX7_piece_9 : decode cX7_piece 9 = .ok (.iload_n 2, 1) := by decide +kernel
theorem dX7_piece_10 : decode cX7_piece 10 = .ok (.invokestatic 73, 3) := by decide +kernel
theorem dX7_piece_13 : decode cX7_piece 13 = .ok (.ifCond .eq 24, 3) := by decide +kernel
theorem dX7_piece_16 : decode cX7_piece 16 = .ok (.iload_n 3, 1) := by decide +kernel
theorem dX7_piece_17 : decode cX7_piece 17 = .ok (.invokestatic 77, 3) := by decide +kernel
theorem dX7_piece_20 : decode cX7_piece 20 = .ok (.ifCond .eq 17, 3) := by decide +kernel
theorem dX7_piece_23 : decode cX7_piece 23 = .ok (.iload 4, 2) := by decide +kernel
theorem dX7_piece_25 : decode cX7_piece 25 = .ok (.invokestatic 77, 3) := by decide +kernel
theorem dX7_piece_28 : decode cX7_piece 28 = .ok (.ifCond .eq 9, 3) := by decide +kernel
theorem dX7_piece_31 : decode cX7_piece 31 = .ok (.iload_n 3, 1) := by decide +kernel
theorem dX7_piece_32 : decode cX7_piece 32 = .ok (.iload 4, 2) := by decide +kernel
theorem dX7_piece_34 : decode cX7_piece 34 = .ok (.if_icmp .le 9, 3) := by decide +kernel
theorem dX7_piece_37 : decode cX7_piece 37 = .ok (.aload_n 0, 1) := by decide +kernel
theorem dX7_piece_38 : decode cX7_piece 38 = .ok (.iconst 1, 1) := by decide +kernel
theorem dX7_piece_39 : decode cX7_piece 39 = .ok (.invokevirtual 80, 3) := by decide +kernel
theorem dX7_piece_42 : decode cX7_piece 42 = .ok (.lreturn, 1) := by decide +kernel
theorem dX7_piece_43 : decode cX7_piece 43 = .ok (.aload_n 0, 1) := by decide +kernel
theorem dX7_piece_44 : decode cX7_piece 44 = .ok (.getfield 11, 3) := by decide +kernel
theorem dX7_piece_47 : decode cX7_piece 47 = .ok (.iload_n 1, 1) := by decide +kernel
theorem dX7_piece_48 : decode cX7_piece 48 = .ok (.aaload, 1) := by decide +kernel
theorem dX7_piece_49 : decode cX7_piece 49 = .ok (.iload_n 2, 1) := by decide +kernel
theorem dX7_piece_50 : decode cX7_piece 50 = .ok (.invokevirtual 84, 3) := by decide +kernel
theorem dX7_piece_53 : decode cX7_piece 53 = .ok (.ifCond .ne 9, 3) := by decide +kernel
theorem dX7_piece_56 : decode cX7_piece 56 = .ok (.aload_n 0, 1) := by decide +kernel
theorem dX7_piece_57 : decode cX7_piece 57 = .ok (.iconst 1, 1) := by decide +kernel
theorem dX7_piece_58 : decode cX7_piece 58 = .ok (.invokevirtual 80, 3) := by decide +kernel
theorem dX7_piece_61 : decode cX7_piece 61 = .ok (.lreturn, 1) := by decide +kernel
theorem dX7_piece_62 : decode cX7_piece 62 = .ok (.aload_n 0, 1) := by decide +kernel
theorem dX7_piece_63 : decode cX7_piece 63 = .ok (.getfield 11, 3) := by decide +kernel
theorem dX7_piece_66 : decode cX7_piece 66 = .ok (.iload_n 1, 1) := by decide +kernel
theorem dX7_piece_67 : decode cX7_piece 67 = .ok (.aaload, 1) := by decide +kernel
theorem dX7_piece_68 : decode cX7_piece 68 = .ok (.invokevirtual 87, 3) := by decide +kernel
theorem dX7_piece_71 : decode cX7_piece 71 = .ok (.ifCond .eq 9, 3) := by decide +kernel
theorem dX7_piece_74 : decode cX7_piece 74 = .ok (.aload_n 0, 1) := by decide +kernel
theorem dX7_piece_75 : decode cX7_piece 75 = .ok (.iconst 4, 1) := by decide +kernel
theorem dX7_piece_76 : decode cX7_piece 76 = .ok (.invokevirtual 80, 3) := by decide +kernel
theorem dX7_piece_79 : decode cX7_piece 79 = .ok (.lreturn, 1) := by decide +kernel
theorem dX7_piece_80 : decode cX7_piece 80 = .ok (.aload_n 0, 1) := by decide +kernel
theorem dX7_piece_81 : decode cX7_piece 81 = .ok (.getfield 11, 3) := by decide +kernel
theorem dX7_piece_84 : decode cX7_piece 84 = .ok (.iload_n 1, 1) := by decide +kernel
theorem dX7_piece_85 : decode cX7_piece 85 = .ok (.aaload, 1) := by decide +kernel
theorem dX7_piece_86 : decode cX7_piece 86 = .ok (.iload_n 2, 1) := by decide +kernel
theorem dX7_piece_87 : decode cX7_piece 87 = .ok (.iload_n 3, 1) := by decide +kernel
theorem dX7_piece_88 : decode cX7_piece 88 = .ok (.iload 4, 2) := by decide +kernel
theorem dX7_piece_90 : decode cX7_piece 90 = .ok (.invokevirtual 91, 3) := by decide +kernel
theorem dX7_piece_93 : decode cX7_piece 93 = .ok (.i2l, 1) := by decide +kernel
theorem dX7_piece_94 : decode cX7_piece 94 = .ok (.lreturn, 1) := by decide +kernel
set_option maxRecDepth 20000 in
theorem ggX7_reset_X7_isWithin : GoodIn wsX7_reset wsX7_isWithin := goodIn_r _ [5] (by decide +kernel) (by decide +kernel)
set_option maxRecDepth 20000 in
theorem gX7_reset_X7_isWithin : GoodIn wsX7_reset (va_wsS RX7 69 yX7_isWithin wsX7_isWithin) := goodIn_app (goodIn_of _ (by decide +kernel)) ggX7_reset_X7_isWithin
set_option maxRecDepth 20000 in
theorem ggX7_reset_X7_finding : GoodIn wsX7_reset wsX7_finding := goodIn_r _ [9, 10, 11, 2, 3, 4, 5, 18, 19, 20, 21, 22, 23, 24, 25, 26, 27] (by decide +kernel) (by decide +kernel)
set_option maxRecDepth 20000 in
theorem gX7_reset_X7_finding : GoodIn wsX7_reset (wsV RX7 80 RX7 yX7_finding wsX7_finding) := goodIn_app (goodIn_of _ (by decide +kernel)) ggX7_reset_X7_finding
set_option maxRecDepth 20000 in
theorem ggX7_reset_X1_removeAll : GoodIn wsX7_reset wsX1_removeAll := goodIn_r _ [16, 17, 28, 29, 30, 31] (by decide +kernel) (by decide +kernel)
set_option maxRecDepth 20000 in
theorem gX7_reset_X1_removeAll : GoodIn wsX7_reset (wsV RX7 95 RX1 yX1_removeAll wsX1_removeAll) := goodIn_app (goodIn_of _ (by decide +kernel)) ggX7_reset_X1_removeAll
theorem dX7_reset_0 : decode cX7_reset 0 = .ok (.iload_n 1, 1) := by decide +kernel
theorem dX7_reset_1 : decode cX7_reset 1 = .ok (.iconst 0, 1) := by decide +kernel
theorem dX7_reset_2 : decode cX7_reset 2 = .ok (.iconst 3, 1) := by decide +kernel
theorem dX7_reset_3 : decode cX7_reset 3 = .ok (.invokestatic 69, 3) := by decide +kernel
theorem dX7_reset_6 : decode cX7_reset 6 = .ok (.ifCond .ne 9, 3) := by decide +kernel
theorem dX7_reset_9 : decode cX7_reset 9 = .ok (.aload_n 0, 1) := by decide +kernel
theorem dX7_reset_10 : decode cX7_reset 10 = .ok (.iconst 1, 1) := by decide +kernel
theorem dX7_reset_11 : decode cX7_reset 11 = .ok (.invokevirtual 80, 3) := by decide +kernel
theorem dX7_reset_14 : decode cX7_reset 14 = .ok (.lreturn, 1) := by decide +kernel
theorem dX7_reset_15 : decode cX7_reset 15 = .ok (.aload_n 0, 1) := by decide +kernel
theorem dX7_reset_16 : decode cX7_reset 16 = .ok (.getfield 11, 3) := by decide +kernel
theorem dX7_reset_19 : decode cX7_reset 19 = .ok (.iload_n 1, 1) := by decide +kernel
theorem dX7_reset_20 : decode cX7_reset 20 = .ok (.aaload, 1) := by decide +kernel
theorem dX7_reset_21 : decode cX7_reset 21 = .ok (.invokevirtual 95, 3) := by decide +kernel
theorem dX7_reset_24 : decode cX7_reset 24 = .ok (.i2l, 1) := by decide +kernel
theorem dX7_reset_25 : decode cX7_reset 25 = .ok (.lreturn, 1) := by decide +kernel
set_option maxRecDepth 20000 in
theorem ggX7_offset_X7_isWithin : GoodIn wsX7_offset wsX7_isWithin := goodIn_r _ [5] (by decide +kernel) (by decide +kernel)
set_option maxRecDepth 20000 in
theorem gX7_offset_X7_isWithin : GoodIn wsX7_offset (va_wsS RX7 69 yX7_isWithin wsX7_isWithin) := goodIn_app (goodIn_of _ (by decide +kernel)) ggX7_offset_X7_isWithin
set_option maxRecDepth 20000 in
theorem ggX7_offset_X7_isReading : GoodIn wsX7_offset wsX7_isReading := goodIn_r _ [8, 9, 2, 3, 4, 5] (by decide +kernel) (by decide +kernel)
set_option maxRecDepth 20000 in
theorem gX7_offset_X7_isReading : GoodIn wsX7_offset (va_wsS RX7 73 yX7_isReading wsX7_isReading) := goodIn_app (goodIn_of _ (by decide +kernel)) ggX7_offset_X7_isReading
set_option maxRecDepth 20000 in
theorem ggX7_offset_X7_finding : GoodIn wsX7_offset wsX7_finding := goodIn_r _ [13, 14, 15, 2, 3, 4, 5, 29, 30, 31, 32, 33, 34, 35, 36, 37, 38] (by decide +kernel) (by decide +kernel)
set_option maxRecDepth 20000 in
theorem gX7_offset_X7_finding : GoodIn wsX7_offset (wsV RX7 80 RX7 yX7_finding wsX7_finding) := goodIn_app (goodIn_of _ (by decide +kernel)) ggX7_offset_X7_finding
set_option maxRecDepth 20000 in
theorem ggX7_offset_X1_placeOf : GoodIn wsX7_offset wsX1_placeOf := goodIn_r _ [20, 21, 22, 39, 40, 41, 42] (by decide +kernel) (by decide +kernel)
set_option maxRecDepth 20000 in
theorem gX7_offset_X1_placeOf : GoodIn wsX7_offset (wsV RX7 99 RX1 yX1_placeOf wsX1_placeOf) := goodIn_app (goodIn_of _ (by decide +kernel)) ggX7_offset_X1_placeOf
set_option maxRecDepth 20000 in
theorem ggX7_offset_X1_shiftAt : GoodIn wsX7_offset wsX1_shiftAt := goodIn_r _ [26, 21, 27, 28, 3, 4, 5, 39, 40, 41, 42] (by decide +kernel) (by decide +kernel)
set_option maxRecDepth 20000 in
theorem gX7_offset_X1_shiftAt : GoodIn wsX7_offset (wsV RX7 103 RX1 yX1_shiftAt wsX1_shiftAt) := goodIn_app (goodIn_of _ (by decide +kernel)) ggX7_offset_X1_shiftAt
theorem dX7_offset_0 : decode cX7_offset 0 = .ok (.iload_n 1, 1) := by decide +kernel
theorem dX7_offset_1 : decode cX7_offset 1 = .ok (.iconst 0, 1) := by decide +kernel
theorem dX7_offset_2 : decode cX7_offset 2 = .ok (.iconst 3, 1) := by decide +kernel
theorem dX7_offset_3 : decode cX7_offset 3 = .ok (.invokestatic 69, 3) := by decide +kernel
theorem dX7_offset_6 : decode cX7_offset 6 = .ok (.ifCond .eq 10, 3) := by decide +kernel
theorem dX7_offset_9 : decode cX7_offset 9 = .ok (.iload_n 2, 1) := by decide +kernel
theorem dX7_offset_10 : decode cX7_offset 10 = .ok (.invokestatic 73, 3) := by decide +kernel
theorem dX7_offset_13 : decode cX7_offset 13 = .ok (.ifCond .ne 9, 3) := by decide +kernel
theorem dX7_offset_16 : decode cX7_offset 16 = .ok (.aload_n 0, 1) := by decide +kernel
theorem dX7_offset_17 : decode cX7_offset 17 = .ok (.iconst 1, 1) := by decide +kernel
theorem dX7_offset_18 : decode cX7_offset 18 = .ok (.invokevirtual 80, 3) := by decide +kernel
theorem dX7_offset_21 : decode cX7_offset 21 = .ok (.lreturn, 1) := by decide +kernel
theorem dX7_offset_22 : decode cX7_offset 22 = .ok (.aload_n 0, 1) := by decide +kernel
theorem dX7_offset_23 : decode cX7_offset 23 = .ok (.getfield 11, 3) := by decide +kernel
theorem dX7_offset_26 : decode cX7_offset 26 = .ok (.iload_n 1, 1) := by decide +kernel
theorem dX7_offset_27 : decode cX7_offset 27 = .ok (.aaload, 1) := by decide +kernel
theorem dX7_offset_28 : decode cX7_offset 28 = .ok (.iload_n 2, 1) := by decide +kernel
theorem dX7_offset_29 : decode cX7_offset 29 = .ok (.invokevirtual 99, 3) := by decide +kernel
theorem dX7_offset_32 : decode cX7_offset 32 = .ok (.istore 4, 2) := by decide +kernel
theorem dX7_offset_34 : decode cX7_offset 34 = .ok (.iload 4, 2) := by decide +kernel
theorem dX7_offset_36 : decode cX7_offset 36 = .ok (.iconst (-1), 1) := by decide +kernel
theorem dX7_offset_37 : decode cX7_offset 37 = .ok (.if_icmp .ne 9, 3) := by decide +kernel
theorem dX7_offset_40 : decode cX7_offset 40 = .ok (.aload_n 0, 1) := by decide +kernel
theorem dX7_offset_41 : decode cX7_offset 41 = .ok (.iconst 2, 1) := by decide +kernel
theorem dX7_offset_42 : decode cX7_offset 42 = .ok (.invokevirtual 80, 3) := by decide +kernel
theorem dX7_offset_45 : decode cX7_offset 45 = .ok (.lreturn, 1) := by decide +kernel
theorem dX7_offset_46 : decode cX7_offset 46 = .ok (.aload_n 0, 1) := by decide +kernel
theorem dX7_offset_47 : decode cX7_offset 47 = .ok (.getfield 11, 3) := by decide +kernel
theorem dX7_offset_50 : decode cX7_offset 50 = .ok (.iload_n 1, 1) := by decide +kernel
theorem dX7_offset_51 : decode cX7_offset 51 = .ok (.aaload, 1) := by decide +kernel
theorem dX7_offset_52 : decode cX7_offset 52 = .ok (.iload 4, 2) := by decide +kernel
theorem dX7_offset_54 : decode cX7_offset 54 = .ok (.iload_n 3, 1) := by decide +kernel
theorem dX7_offset_55 : decode cX7_offset 55 = .ok (.invokevirtual 103, 3) := by decide +kernel
theorem dX7_offset_58 : decode cX7_offset 58 = .ok (.i2l, 1) := by decide +kernel
theorem dX7_offset_59 : decode cX7_offset 59 = .ok (.lreturn, 1) := by decide +kernel
set_option maxRecDepth 20000 in
theorem ggX7_trace_X7_isWithin : GoodIn wsX7_trace wsX7_isWithin := goodIn_r _ [6] (by decide +kernel) (by decide +kernel)
set_option maxRecDepth 20000 in
theorem gX7_trace_X7_isWithin : GoodIn wsX7_trace (va_wsS RX7 69 yX7_isWithin wsX7_isWithin) := goodIn_app (goodIn_of _ (by decide +kernel)) ggX7_trace_X7_isWithin
set_option maxRecDepth 20000 in
theorem ggX7_trace_X7_isReading : GoodIn wsX7_trace wsX7_isReading := goodIn_r _ [9, 10, 3, 4, 5, 6] (by decide +kernel) (by decide +kernel)
set_option maxRecDepth 20000 in
theorem gX7_trace_X7_isReading : GoodIn wsX7_trace (va_wsS RX7 73 yX7_isReading wsX7_isReading) := goodIn_app (goodIn_of _ (by decide +kernel)) ggX7_trace_X7_isReading
set_option maxRecDepth 20000 in
theorem ggX7_trace_X7_finding : GoodIn wsX7_trace wsX7_finding := goodIn_r _ [14, 15, 16, 3, 4, 5, 6, 44, 45, 46, 47, 48, 49, 50, 51, 52, 53] (by decide +kernel) (by decide +kernel)
set_option maxRecDepth 20000 in
theorem gX7_trace_X7_finding : GoodIn wsX7_trace (wsV RX7 80 RX7 yX7_finding wsX7_finding) := goodIn_app (goodIn_of _ (by decide +kernel)) ggX7_trace_X7_finding
set_option maxRecDepth 20000 in
theorem ggX7_trace_X6_isFull : GoodIn wsX7_trace wsX6_isFull := goodIn_r _ [21, 22, 54, 55, 56, 57, 58, 59, 60] (by decide +kernel) (by decide +kernel)
set_option maxRecDepth 20000 in
theorem gX7_trace_X6_isFull : GoodIn wsX7_trace (wsV RX7 107 RX6 yX6_isFull wsX6_isFull) := goodIn_app (goodIn_of _ (by decide +kernel)) ggX7_trace_X6_isFull
set_option maxRecDepth 20000 in
theorem ggX7_trace_X3_outdate : GoodIn wsX7_trace wsX3_outdate := goodIn_r _ [27, 28, 61, 62, 63, 64, 65, 66, 67, 68, 69] (by decide +kernel) (by decide +kernel)
set_option maxRecDepth 20000 in
theorem gX7_trace_X3_outdate : GoodIn wsX7_trace (wsV RX7 108 RX3 yX3_outdate wsX3_outdate) := goodIn_app (goodIn_of _ (by decide +kernel)) ggX7_trace_X3_outdate
set_option maxRecDepth 20000 in
theorem ggX7_trace_X6_append : GoodIn wsX7_trace wsX6_append := goodIn_r _ [32, 22, 33, 34, 35, 36, 37, 18, 19, 20, 21, 38, 39, 40, 41, 42, 43, 54, 55, 56, 57, 58, 59, 60] (by decide +kernel) (by decide +kernel)
set_option maxRecDepth 20000 in
theorem gX7_trace_X6_append : GoodIn wsX7_trace (wsV RX7 111 RX6 yX6_append wsX6_append) := goodIn_app (goodIn_of _ (by decide +kernel)) ggX7_trace_X6_append
theorem dX7_trace_0 : decode cX7_trace 0 = .ok (.iload_n 1, 1) := by decide +kernel
theorem dX7_trace_1 : decode cX7_trace 1 = .ok (.iconst 0, 1) := by decide +kernel
theorem dX7_trace_2 : decode cX7_trace 2 = .ok (.iconst 2, 1) := by decide +kernel
theorem dX7_trace_3 : decode cX7_trace 3 = .ok (.invokestatic 69, 3) := by decide +kernel
theorem dX7_trace_6 : decode cX7_trace 6 = .ok (.ifCond .eq 30, 3) := by decide +kernel
theorem dX7_trace_9 : decode cX7_trace 9 = .ok (.iload_n 2, 1) := by decide +kernel
theorem dX7_trace_10 : decode cX7_trace 10 = .ok (.iconst 0, 1) := by decide +kernel
theorem dX7_trace_11 : decode cX7_trace 11 = .ok (.iconst 3, 1) := by decide +kernel
theorem dX7_trace_12 : decode cX7_trace 12 = .ok (.invokestatic 69, 3) := by decide +kernel
theorem dX7_trace_15 : decode cX7_trace 15 = .ok (.ifCond .eq 21, 3) := by decide +kernel
theorem dX7_trace_18 : decode cX7_trace 18 = .ok (.iload_n 3, 1) := by decide +kernel
theorem dX7_trace_19 : decode cX7_trace 19 = .ok (.invokestatic 73, 3) := by decide +kernel
theorem dX7_trace_22 : decode cX7_trace 22 = .ok (.ifCond .eq 14, 3) := by decide +kernel
theorem dX7_trace_25 : decode cX7_trace 25 = .ok (.iload 4, 2) := by decide +kernel
theorem dX7_trace_27 : decode cX7_trace 27 = .ok (.iconst 0, 1) := by decide +kernel
theorem dX7_trace_28 : decode cX7_trace 28 = .ok (.bipush 15, 2) := by decide +kernel
theorem dX7_trace_30 : decode cX7_trace 30 = .ok (.invokestatic 69, 3) := by decide +kernel
theorem dX7_trace_33 : decode cX7_trace 33 = .ok (.ifCond .ne 9, 3) := by decide +kernel
theorem dX7_trace_36 : decode cX7_trace 36 = .ok (.aload_n 0, 1) := by decide +kernel
theorem dX7_trace_37 : decode cX7_trace 37 = .ok (.iconst 1, 1) := by decide +kernel
theorem dX7_trace_38 : decode cX7_trace 38 = .ok (.invokevirtual 80, 3) := by decide +kernel
theorem dX7_trace_41 : decode cX7_trace 41 = .ok (.lreturn, 1) := by decide +kernel
theorem dX7_trace_42 : decode cX7_trace 42 = .ok (.aload_n 0, 1) := by decide +kernel
theorem dX7_trace_43 : decode cX7_trace 43 = .ok (.getfield 19, 3) := by decide +kernel
theorem dX7_trace_46 : decode cX7_trace 46 = .ok (.invokevirtual 107, 3) := by decide +kernel
theorem dX7_trace_49 : decode cX7_trace 49 = .ok (.ifCond .eq 9, 3) := by decide +kernel
theorem dX7_trace_52 : decode cX7_trace 52 = .ok (.aload_n 0, 1) := by decide +kernel
theorem dX7_trace_53 : decode cX7_trace 53 = .ok (.iconst 4, 1) := by decide +kernel
theorem dX7_trace_54 : decode cX7_trace 54 = .ok (.invokevirtual 80, 3) := by decide +kernel
theorem dX7_trace_57 : decode cX7_trace 57 = .ok (.lreturn, 1) := by decide +kernel
theorem dX7_trace_58 : decode cX7_trace 58 = .ok (.aload_n 0, 1) := by decide +kernel
theorem dX7_trace_59 : decode cX7_trace 59 = .ok (.getfield 54, 3) := by decide +kernel
theorem dX7_trace_62 : decode cX7_trace 62 = .ok (.invokevirtual 108, 3) := by decide +kernel
theorem dX7_trace_65 : decode cX7_trace 65 = .ok (.aload_n 0, 1) := by decide +kernel
theorem dX7_trace_66 : decode cX7_trace 66 = .ok (.getfield 19, 3) := by decide +kernel
theorem dX7_trace_69 : decode cX7_trace 69 = .ok (.iload_n 1, 1) := by decide +kernel
theorem dX7_trace_70 : decode cX7_trace 70 = .ok (.iload_n 2, 1) := by decide +kernel
theorem dX7_trace_71 : decode cX7_trace 71 = .ok (.iload_n 3, 1) := by decide +kernel
theorem dX7_trace_72 : decode cX7_trace 72 = .ok (.iload 4, 2) := by decide +kernel
theorem dX7_trace_74 : decode cX7_trace 74 = .ok (.invokevirtual 111, 3) := by decide +kernel
theorem dX7_trace_77 : decode cX7_trace 77 = .ok (.i2l, 1) := by decide +kernel
theorem dX7_trace_78 : decode cX7_trace 78 = .ok (.lreturn, 1) := by decide +kernel
set_option maxRecDepth 20000 in
theorem ggX7_drop_X6_size : GoodIn wsX7_drop wsX6_size := goodIn_r _ [8, 9, 61, 62, 63, 64, 65, 66, 67] (by decide +kernel) (by decide +kernel)
set_option maxRecDepth 20000 in
theorem gX7_drop_X6_size : GoodIn wsX7_drop (wsV RX7 114 RX6 yX6_size wsX6_size) := goodIn_app (goodIn_of _ (by decide +kernel)) ggX7_drop_X6_size
set_option maxRecDepth 20000 in
theorem ggX7_drop_X7_finding : GoodIn wsX7_drop wsX7_finding := goodIn_r _ [14, 15, 16, 17, 18, 13, 19, 51, 52, 53, 54, 55, 56, 57, 58, 59, 60] (by decide +kernel) (by decide +kernel)
set_option maxRecDepth 20000 in
theorem gX7_drop_X7_finding : GoodIn wsX7_drop (wsV RX7 80 RX7 yX7_finding wsX7_finding) := goodIn_app (goodIn_of _ (by decide +kernel)) ggX7_drop_X7_finding
set_option maxRecDepth 20000 in
theorem ggX7_drop_X3_outdate : GoodIn wsX7_drop wsX3_outdate := goodIn_r _ [24, 25, 68, 69, 70, 71, 72, 73, 74, 75, 76] (by decide +kernel) (by decide +kernel)
set_option maxRecDepth 20000 in
theorem gX7_drop_X3_outdate : GoodIn wsX7_drop (wsV RX7 108 RX3 yX3_outdate wsX3_outdate) := goodIn_app (goodIn_of _ (by decide +kernel)) ggX7_drop_X3_outdate
set_option maxRecDepth 20000 in
theorem ggX7_drop_X6_removeLast : GoodIn wsX7_drop wsX6_removeLast := goodIn_r _ [29, 9, 30, 31, 32, 7, 33, 34, 35, 36, 37, 61, 62, 63, 64, 65, 66, 67] (by decide +kernel) (by decide +kernel)
set_option maxRecDepth 20000 in
theorem gX7_drop_X6_removeLast : GoodIn wsX7_drop (wsV RX7 117 RX6 yX6_removeLast wsX6_removeLast) := goodIn_app (goodIn_of _ (by decide +kernel)) ggX7_drop_X6_removeLast
set_option maxRecDepth 20000 in
theorem ggX7_drop_X5_removeAllOf : GoodIn wsX7_drop wsX5_removeAllOf := goodIn_r _ [42, 43, 44, 45, 46, 47, 48, 41, 49, 50, 77, 78, 79, 80] (by decide +kernel) (by decide +kernel)
set_option maxRecDepth 20000 in
theorem gX7_drop_X5_removeAllOf : GoodIn wsX7_drop (wsV RX7 120 RX5 yX5_removeAllOf wsX5_removeAllOf) := goodIn_app (goodIn_of _ (by decide +kernel)) ggX7_drop_X5_removeAllOf
theorem dX7_drop_0 : decode cX7_drop 0 = .ok (.aload_n 0, 1) := by decide +kernel
theorem dX7_drop_1 : decode cX7_drop 1 = .ok (.getfield 19, 3) := by decide +kernel
theorem dX7_drop_4 : decode cX7_drop 4 = .ok (.invokevirtual 114, 3) := by decide +kernel
theorem dX7_drop_7 : decode cX7_drop 7 = .ok (.ifCond .ne 9, 3) := by decide +kernel
theorem dX7_drop_10 : decode cX7_drop 10 = .ok (.aload_n 0, 1) := by decide +kernel
theorem dX7_drop_11 : decode cX7_drop 11 = .ok (.iconst 2, 1) := by decide +kernel
theorem dX7_drop_12 : decode cX7_drop 12 = .ok (.invokevirtual 80, 3) := by decide +kernel
theorem dX7_drop_15 : decode cX7_drop 15 = .ok (.lreturn, 1) := by decide +kernel
theorem dX7_drop_16 : decode cX7_drop 16 = .ok (.aload_n 0, 1) := by decide +kernel
theorem dX7_drop_17 : decode cX7_drop 17 = .ok (.getfield 54, 3) := by decide +kernel
theorem dX7_drop_20 : decode cX7_drop 20 = .ok (.invokevirtual 108, 3) := by decide +kernel
theorem dX7_drop_23 : decode cX7_drop 23 = .ok (.aload_n 0, 1) := by decide +kernel
theorem dX7_drop_24 : decode cX7_drop 24 = .ok (.getfield 19, 3) := by decide +kernel
theorem dX7_drop_27 : decode cX7_drop 27 = .ok (.invokevirtual 117, 3) := by decide +kernel
theorem dX7_drop_30 : decode cX7_drop 30 = .ok (.istore_n 1, 1) := by decide +kernel
theorem dX7_drop_31 : decode cX7_drop 31 = .ok (.aload_n 0, 1) := by decide +kernel
theorem dX7_drop_32 : decode cX7_drop 32 = .ok (.getfield 26, 3) := by decide +kernel
theorem dX7_drop_35 : decode cX7_drop 35 = .ok (.iload_n 1, 1) := by decide +kernel
theorem dX7_drop_36 : decode cX7_drop 36 = .ok (.invokevirtual 120, 3) := by decide +kernel
theorem dX7_drop_39 : decode cX7_drop 39 = .ok (.iload_n 1, 1) := by decide +kernel
theorem dX7_drop_40 : decode cX7_drop 40 = .ok (.i2l, 1) := by decide +kernel
theorem dX7_drop_41 : decode cX7_drop 41 = .ok (.lreturn, 1) := by decide +kernel
set_option maxRecDepth 20000 in
theorem ggX7_about_X6_has : GoodIn wsX7_about wsX6_has := goodIn_r _ [6, 7, 8, 9, 10, 49, 50, 51, 52, 53, 54, 55] (by decide +kernel) (by decide +kernel)
set_option maxRecDepth 20000 in
theorem gX7_about_X6_has : GoodIn wsX7_about (wsV RX7 124 RX6 yX6_has wsX6_has) := goodIn_app (goodIn_of _ (by decide +kernel)) ggX7_about_X6_has
set_option maxRecDepth 20000 in
theorem ggX7_about_X7_finding : GoodIn wsX7_about wsX7_finding := goodIn_r _ [14, 15, 16, 17, 8, 9, 10, 39, 40, 41, 42, 43, 44, 45, 46, 47, 48] (by decide +kernel) (by decide +kernel)
set_option maxRecDepth 20000 in
theorem gX7_about_X7_finding : GoodIn wsX7_about (wsV RX7 80 RX7 yX7_finding wsX7_finding) := goodIn_app (goodIn_of _ (by decide +kernel)) ggX7_about_X7_finding
set_option maxRecDepth 20000 in
theorem ggX7_about_X6_kindOf : GoodIn wsX7_about wsX6_kindOf := goodIn_r _ [21, 22, 23, 3, 4, 5, 6, 7, 8, 9, 10, 49, 50, 51, 52, 53, 54, 55] (by decide +kernel) (by decide +kernel)
set_option maxRecDepth 20000 in
theorem gX7_about_X6_kindOf : GoodIn wsX7_about (wsV RX7 127 RX6 yX6_kindOf wsX6_kindOf) := goodIn_app (goodIn_of _ (by decide +kernel)) ggX7_about_X6_kindOf
set_option maxRecDepth 20000 in
theorem ggX7_about_X6_clockOf : GoodIn wsX7_about wsX6_clockOf := goodIn_r _ [27, 28, 23, 3, 4, 5, 6, 7, 8, 9, 10, 49, 50, 51, 52, 53, 54, 55] (by decide +kernel) (by decide +kernel)
set_option maxRecDepth 20000 in
theorem gX7_about_X6_clockOf : GoodIn wsX7_about (wsV RX7 130 RX6 yX6_clockOf wsX6_clockOf) := goodIn_app (goodIn_of _ (by decide +kernel)) ggX7_about_X6_clockOf
set_option maxRecDepth 20000 in
theorem ggX7_about_X6_readingOf : GoodIn wsX7_about wsX6_readingOf := goodIn_r _ [32, 33, 23, 3, 4, 5, 6, 7, 8, 9, 10, 49, 50, 51, 52, 53, 54, 55] (by decide +kernel) (by decide +kernel)
set_option maxRecDepth 20000 in
theorem gX7_about_X6_readingOf : GoodIn wsX7_about (wsV RX7 133 RX6 yX6_readingOf wsX6_readingOf) := goodIn_app (goodIn_of _ (by decide +kernel)) ggX7_about_X6_readingOf
set_option maxRecDepth 20000 in
theorem ggX7_about_X6_markOf : GoodIn wsX7_about wsX6_markOf := goodIn_r _ [37, 38, 23, 3, 4, 5, 6, 7, 8, 9, 10, 49, 50, 51, 52, 53, 54, 55] (by decide +kernel) (by decide +kernel)
set_option maxRecDepth 20000 in
theorem gX7_about_X6_markOf : GoodIn wsX7_about (wsV RX7 136 RX6 yX6_markOf wsX6_markOf) := goodIn_app (goodIn_of _ (by decide +kernel)) ggX7_about_X6_markOf
theorem dX7_about_0 : decode cX7_about 0 = .ok (.aload_n 0, 1) := by decide +kernel
theorem dX7_about_1 : decode cX7_about 1 = .ok (.getfield 19, 3) := by decide +kernel
theorem dX7_about_4 : decode cX7_about 4 = .ok (.iload_n 1, 1) := by decide +kernel
theorem dX7_about_5 : decode cX7_about 5 = .ok (.invokevirtual 124, 3) := by decide +kernel
theorem dX7_about_8 : decode cX7_about 8 = .ok (.ifCond .ne 9, 3) := by decide +kernel
theorem dX7_about_11 : decode cX7_about 11 = .ok (.aload_n 0, 1) := by decide +kernel
theorem dX7_about_12 : decode cX7_about 12 = .ok (.iconst 1, 1) := by decide +kernel
theorem dX7_about_13 : decode cX7_about 13 = .ok (.invokevirtual 80, 3) := by decide +kernel
theorem dX7_about_16 : decode cX7_about 16 = .ok (.lreturn, 1) := by decide +kernel
theorem dX7_about_17 : decode cX7_about 17 = .ok (.iload_n 2, 1) := by decide +kernel
theorem dX7_about_18 : decode cX7_about 18 = .ok (.tableswitch 70 0 3 #[30, 40, 50, 60], 30) := by decide +kernel
theorem dX7_about_48 : decode cX7_about 48 = .ok (.aload_n 0, 1) := by decide +kernel
theorem dX7_about_49 : decode cX7_about 49 = .ok (.getfield 19, 3) := by decide +kernel
theorem dX7_about_52 : decode cX7_about 52 = .ok (.iload_n 1, 1) := by decide +kernel
theorem dX7_about_53 : decode cX7_about 53 = .ok (.invokevirtual 127, 3) := by decide +kernel
theorem dX7_about_56 : decode cX7_about 56 = .ok (.i2l, 1) := by decide +kernel
theorem dX7_about_57 : decode cX7_about 57 = .ok (.lreturn, 1) := by decide +kernel
theorem dX7_about_58 : decode cX7_about 58 = .ok (.aload_n 0, 1) := by decide +kernel
theorem dX7_about_59 : decode cX7_about 59 = .ok (.getfield 19, 3) := by decide +kernel
theorem dX7_about_62 : decode cX7_about 62 = .ok (.iload_n 1, 1) := by decide +kernel
theorem dX7_about_63 : decode cX7_about 63 = .ok (.invokevirtual 130, 3) := by decide +kernel
theorem dX7_about_66 : decode cX7_about 66 = .ok (.i2l, 1) := by decide +kernel
theorem dX7_about_67 : decode cX7_about 67 = .ok (.lreturn, 1) := by decide +kernel
theorem dX7_about_68 : decode cX7_about 68 = .ok (.aload_n 0, 1) := by decide +kernel
theorem dX7_about_69 : decode cX7_about 69 = .ok (.getfield 19, 3) := by decide +kernel
theorem dX7_about_72 : decode cX7_about 72 = .ok (.iload_n 1, 1) := by decide +kernel
theorem dX7_about_73 : decode cX7_about 73 = .ok (.invokevirtual 133, 3) := by decide +kernel
theorem dX7_about_76 : decode cX7_about 76 = .ok (.i2l, 1) := by decide +kernel
theorem dX7_about_77 : decode cX7_about 77 = .ok (.lreturn, 1) := by decide +kernel
theorem dX7_about_78 : decode cX7_about 78 = .ok (.aload_n 0, 1) := by decide +kernel
theorem dX7_about_79 : decode cX7_about 79 = .ok (.getfield 19, 3) := by decide +kernel
theorem dX7_about_82 : decode cX7_about 82 = .ok (.iload_n 1, 1) := by decide +kernel
theorem dX7_about_83 : decode cX7_about 83 = .ok (.invokevirtual 136, 3) := by decide +kernel
theorem dX7_about_86 : decode cX7_about 86 = .ok (.i2l, 1) := by decide +kernel
theorem dX7_about_87 : decode cX7_about 87 = .ok (.lreturn, 1) := by decide +kernel
theorem dX7_about_88 : decode cX7_about 88 = .ok (.aload_n 0, 1) := by decide +kernel
theorem dX7_about_89 : decode cX7_about 89 = .ok (.iconst 1, 1) := by decide +kernel
theorem dX7_about_90 : decode cX7_about 90 = .ok (.invokevirtual 80, 3) := by decide +kernel
theorem dX7_about_93 : decode cX7_about 93 = .ok (.lreturn, 1) := by decide +kernel
set_option maxRecDepth 20000 in
theorem ggX7_as_X6_has : GoodIn wsX7_as wsX6_has := goodIn_r _ [6, 7, 8, 9, 10, 39, 40, 41, 42, 43, 44, 45] (by decide +kernel) (by decide +kernel)
set_option maxRecDepth 20000 in
theorem gX7_as_X6_has : GoodIn wsX7_as (wsV RX7 124 RX6 yX6_has wsX6_has) := goodIn_app (goodIn_of _ (by decide +kernel)) ggX7_as_X6_has
set_option maxRecDepth 20000 in
theorem ggX7_as_X7_isWithin : GoodIn wsX7_as wsX7_isWithin := goodIn_r _ [10] (by decide +kernel) (by decide +kernel)
set_option maxRecDepth 20000 in
theorem gX7_as_X7_isWithin : GoodIn wsX7_as (va_wsS RX7 69 yX7_isWithin wsX7_isWithin) := goodIn_app (goodIn_of _ (by decide +kernel)) ggX7_as_X7_isWithin
set_option maxRecDepth 20000 in
theorem ggX7_as_X7_finding : GoodIn wsX7_as wsX7_finding := goodIn_r _ [15, 16, 17, 11, 8, 9, 10, 29, 30, 31, 32, 33, 34, 35, 36, 37, 38] (by decide +kernel) (by decide +kernel)
set_option maxRecDepth 20000 in
theorem gX7_as_X7_finding : GoodIn wsX7_as (wsV RX7 80 RX7 yX7_finding wsX7_finding) := goodIn_app (goodIn_of _ (by decide +kernel)) ggX7_as_X7_finding
set_option maxRecDepth 20000 in
theorem ggX7_as_X6_kindOf : GoodIn wsX7_as wsX6_kindOf := goodIn_r _ [21, 22, 23, 3, 4, 5, 6, 7, 8, 9, 10, 39, 40, 41, 42, 43, 44, 45] (by decide +kernel) (by decide +kernel)
set_option maxRecDepth 20000 in
theorem gX7_as_X6_kindOf : GoodIn wsX7_as (wsV RX7 127 RX6 yX6_kindOf wsX6_kindOf) := goodIn_app (goodIn_of _ (by decide +kernel)) ggX7_as_X6_kindOf
set_option maxRecDepth 20000 in
theorem ggX7_as_X6_markOf : GoodIn wsX7_as wsX6_markOf := goodIn_r _ [27, 28, 23, 3, 4, 5, 6, 7, 8, 9, 10, 39, 40, 41, 42, 43, 44, 45] (by decide +kernel) (by decide +kernel)
set_option maxRecDepth 20000 in
theorem gX7_as_X6_markOf : GoodIn wsX7_as (wsV RX7 136 RX6 yX6_markOf wsX6_markOf) := goodIn_app (goodIn_of _ (by decide +kernel)) ggX7_as_X6_markOf
theorem dX7_as_0 : decode cX7_as 0 = .ok (.aload_n 0, 1) := by decide +kernel
theorem dX7_as_1 : decode cX7_as 1 = .ok (.getfield 19, 3) := by decide +kernel
theorem dX7_as_4 : decode cX7_as 4 = .ok (.iload_n 1, 1) := by decide +kernel
theorem dX7_as_5 : decode cX7_as 5 = .ok (.invokevirtual 124, 3) := by decide +kernel
theorem dX7_as_8 : decode cX7_as 8 = .ok (.ifCond .eq 12, 3) := by decide +kernel
theorem dX7_as_11 : decode cX7_as 11 = .ok (.iload_n 2, 1) := by decide +kernel
theorem dX7_as_12 : decode cX7_as 12 = .ok (.iconst 0, 1) := by decide +kernel
theorem dX7_as_13 : decode cX7_as 13 = .ok (.iconst 2, 1) := by decide +kernel
theorem dX7_as_14 : decode cX7_as 14 = .ok (.invokestatic 69, 3) := by decide +kernel
theorem dX7_as_17 : decode cX7_as 17 = .ok (.ifCond .ne 9, 3) := by decide +kernel
theorem dX7_as_20 : decode cX7_as 20 = .ok (.aload_n 0, 1) := by decide +kernel
theorem dX7_as_21 : decode cX7_as 21 = .ok (.iconst 1, 1) := by decide +kernel
theorem dX7_as_22 : decode cX7_as 22 = .ok (.invokevirtual 80, 3) := by decide +kernel
theorem dX7_as_25 : decode cX7_as 25 = .ok (.lreturn, 1) := by decide +kernel
theorem dX7_as_26 : decode cX7_as 26 = .ok (.iload_n 2, 1) := by decide +kernel
theorem dX7_as_27 : decode cX7_as 27 = .ok (.ifCond .eq 21, 3) := by decide +kernel
theorem dX7_as_30 : decode cX7_as 30 = .ok (.iload_n 2, 1) := by decide +kernel
theorem dX7_as_31 : decode cX7_as 31 = .ok (.aload_n 0, 1) := by decide +kernel
theorem dX7_as_32 : decode cX7_as 32 = .ok (.getfield 19, 3) := by decide +kernel
theorem dX7_as_35 : decode cX7_as 35 = .ok (.iload_n 1, 1) := by decide +kernel
theorem dX7_as_36 : decode cX7_as 36 = .ok (.invokevirtual 127, 3) := by decide +kernel
theorem dX7_as_39 : decode cX7_as 39 = .ok (.if_icmp .eq 9, 3) := by decide +kernel
theorem dX7_as_42 : decode cX7_as 42 = .ok (.aload_n 0, 1) := by decide +kernel
theorem dX7_as_43 : decode cX7_as 43 = .ok (.iconst 3, 1) := by decide +kernel
theorem dX7_as_44 : decode cX7_as 44 = .ok (.invokevirtual 80, 3) := by decide +kernel
theorem dX7_as_47 : decode cX7_as 47 = .ok (.lreturn, 1) := by decide +kernel
theorem dX7_as_48 : decode cX7_as 48 = .ok (.aload_n 0, 1) := by decide +kernel
theorem dX7_as_49 : decode cX7_as 49 = .ok (.getfield 19, 3) := by decide +kernel
theorem dX7_as_52 : decode cX7_as 52 = .ok (.iload_n 1, 1) := by decide +kernel
theorem dX7_as_53 : decode cX7_as 53 = .ok (.invokevirtual 136, 3) := by decide +kernel
theorem dX7_as_56 : decode cX7_as 56 = .ok (.i2l, 1) := by decide +kernel
theorem dX7_as_57 : decode cX7_as 57 = .ok (.lreturn, 1) := by decide +kernel
set_option maxRecDepth 20000 in
theorem ggX7_span_X6_has : GoodIn wsX7_span wsX6_has := goodIn_r _ [6, 7, 8, 9, 10, 71, 72, 73, 74, 75, 76, 77] (by decide +kernel) (by decide +kernel)
set_option maxRecDepth 20000 in
theorem gX7_span_X6_has : GoodIn wsX7_span (wsV RX7 124 RX6 yX6_has wsX6_has) := goodIn_app (goodIn_of _ (by decide +kernel)) ggX7_span_X6_has
set_option maxRecDepth 20000 in
theorem ggX7_span_X7_finding : GoodIn wsX7_span wsX7_finding := goodIn_r _ [14, 15, 16, 17, 8, 9, 10, 61, 62, 63, 64, 65, 66, 67, 68, 69, 70] (by decide +kernel) (by decide +kernel)
set_option maxRecDepth 20000 in
theorem gX7_span_X7_finding : GoodIn wsX7_span (wsV RX7 80 RX7 yX7_finding wsX7_finding) := goodIn_app (goodIn_of _ (by decide +kernel)) ggX7_span_X7_finding
set_option maxRecDepth 20000 in
theorem ggX7_span_X7_spanEnd : GoodIn wsX7_span wsX7_spanEnd := goodIn_r _ [21, 22, 1, 23, 24, 25, 26, 27, 5, 28, 29, 30, 3, 4, 6, 7, 8, 9, 10, 31, 32, 33, 34, 35, 36, 37, 38, 39, 40, 41, 42, 43, 44, 45, 46, 47, 48, 49, 50, 51, 52, 53, 61, 62, 63, 64, 65, 66, 67, 68, 69, 70, 71, 72, 73, 74, 75, 76, 77, 78, 79, 80, 81] (by decide +kernel) (by decide +kernel)
set_option maxRecDepth 20000 in
theorem gX7_span_X7_spanEnd : GoodIn wsX7_span (wsV RX7 139 RX7 yX7_spanEnd wsX7_spanEnd) := goodIn_app (goodIn_of _ (by decide +kernel)) ggX7_span_X7_spanEnd
set_option maxRecDepth 20000 in
theorem ggX7_span_X7_endOrNone : GoodIn wsX7_span wsX7_endOrNone := goodIn_r _ [57, 58, 59, 9, 60, 24, 23, 11, 12, 13, 14, 15, 16, 17, 8, 10, 61, 62, 63, 64, 65, 66, 67, 68, 69, 70] (by decide +kernel) (by decide +kernel)
set_option maxRecDepth 20000 in
theorem gX7_span_X7_endOrNone : GoodIn wsX7_span (wsV RX7 143 RX7 yX7_endOrNone wsX7_endOrNone) := goodIn_app (goodIn_of _ (by decide +kernel)) ggX7_span_X7_endOrNone
theorem dX7_span_0 : decode cX7_span 0 = .ok (.aload_n 0, 1) := by decide +kernel
theorem dX7_span_1 : decode cX7_span 1 = .ok (.getfield 19, 3) := by decide +kernel
theorem dX7_span_4 : decode cX7_span 4 = .ok (.iload_n 1, 1) := by decide +kernel
theorem dX7_span_5 : decode cX7_span 5 = .ok (.invokevirtual 124, 3) := by decide +kernel
theorem dX7_span_8 : decode cX7_span 8 = .ok (.ifCond .ne 9, 3) := by decide +kernel
theorem dX7_span_11 : decode cX7_span 11 = .ok (.aload_n 0, 1) := by decide +kernel
theorem dX7_span_12 : decode cX7_span 12 = .ok (.iconst 1, 1) := by decide +kernel
theorem dX7_span_13 : decode cX7_span 13 = .ok (.invokevirtual 80, 3) := by decide +kernel
theorem dX7_span_16 : decode cX7_span 16 = .ok (.lreturn, 1) := by decide +kernel
theorem dX7_span_17 : decode cX7_span 17 = .ok (.aload_n 0, 1) := by decide +kernel
theorem dX7_span_18 : decode cX7_span 18 = .ok (.aload_n 0, 1) := by decide +kernel
theorem dX7_span_19 : decode cX7_span 19 = .ok (.iload_n 1, 1) := by decide +kernel
theorem dX7_span_20 : decode cX7_span 20 = .ok (.iload_n 2, 1) := by decide +kernel
theorem dX7_span_21 : decode cX7_span 21 = .ok (.invokevirtual 139, 3) := by decide +kernel
theorem dX7_span_24 : decode cX7_span 24 = .ok (.invokevirtual 143, 3) := by decide +kernel
theorem dX7_span_27 : decode cX7_span 27 = .ok (.lreturn, 1) := by decide +kernel
set_option maxRecDepth 20000 in
theorem ggX7_tie_X7_areTwoTraces : GoodIn wsX7_tie wsX7_areTwoTraces := goodIn_r _ [6, 7, 8, 9, 10, 11, 12, 13, 14, 5, 15, 42, 43, 44, 45, 46, 47, 48, 49, 50, 51, 52, 53, 54, 55, 56, 57, 58] (by decide +kernel) (by decide +kernel)
set_option maxRecDepth 20000 in
theorem gX7_tie_X7_areTwoTraces : GoodIn wsX7_tie (wsV RX7 147 RX7 yX7_areTwoTraces wsX7_areTwoTraces) := goodIn_app (goodIn_of _ (by decide +kernel)) ggX7_tie_X7_areTwoTraces
set_option maxRecDepth 20000 in
theorem ggX7_tie_X7_isShift : GoodIn wsX7_tie wsX7_isShift := goodIn_r _ [18, 19, 20, 21, 14, 5, 15] (by decide +kernel) (by decide +kernel)
set_option maxRecDepth 20000 in
theorem gX7_tie_X7_isShift : GoodIn wsX7_tie (va_wsS RX7 77 yX7_isShift wsX7_isShift) := goodIn_app (goodIn_of _ (by decide +kernel)) ggX7_tie_X7_isShift
set_option maxRecDepth 20000 in
theorem ggX7_tie_X7_finding : GoodIn wsX7_tie wsX7_finding := goodIn_r _ [25, 26, 27, 21, 14, 5, 15, 42, 43, 44, 45, 46, 47, 48, 49, 50, 51] (by decide +kernel) (by decide +kernel)
set_option maxRecDepth 20000 in
theorem gX7_tie_X7_finding : GoodIn wsX7_tie (wsV RX7 80 RX7 yX7_finding wsX7_finding) := goodIn_app (goodIn_of _ (by decide +kernel)) ggX7_tie_X7_finding
set_option maxRecDepth 20000 in
theorem ggX7_tie_X5_isFull : GoodIn wsX7_tie wsX5_isFull := goodIn_r _ [32, 33, 59, 60, 61, 62] (by decide +kernel) (by decide +kernel)
set_option maxRecDepth 20000 in
theorem gX7_tie_X5_isFull : GoodIn wsX7_tie (wsV RX7 151 RX5 yX5_isFull wsX5_isFull) := goodIn_app (goodIn_of _ (by decide +kernel)) ggX7_tie_X5_isFull
set_option maxRecDepth 20000 in
theorem ggX7_tie_X5_append : GoodIn wsX7_tie wsX5_append := goodIn_r _ [37, 38, 33, 39, 40, 41, 29, 30, 31, 32, 59, 60, 61, 62] (by decide +kernel) (by decide +kernel)
set_option maxRecDepth 20000 in
theorem gX7_tie_X5_append : GoodIn wsX7_tie (wsV RX7 152 RX5 yX5_append wsX5_append) := goodIn_app (goodIn_of _ (by decide +kernel)) ggX7_tie_X5_append
theorem dX7_tie_0 : decode cX7_tie 0 = .ok (.aload_n 0, 1) := by decide +kernel
theorem dX7_tie_1 : decode cX7_tie 1 = .ok (.iload_n 1, 1) := by decide +kernel
theorem dX7_tie_2 : decode cX7_tie 2 = .ok (.iload_n 2, 1) := by decide +kernel
theorem dX7_tie_3 : decode cX7_tie 3 = .ok (.invokevirtual 147, 3) := by decide +kernel
theorem dX7_tie_6 : decode cX7_tie 6 = .ok (.ifCond .eq 10, 3) := by decide +kernel
theorem dX7_tie_9 : decode cX7_tie 9 = .ok (.iload_n 3, 1) := by decide +kernel
theorem dX7_tie_10 : decode cX7_tie 10 = .ok (.invokestatic 77, 3) := by decide +kernel
theorem dX7_tie_13 : decode cX7_tie 13 = .ok (.ifCond .ne 9, 3) := by decide +kernel
theorem dX7_tie_16 : decode cX7_tie 16 = .ok (.aload_n 0, 1) := by decide +kernel
theorem dX7_tie_17 : decode cX7_tie 17 = .ok (.iconst 1, 1) := by decide +kernel
theorem dX7_tie_18 : decode cX7_tie 18 = .ok (.invokevirtual 80, 3) := by decide +kernel
theorem dX7_tie_21 : decode cX7_tie 21 = .ok (.lreturn, 1) := by decide +kernel
theorem dX7_tie_22 : decode cX7_tie 22 = .ok (.aload_n 0, 1) := by decide +kernel
theorem dX7_tie_23 : decode cX7_tie 23 = .ok (.getfield 26, 3) := by decide +kernel
theorem dX7_tie_26 : decode cX7_tie 26 = .ok (.invokevirtual 151, 3) := by decide +kernel
theorem dX7_tie_29 : decode cX7_tie 29 = .ok (.ifCond .eq 9, 3) := by decide +kernel
theorem dX7_tie_32 : decode cX7_tie 32 = .ok (.aload_n 0, 1) := by decide +kernel
theorem dX7_tie_33 : decode cX7_tie 33 = .ok (.iconst 4, 1) := by decide +kernel
theorem dX7_tie_34 : decode cX7_tie 34 = .ok (.invokevirtual 80, 3) := by decide +kernel
theorem dX7_tie_37 : decode cX7_tie 37 = .ok (.lreturn, 1) := by decide +kernel
theorem dX7_tie_38 : decode cX7_tie 38 = .ok (.aload_n 0, 1) := by decide +kernel
theorem dX7_tie_39 : decode cX7_tie 39 = .ok (.getfield 26, 3) := by decide +kernel
theorem dX7_tie_42 : decode cX7_tie 42 = .ok (.iload_n 1, 1) := by decide +kernel
theorem dX7_tie_43 : decode cX7_tie 43 = .ok (.iload_n 2, 1) := by decide +kernel
theorem dX7_tie_44 : decode cX7_tie 44 = .ok (.iload_n 3, 1) := by decide +kernel
theorem dX7_tie_45 : decode cX7_tie 45 = .ok (.invokevirtual 152, 3) := by decide +kernel
theorem dX7_tie_48 : decode cX7_tie 48 = .ok (.i2l, 1) := by decide +kernel
theorem dX7_tie_49 : decode cX7_tie 49 = .ok (.lreturn, 1) := by decide +kernel
set_option maxRecDepth 20000 in
theorem ggX7_untie_X5_size : GoodIn wsX7_untie wsX5_size := goodIn_r _ [6, 7, 39, 40, 41, 42] (by decide +kernel) (by decide +kernel)
set_option maxRecDepth 20000 in
theorem gX7_untie_X5_size : GoodIn wsX7_untie (wsV RX7 153 RX5 yX5_size wsX5_size) := goodIn_app (goodIn_of _ (by decide +kernel)) ggX7_untie_X5_size
set_option maxRecDepth 20000 in
theorem ggX7_untie_X7_isWithin : GoodIn wsX7_untie wsX7_isWithin := goodIn_r _ [11] (by decide +kernel) (by decide +kernel)
set_option maxRecDepth 20000 in
theorem gX7_untie_X7_isWithin : GoodIn wsX7_untie (va_wsS RX7 69 yX7_isWithin wsX7_isWithin) := goodIn_app (goodIn_of _ (by decide +kernel)) ggX7_untie_X7_isWithin
set_option maxRecDepth 20000 in
theorem ggX7_untie_X7_finding : GoodIn wsX7_untie wsX7_finding := goodIn_r _ [15, 16, 17, 8, 9, 10, 11, 29, 30, 31, 32, 33, 34, 35, 36, 37, 38] (by decide +kernel) (by decide +kernel)
set_option maxRecDepth 20000 in
theorem gX7_untie_X7_finding : GoodIn wsX7_untie (wsV RX7 80 RX7 yX7_finding wsX7_finding) := goodIn_app (goodIn_of _ (by decide +kernel)) ggX7_untie_X7_finding
set_option maxRecDepth 20000 in
theorem ggX7_untie_X5_remove : GoodIn wsX7_untie wsX5_remove := goodIn_r _ [21, 7, 9, 10, 11, 22, 23, 24, 5, 25, 26, 27, 28, 39, 40, 41, 42] (by decide +kernel) (by decide +kernel)
set_option maxRecDepth 20000 in
theorem gX7_untie_X5_remove : GoodIn wsX7_untie (wsV RX7 154 RX5 yX5_remove wsX5_remove) := goodIn_app (goodIn_of _ (by decide +kernel)) ggX7_untie_X5_remove
theorem dX7_untie_0 : decode cX7_untie 0 = .ok (.iload_n 1, 1) := by decide +kernel
theorem dX7_untie_1 : decode cX7_untie 1 = .ok (.iconst 0, 1) := by decide +kernel
theorem dX7_untie_2 : decode cX7_untie 2 = .ok (.aload_n 0, 1) := by decide +kernel
theorem dX7_untie_3 : decode cX7_untie 3 = .ok (.getfield 26, 3) := by decide +kernel
theorem dX7_untie_6 : decode cX7_untie 6 = .ok (.invokevirtual 153, 3) := by decide +kernel
theorem dX7_untie_9 : decode cX7_untie 9 = .ok (.iconst 1, 1) := by decide +kernel
theorem dX7_untie_10 : decode cX7_untie 10 = .ok (.isub, 1) := by decide +kernel
theorem dX7_untie_11 : decode cX7_untie 11 = .ok (.invokestatic 69, 3) := by decide +kernel
theorem dX7_untie_14 : decode cX7_untie 14 = .ok (.ifCond .ne 9, 3) := by decide +kernel
theorem dX7_untie_17 : decode cX7_untie 17 = .ok (.aload_n 0, 1) := by decide +kernel
theorem dX7_untie_18 : decode cX7_untie 18 = .ok (.iconst 1, 1) := by decide +kernel
theorem dX7_untie_19 : decode cX7_untie 19 = .ok (.invokevirtual 80, 3) := by decide +kernel
theorem dX7_untie_22 : decode cX7_untie 22 = .ok (.lreturn, 1) := by decide +kernel
theorem dX7_untie_23 : decode cX7_untie 23 = .ok (.aload_n 0, 1) := by decide +kernel
theorem dX7_untie_24 : decode cX7_untie 24 = .ok (.getfield 26, 3) := by decide +kernel
theorem dX7_untie_27 : decode cX7_untie 27 = .ok (.iload_n 1, 1) := by decide +kernel
theorem dX7_untie_28 : decode cX7_untie 28 = .ok (.invokevirtual 154, 3) := by decide +kernel
theorem dX7_untie_31 : decode cX7_untie 31 = .ok (.i2l, 1) := by decide +kernel
theorem dX7_untie_32 : decode cX7_untie 32 = .ok (.lreturn, 1) := by decide +kernel
set_option maxRecDepth 20000 in
theorem ggX7_time_X6_has : GoodIn wsX7_time wsX6_has := goodIn_r _ [6, 7, 8, 9, 10, 153, 154, 155, 156, 157, 158, 159] (by decide +kernel) (by decide +kernel)
set_option maxRecDepth 20000 in
theorem gX7_time_X6_has : GoodIn wsX7_time (wsV RX7 124 RX6 yX6_has wsX6_has) := goodIn_app (goodIn_of _ (by decide +kernel)) ggX7_time_X6_has
set_option maxRecDepth 20000 in
theorem ggX7_time_X7_finding : GoodIn wsX7_time wsX7_finding := goodIn_r _ [14, 15, 16, 17, 8, 9, 10, 143, 144, 145, 146, 147, 148, 149, 150, 151, 152] (by decide +kernel) (by decide +kernel)
set_option maxRecDepth 20000 in
theorem gX7_time_X7_finding : GoodIn wsX7_time (wsV RX7 80 RX7 yX7_finding wsX7_finding) := goodIn_app (goodIn_of _ (by decide +kernel)) ggX7_time_X7_finding
set_option maxRecDepth 20000 in
theorem ggX7_time_X7_settleTimes : GoodIn wsX7_time wsX7_settleTimes := goodIn_r _ [21, 22, 23, 24, 25, 9, 26, 1, 27, 28, 29, 30, 5, 31, 7, 32, 33, 34, 35, 36, 37, 38, 39, 40, 41, 42, 43, 44, 45, 46, 47, 48, 49, 50, 51, 52, 53, 54, 55, 56, 57, 58, 59, 60, 61, 62, 63, 3, 4, 6, 8, 10, 64, 65, 66, 67, 68, 69, 70, 71, 72, 73, 74, 75, 76, 77, 78, 79, 80, 81, 82, 83, 84, 85, 86, 87, 88, 89, 90, 91, 92, 93, 94, 95, 96, 97, 98, 99, 100, 101, 102, 103, 104, 105, 106, 107, 108, 109, 110, 111, 112, 113, 114, 115, 116, 117, 118, 119, 120, 121, 122, 123, 124, 125, 126, 127, 143, 144, 145, 146, 147, 148, 149, 150, 151, 152, 153, 154, 155, 156, 157, 158, 159, 160, 161, 162, 163, 164, 165, 166, 167, 168, 169] (by decide +kernel) (by decide +kernel)
set_option maxRecDepth 20000 in
theorem gX7_time_X7_settleTimes : GoodIn wsX7_time (wsV RX7 157 RX7 yX7_settleTimes wsX7_settleTimes) := goodIn_app (goodIn_of _ (by decide +kernel)) ggX7_time_X7_settleTimes
set_option maxRecDepth 20000 in
theorem ggX7_time_X7_timeEnd : GoodIn wsX7_time wsX7_timeEnd := goodIn_r _ [131, 22, 132, 133, 134, 35, 135, 45, 46, 91, 92, 93, 94, 44, 8, 9, 10, 143, 144, 145, 146, 147, 148, 149, 150, 151, 152, 160, 161] (by decide +kernel) (by decide +kernel)
set_option maxRecDepth 20000 in
theorem gX7_time_X7_timeEnd : GoodIn wsX7_time (wsV RX7 160 RX7 yX7_timeEnd wsX7_timeEnd) := goodIn_app (goodIn_of _ (by decide +kernel)) ggX7_time_X7_timeEnd
set_option maxRecDepth 20000 in
theorem ggX7_time_X7_endOrNone : GoodIn wsX7_time wsX7_endOrNone := goodIn_r _ [139, 140, 141, 9, 142, 57, 56, 11, 12, 13, 14, 15, 16, 17, 8, 10, 143, 144, 145, 146, 147, 148, 149, 150, 151, 152] (by decide +kernel) (by decide +kernel)
set_option maxRecDepth 20000 in
theorem gX7_time_X7_endOrNone : GoodIn wsX7_time (wsV RX7 143 RX7 yX7_endOrNone wsX7_endOrNone) := goodIn_app (goodIn_of _ (by decide +kernel)) ggX7_time_X7_endOrNone
theorem dX7_time_0 : decode cX7_time 0 = .ok (.aload_n 0, 1) := by decide +kernel
theorem dX7_time_1 : decode cX7_time 1 = .ok (.getfield 19, 3) := by decide +kernel
theorem dX7_time_4 : decode cX7_time 4 = .ok (.iload_n 1, 1) := by decide +kernel
theorem dX7_time_5 : decode cX7_time 5 = .ok (.invokevirtual 124, 3) := by decide +kernel
theorem dX7_time_8 : decode cX7_time 8 = .ok (.ifCond .ne 9, 3) := by decide +kernel
theorem dX7_time_11 : decode cX7_time 11 = .ok (.aload_n 0, 1) := by decide +kernel
theorem dX7_time_12 : decode cX7_time 12 = .ok (.iconst 1, 1) := by decide +kernel
theorem dX7_time_13 : decode cX7_time 13 = .ok (.invokevirtual 80, 3) := by decide +kernel
theorem dX7_time_16 : decode cX7_time 16 = .ok (.lreturn, 1) := by decide +kernel
theorem dX7_time_17 : decode cX7_time 17 = .ok (.aload_n 0, 1) := by decide +kernel
theorem dX7_time_18 : decode cX7_time 18 = .ok (.iconst (-1), 1) := by decide +kernel
theorem dX7_time_19 : decode cX7_time 19 = .ok (.invokevirtual 157, 3) := by decide +kernel
theorem dX7_time_22 : decode cX7_time 22 = .ok (.ifCond .ne 9, 3) := by decide +kernel
theorem dX7_time_25 : decode cX7_time 25 = .ok (.aload_n 0, 1) := by decide +kernel
theorem dX7_time_26 : decode cX7_time 26 = .ok (.iconst 5, 1) := by decide +kernel
theorem dX7_time_27 : decode cX7_time 27 = .ok (.invokevirtual 80, 3) := by decide +kernel
theorem dX7_time_30 : decode cX7_time 30 = .ok (.lreturn, 1) := by decide +kernel
theorem dX7_time_31 : decode cX7_time 31 = .ok (.aload_n 0, 1) := by decide +kernel
theorem dX7_time_32 : decode cX7_time 32 = .ok (.aload_n 0, 1) := by decide +kernel
theorem dX7_time_33 : decode cX7_time 33 = .ok (.iload_n 1, 1) := by decide +kernel
theorem dX7_time_34 : decode cX7_time 34 = .ok (.iload_n 2, 1) := by decide +kernel
theorem dX7_time_35 : decode cX7_time 35 = .ok (.invokevirtual 160, 3) := by decide +kernel
theorem dX7_time_38 : decode cX7_time 38 = .ok (.invokevirtual 143, 3) := by decide +kernel
theorem dX7_time_41 : decode cX7_time 41 = .ok (.lreturn, 1) := by decide +kernel
set_option maxRecDepth 20000 in
theorem ggX7_apart_X7_areTwoTraces : GoodIn wsX7_apart wsX7_areTwoTraces := goodIn_r _ [6, 7, 8, 9, 10, 11, 12, 13, 14, 5, 15, 143, 144, 145, 146, 147, 148, 149, 150, 151, 152, 153, 154, 155, 156, 157, 158, 159] (by decide +kernel) (by decide +kernel)
set_option maxRecDepth 20000 in
theorem gX7_apart_X7_areTwoTraces : GoodIn wsX7_apart (wsV RX7 147 RX7 yX7_areTwoTraces wsX7_areTwoTraces) := goodIn_app (goodIn_of _ (by decide +kernel)) ggX7_apart_X7_areTwoTraces
set_option maxRecDepth 20000 in
theorem ggX7_apart_X7_finding : GoodIn wsX7_apart wsX7_finding := goodIn_r _ [19, 20, 21, 22, 14, 5, 15, 143, 144, 145, 146, 147, 148, 149, 150, 151, 152] (by decide +kernel) (by decide +kernel)
set_option maxRecDepth 20000 in
theorem gX7_apart_X7_finding : GoodIn wsX7_apart (wsV RX7 80 RX7 yX7_finding wsX7_finding) := goodIn_app (goodIn_of _ (by decide +kernel)) ggX7_apart_X7_finding
set_option maxRecDepth 20000 in
theorem ggX7_apart_X7_settleTimes : GoodIn wsX7_apart wsX7_settleTimes := goodIn_r _ [26, 1, 27, 28, 29, 5, 30, 7, 31, 32, 33, 34, 11, 35, 13, 36, 37, 38, 39, 40, 41, 42, 43, 44, 45, 46, 47, 48, 49, 50, 51, 52, 53, 54, 55, 56, 57, 58, 59, 60, 61, 62, 63, 64, 65, 66, 67, 9, 10, 12, 14, 15, 68, 69, 70, 71, 72, 73, 74, 75, 76, 77, 78, 79, 80, 81, 82, 83, 84, 85, 86, 87, 88, 89, 90, 91, 92, 93, 94, 95, 96, 97, 98, 99, 100, 101, 102, 103, 104, 105, 106, 107, 108, 109, 110, 111, 112, 113, 114, 115, 116, 117, 118, 119, 120, 121, 122, 123, 124, 125, 126, 127, 128, 129, 130, 131, 143, 144, 145, 146, 147, 148, 149, 150, 151, 152, 153, 154, 155, 156, 157, 158, 159, 160, 161, 162, 163, 164, 165, 166, 167, 168, 169] (by decide +kernel) (by decide +kernel)
set_option maxRecDepth 20000 in
theorem gX7_apart_X7_settleTimes : GoodIn wsX7_apart (wsV RX7 157 RX7 yX7_settleTimes wsX7_settleTimes) := goodIn_app (goodIn_of _ (by decide +kernel)) ggX7_apart_X7_settleTimes
set_option maxRecDepth 20000 in
theorem ggX7_apart_X0_between : GoodIn wsX7_apart wsX0_between := goodIn_r _ [135, 49, 50, 95, 96, 97, 39, 98, 48, 14, 5, 15, 160, 161] (by decide +kernel) (by decide +kernel)
set_option maxRecDepth 20000 in
theorem gX7_apart_X0_between : GoodIn wsX7_apart (wsV RX7 163 RX0 yX0_between wsX0_between) := goodIn_app (goodIn_of _ (by decide +kernel)) ggX7_apart_X0_between
set_option maxRecDepth 20000 in
theorem ggX7_apart_X7_endOrNone : GoodIn wsX7_apart wsX7_endOrNone := goodIn_r _ [139, 140, 141, 5, 142, 61, 60, 16, 17, 18, 19, 20, 21, 22, 14, 15, 143, 144, 145, 146, 147, 148, 149, 150, 151, 152] (by decide +kernel) (by decide +kernel)
set_option maxRecDepth 20000 in
theorem gX7_apart_X7_endOrNone : GoodIn wsX7_apart (wsV RX7 143 RX7 yX7_endOrNone wsX7_endOrNone) := goodIn_app (goodIn_of _ (by decide +kernel)) ggX7_apart_X7_endOrNone
theorem dX7_apart_0 : decode cX7_apart 0 = .ok (.aload_n 0, 1) := by decide +kernel
theorem dX7_apart_1 : decode cX7_apart 1 = .ok (.iload_n 1, 1) := by decide +kernel
theorem dX7_apart_2 : decode cX7_apart 2 = .ok (.iload_n 2, 1) := by decide +kernel
theorem dX7_apart_3 : decode cX7_apart 3 = .ok (.invokevirtual 147, 3) := by decide +kernel
theorem dX7_apart_6 : decode cX7_apart 6 = .ok (.ifCond .ne 9, 3) := by decide +kernel
theorem dX7_apart_9 : decode cX7_apart 9 = .ok (.aload_n 0, 1) := by decide +kernel
theorem dX7_apart_10 : decode cX7_apart 10 = .ok (.iconst 1, 1) := by decide +kernel
theorem dX7_apart_11 : decode cX7_apart 11 = .ok (.invokevirtual 80, 3) := by decide +kernel
theorem dX7_apart_14 : decode cX7_apart 14 = .ok (.lreturn, 1) := by decide +kernel
theorem dX7_apart_15 : decode cX7_apart 15 = .ok (.aload_n 0, 1) := by decide +kernel
theorem dX7_apart_16 : decode cX7_apart 16 = .ok (.iconst (-1), 1) := by decide +kernel
theorem dX7_apart_17 : decode cX7_apart 17 = .ok (.invokevirtual 157, 3) := by decide +kernel
theorem dX7_apart_20 : decode cX7_apart 20 = .ok (.ifCond .ne 9, 3) := by decide +kernel
theorem dX7_apart_23 : decode cX7_apart 23 = .ok (.aload_n 0, 1) := by decide +kernel
theorem dX7_apart_24 : decode cX7_apart 24 = .ok (.iconst 5, 1) := by decide +kernel
theorem dX7_apart_25 : decode cX7_apart 25 = .ok (.invokevirtual 80, 3) := by decide +kernel
theorem dX7_apart_28 : decode cX7_apart 28 = .ok (.lreturn, 1) := by decide +kernel
theorem dX7_apart_29 : decode cX7_apart 29 = .ok (.aload_n 0, 1) := by decide +kernel
theorem dX7_apart_30 : decode cX7_apart 30 = .ok (.iload_n 3, 1) := by decide +kernel
theorem dX7_apart_31 : decode cX7_apart 31 = .ok (.ifCond .eq 19, 3) := by decide +kernel
theorem dX7_apart_34 : decode cX7_apart 34 = .ok (.aload_n 0, 1) := by decide +kernel
theorem dX7_apart_35 : decode cX7_apart 35 = .ok (.getfield 33, 3) := by decide +kernel
theorem dX7_apart_38 : decode cX7_apart 38 = .ok (.iload_n 1, 1) := by decide +kernel
theorem dX7_apart_39 : decode cX7_apart 39 = .ok (.iconst 1, 1) := by decide +kernel
theorem dX7_apart_40 : decode cX7_apart 40 = .ok (.iadd, 1) := by decide +kernel
theorem dX7_apart_41 : decode cX7_apart 41 = .ok (.iload_n 2, 1) := by decide +kernel
theorem dX7_apart_42 : decode cX7_apart 42 = .ok (.iconst 1, 1) := by decide +kernel
theorem dX7_apart_43 : decode cX7_apart 43 = .ok (.iadd, 1) := by decide +kernel
theorem dX7_apart_44 : decode cX7_apart 44 = .ok (.invokevirtual 163, 3) := by decide +kernel
theorem dX7_apart_47 : decode cX7_apart 47 = .ok (.goto 17, 3) := by decide +kernel
theorem dX7_apart_50 : decode cX7_apart 50 = .ok (.aload_n 0, 1) := by decide +kernel
theorem dX7_apart_51 : decode cX7_apart 51 = .ok (.getfield 33, 3) := by decide +kernel
theorem dX7_apart_54 : decode cX7_apart 54 = .ok (.iload_n 2, 1) := by decide +kernel
theorem dX7_apart_55 : decode cX7_apart 55 = .ok (.iconst 1, 1) := by decide +kernel
theorem dX7_apart_56 : decode cX7_apart 56 = .ok (.iadd, 1) := by decide +kernel
theorem dX7_apart_57 : decode cX7_apart 57 = .ok (.iload_n 1, 1) := by decide +kernel
theorem dX7_apart_58 : decode cX7_apart 58 = .ok (.iconst 1, 1) := by decide +kernel
theorem dX7_apart_59 : decode cX7_apart 59 = .ok (.iadd, 1) := by decide +kernel
theorem dX7_apart_60 : decode cX7_apart 60 = .ok (.invokevirtual 163, 3) := by decide +kernel
theorem dX7_apart_63 : decode cX7_apart 63 = .ok (.lneg, 1) := by decide +kernel
theorem dX7_apart_64 : decode cX7_apart 64 = .ok (.invokevirtual 143, 3) := by decide +kernel
theorem dX7_apart_67 : decode cX7_apart 67 = .ok (.lreturn, 1) := by decide +kernel
set_option maxRecDepth 20000 in
theorem ggX7_quarrel_X7_gatherBounds : GoodIn wsX7_quarrel wsX7_gatherBounds := goodIn_r _ [7, 2, 8, 9, 10, 11, 12, 13, 14, 15, 16, 17, 18, 19, 20, 21, 22, 23, 24, 25, 26, 27, 28, 29, 30, 31, 32, 33, 34, 35, 36, 37, 6, 38, 39, 40, 41, 42, 43, 44, 45, 46, 47, 48, 49, 50, 51, 52, 53, 54, 55, 56, 57, 58, 59, 60, 61, 62, 63, 64, 65, 66, 67, 68, 69, 70, 71, 72, 73, 74, 75, 76, 77, 78, 79, 80, 81, 82, 83, 84, 85, 86, 87, 88, 89, 90, 91, 92, 93, 94, 95, 96, 97, 98, 99, 100, 101, 102, 103, 104, 174, 175, 176, 177, 178, 179, 180, 181, 182, 183, 184, 185, 186, 187, 188, 189, 190, 191, 192, 193, 194, 195, 196, 197, 198, 199, 200] (by decide +kernel) (by decide +kernel)
set_option maxRecDepth 20000 in
theorem gX7_quarrel_X7_gatherBounds : GoodIn wsX7_quarrel (wsV RX7 167 RX7 yX7_gatherBounds wsX7_gatherBounds) := goodIn_app (goodIn_of _ (by decide +kernel)) ggX7_quarrel_X7_gatherBounds
set_option maxRecDepth 20000 in
theorem ggX7_quarrel_X4_seek : GoodIn wsX7_quarrel wsX4_seek := goodIn_r _ [109, 110, 22, 23, 24, 111, 112, 113, 114, 19, 115, 28, 116, 117, 118, 108, 119, 120, 121, 122, 123, 124, 125, 32, 33, 34, 126, 127, 128, 129, 29, 30, 80, 81, 82, 83, 51, 6, 52, 130, 131, 132, 133, 134, 135, 136, 137, 138, 139, 140, 141, 142, 143, 144, 145, 146, 147, 148, 149, 150, 151, 152, 153, 154, 155, 156, 157, 158, 159, 160, 161, 162, 163, 164, 165, 166, 201, 202, 203, 204, 191, 192] (by decide +kernel) (by decide +kernel)
set_option maxRecDepth 20000 in
theorem gX7_quarrel_X4_seek : GoodIn wsX7_quarrel (wsV RX7 170 RX4 yX4_seek wsX4_seek) := goodIn_app (goodIn_of _ (by decide +kernel)) ggX7_quarrel_X4_seek
set_option maxRecDepth 20000 in
theorem ggX7_quarrel_X7_finding : GoodIn wsX7_quarrel wsX7_finding := goodIn_r _ [170, 171, 172, 173, 51, 6, 52, 174, 175, 176, 177, 178, 179, 180, 181, 182, 183] (by decide +kernel) (by decide +kernel)
set_option maxRecDepth 20000 in
theorem gX7_quarrel_X7_finding : GoodIn wsX7_quarrel (wsV RX7 80 RX7 yX7_finding wsX7_finding) := goodIn_app (goodIn_of _ (by decide +kernel)) ggX7_quarrel_X7_finding
theorem dX7_quarrel_0 : decode cX7_quarrel 0 = .ok (.aload_n 0, 1) := by decide +kernel
theorem dX7_quarrel_1 : decode cX7_quarrel 1 = .ok (.iconst (-1), 1) := by decide +kernel
theorem dX7_quarrel_2 : decode cX7_quarrel 2 = .ok (.invokevirtual 167, 3) := by decide +kernel
theorem dX7_quarrel_5 : decode cX7_quarrel 5 = .ok (.aload_n 0, 1) := by decide +kernel
theorem dX7_quarrel_6 : decode cX7_quarrel 6 = .ok (.getfield 40, 3) := by decide +kernel
theorem dX7_quarrel_9 : decode cX7_quarrel 9 = .ok (.aload_n 0, 1) := by decide +kernel
theorem dX7_quarrel_10 : decode cX7_quarrel 10 = .ok (.getfield 33, 3) := by decide +kernel
theorem dX7_quarrel_13 : decode cX7_quarrel 13 = .ok (.invokevirtual 170, 3) := by decide +kernel
theorem dX7_quarrel_16 : decode cX7_quarrel 16 = .ok (.istore_n 1, 1) := by decide +kernel
theorem dX7_quarrel_17 : decode cX7_quarrel 17 = .ok (.iload_n 1, 1) := by decide +kernel
theorem dX7_quarrel_18 : decode cX7_quarrel 18 = .ok (.ifCond .ne 11, 3) := by decide +kernel
theorem dX7_quarrel_21 : decode cX7_quarrel 21 = .ok (.aload_n 0, 1) := by decide +kernel
theorem dX7_quarrel_22 : decode cX7_quarrel 22 = .ok (.iconst 2, 1) := by decide +kernel
theorem dX7_quarrel_23 : decode cX7_quarrel 23 = .ok (.invokevirtual 80, 3) := by decide +kernel
theorem dX7_quarrel_26 : decode cX7_quarrel 26 = .ok (.goto 5, 3) := by decide +kernel
theorem dX7_quarrel_29 : decode cX7_quarrel 29 = .ok (.iload_n 1, 1) := by decide +kernel
theorem dX7_quarrel_30 : decode cX7_quarrel 30 = .ok (.i2l, 1) := by decide +kernel
theorem dX7_quarrel_31 : decode cX7_quarrel 31 = .ok (.lreturn, 1) := by decide +kernel
set_option maxRecDepth 20000 in
theorem ggX7_without_X7_areTwoTraces : GoodIn wsX7_without wsX7_areTwoTraces := goodIn_r _ [5, 6, 7, 8, 9, 10, 11, 12, 13, 4, 14, 147, 148, 149, 150, 151, 152, 153, 154, 155, 156, 157, 158, 159, 160, 161, 162, 163] (by decide +kernel) (by decide +kernel)
set_option maxRecDepth 20000 in
theorem gX7_without_X7_areTwoTraces : GoodIn wsX7_without (wsV RX7 147 RX7 yX7_areTwoTraces wsX7_areTwoTraces) := goodIn_app (goodIn_of _ (by decide +kernel)) ggX7_without_X7_areTwoTraces
set_option maxRecDepth 20000 in
theorem ggX7_without_X7_finding : GoodIn wsX7_without wsX7_finding := goodIn_r _ [18, 19, 20, 21, 13, 4, 14, 147, 148, 149, 150, 151, 152, 153, 154, 155, 156] (by decide +kernel) (by decide +kernel)
set_option maxRecDepth 20000 in
theorem gX7_without_X7_finding : GoodIn wsX7_without (wsV RX7 80 RX7 yX7_finding wsX7_finding) := goodIn_app (goodIn_of _ (by decide +kernel)) ggX7_without_X7_finding
set_option maxRecDepth 20000 in
theorem ggX7_without_X7_settleTimes : GoodIn wsX7_without wsX7_settleTimes := goodIn_r _ [25, 26, 27, 28, 29, 4, 30, 6, 31, 32, 33, 34, 10, 35, 12, 36, 37, 38, 39, 40, 41, 42, 43, 44, 45, 46, 47, 48, 49, 50, 51, 52, 53, 54, 55, 56, 57, 58, 59, 60, 61, 62, 63, 64, 65, 66, 67, 8, 9, 11, 13, 14, 68, 69, 70, 71, 72, 73, 74, 75, 76, 77, 78, 79, 80, 81, 82, 83, 84, 85, 86, 87, 88, 89, 90, 91, 92, 93, 94, 95, 96, 97, 98, 99, 100, 101, 102, 103, 104, 105, 106, 107, 108, 109, 110, 111, 112, 113, 114, 115, 116, 117, 118, 119, 120, 121, 122, 123, 124, 125, 126, 127, 128, 129, 130, 131, 147, 148, 149, 150, 151, 152, 153, 154, 155, 156, 157, 158, 159, 160, 161, 162, 163, 164, 165, 166, 167, 168, 169, 170, 171, 172, 173] (by decide +kernel) (by decide +kernel)
set_option maxRecDepth 20000 in
theorem gX7_without_X7_settleTimes : GoodIn wsX7_without (wsV RX7 157 RX7 yX7_settleTimes wsX7_settleTimes) := goodIn_app (goodIn_of _ (by decide +kernel)) ggX7_without_X7_settleTimes
set_option maxRecDepth 20000 in
theorem ggX7_without_X7_timeEnd : GoodIn wsX7_without wsX7_timeEnd := goodIn_r _ [135, 26, 136, 137, 138, 39, 139, 49, 50, 95, 96, 97, 98, 48, 13, 4, 14, 147, 148, 149, 150, 151, 152, 153, 154, 155, 156, 164, 165] (by decide +kernel) (by decide +kernel)
set_option maxRecDepth 20000 in
theorem gX7_without_X7_timeEnd : GoodIn wsX7_without (wsV RX7 160 RX7 yX7_timeEnd wsX7_timeEnd) := goodIn_app (goodIn_of _ (by decide +kernel)) ggX7_without_X7_timeEnd
set_option maxRecDepth 20000 in
theorem ggX7_without_X7_endOrNone : GoodIn wsX7_without wsX7_endOrNone := goodIn_r _ [143, 144, 145, 4, 146, 61, 60, 15, 16, 17, 18, 19, 20, 21, 13, 14, 147, 148, 149, 150, 151, 152, 153, 154, 155, 156] (by decide +kernel) (by decide +kernel)
set_option maxRecDepth 20000 in
theorem gX7_without_X7_endOrNone : GoodIn wsX7_without (wsV RX7 143 RX7 yX7_endOrNone wsX7_endOrNone) := goodIn_app (goodIn_of _ (by decide +kernel)) ggX7_without_X7_endOrNone
theorem dX7_without_0 : decode cX7_without 0 = .ok (.aload_n 0, 1) := by decide +kernel
theorem dX7_without_1 : decode cX7_without 1 = .ok (.iload_n 1, 1) := by decide +kernel
theorem dX7_without_2 : decode cX7_without 2 = .ok (.iload_n 2, 1) := by decide +kernel
theorem dX7_without_3 : decode cX7_without 3 = .ok (.invokevirtual 147, 3) := by decide +kernel
theorem dX7_without_6 : decode cX7_without 6 = .ok (.ifCond .ne 9, 3) := by decide +kernel
theorem dX7_without_9 : decode cX7_without 9 = .ok (.aload_n 0, 1) := by decide +kernel
theorem dX7_without_10 : decode cX7_without 10 = .ok (.iconst 1, 1) := by decide +kernel
theorem dX7_without_11 : decode cX7_without 11 = .ok (.invokevirtual 80, 3) := by decide +kernel
theorem dX7_without_14 : decode cX7_without 14 = .ok (.lreturn, 1) := by decide +kernel
theorem dX7_without_15 : decode cX7_without 15 = .ok (.aload_n 0, 1) := by decide +kernel
theorem dX7_without_16 : decode cX7_without 16 = .ok (.iload_n 2, 1) := by decide +kernel
theorem dX7_without_17 : decode cX7_without 17 = .ok (.invokevirtual 157, 3) := by decide +kernel
theorem dX7_without_20 : decode cX7_without 20 = .ok (.ifCond .ne 9, 3) := by decide +kernel
theorem dX7_without_23 : decode cX7_without 23 = .ok (.aload_n 0, 1) := by decide +kernel
theorem dX7_without_24 : decode cX7_without 24 = .ok (.iconst 5, 1) := by decide +kernel
theorem dX7_without_25 : decode cX7_without 25 = .ok (.invokevirtual 80, 3) := by decide +kernel
theorem dX7_without_28 : decode cX7_without 28 = .ok (.lreturn, 1) := by decide +kernel
theorem dX7_without_29 : decode cX7_without 29 = .ok (.aload_n 0, 1) := by decide +kernel
theorem dX7_without_30 : decode cX7_without 30 = .ok (.aload_n 0, 1) := by decide +kernel
theorem dX7_without_31 : decode cX7_without 31 = .ok (.iload_n 1, 1) := by decide +kernel
theorem dX7_without_32 : decode cX7_without 32 = .ok (.iload_n 3, 1) := by decide +kernel
theorem dX7_without_33 : decode cX7_without 33 = .ok (.invokevirtual 160, 3) := by decide +kernel
theorem dX7_without_36 : decode cX7_without 36 = .ok (.invokevirtual 143, 3) := by decide +kernel
theorem dX7_without_39 : decode cX7_without 39 = .ok (.lreturn, 1) := by decide +kernel
set_option maxRecDepth 20000 in
theorem ggX7_deed_X7_isWithin : GoodIn wsX7_deed wsX7_isWithin := goodIn_r _ [6] (by decide +kernel) (by decide +kernel)
set_option maxRecDepth 20000 in
theorem gX7_deed_X7_isWithin : GoodIn wsX7_deed (va_wsS RX7 69 yX7_isWithin wsX7_isWithin) := goodIn_app (goodIn_of _ (by decide +kernel)) ggX7_deed_X7_isWithin
set_option maxRecDepth 20000 in
theorem ggX7_deed_X7_isPrice : GoodIn wsX7_deed wsX7_isPrice := goodIn_r _ [9, 3, 4, 5, 6] (by decide +kernel) (by decide +kernel)
set_option maxRecDepth 20000 in
theorem gX7_deed_X7_isPrice : GoodIn wsX7_deed (va_wsS RX7 174 yX7_isPrice wsX7_isPrice) := goodIn_app (goodIn_of _ (by decide +kernel)) ggX7_deed_X7_isPrice
set_option maxRecDepth 20000 in
theorem ggX7_deed_X7_isRowOfMarks : GoodIn wsX7_deed wsX7_isRowOfMarks := goodIn_r _ [12, 13, 3, 4, 5, 6] (by decide +kernel) (by decide +kernel)
set_option maxRecDepth 20000 in
theorem gX7_deed_X7_isRowOfMarks : GoodIn wsX7_deed (va_wsS RX7 177 yX7_isRowOfMarks wsX7_isRowOfMarks) := goodIn_app (goodIn_of _ (by decide +kernel)) ggX7_deed_X7_isRowOfMarks
set_option maxRecDepth 20000 in
theorem ggX7_deed_X7_finding : GoodIn wsX7_deed wsX7_finding := goodIn_r _ [17, 18, 19, 3, 4, 5, 6, 36, 37, 38, 39, 40, 41, 42, 43, 44, 45] (by decide +kernel) (by decide +kernel)
set_option maxRecDepth 20000 in
theorem gX7_deed_X7_finding : GoodIn wsX7_deed (wsV RX7 80 RX7 yX7_finding wsX7_finding) := goodIn_app (goodIn_of _ (by decide +kernel)) ggX7_deed_X7_finding
set_option maxRecDepth 20000 in
theorem ggX7_deed_X3_outdate : GoodIn wsX7_deed wsX3_outdate := goodIn_r _ [24, 25, 46, 47, 48, 49, 50, 51, 52, 53, 54] (by decide +kernel) (by decide +kernel)
set_option maxRecDepth 20000 in
theorem gX7_deed_X3_outdate : GoodIn wsX7_deed (wsV RX7 108 RX3 yX3_outdate wsX3_outdate) := goodIn_app (goodIn_of _ (by decide +kernel)) ggX7_deed_X3_outdate
set_option maxRecDepth 20000 in
theorem ggX7_deed_X2_learn : GoodIn wsX7_deed wsX2_learn := goodIn_r _ [30, 31, 32, 33, 34, 35, 4, 5, 6, 55, 56, 57, 58, 59, 60, 61, 62, 63] (by decide +kernel) (by decide +kernel)
set_option maxRecDepth 20000 in
theorem gX7_deed_X2_learn : GoodIn wsX7_deed (wsV RX7 180 RX2 yX2_learn wsX2_learn) := goodIn_app (goodIn_of _ (by decide +kernel)) ggX7_deed_X2_learn
theorem dX7_deed_0 : decode cX7_deed 0 = .ok (.iload_n 1, 1) := by decide +kernel
theorem dX7_deed_1 : decode cX7_deed 1 = .ok (.iconst 0, 1) := by decide +kernel
theorem dX7_deed_2 : decode cX7_deed 2 = .ok (.bipush 9, 2) := by decide +kernel
theorem dX7_deed_4 : decode cX7_deed 4 = .ok (.invokestatic 69, 3) := by decide +kernel
theorem dX7_deed_7 : decode cX7_deed 7 = .ok (.ifCond .eq 33, 3) := by decide +kernel
theorem dX7_deed_10 : decode cX7_deed 10 = .ok (.iload_n 2, 1) := by decide +kernel
theorem dX7_deed_11 : decode cX7_deed 11 = .ok (.invokestatic 174, 3) := by decide +kernel
theorem dX7_deed_14 : decode cX7_deed 14 = .ok (.ifCond .eq 26, 3) := by decide +kernel
theorem dX7_deed_17 : decode cX7_deed 17 = .ok (.iload_n 3, 1) := by decide +kernel
theorem dX7_deed_18 : decode cX7_deed 18 = .ok (.invokestatic 177, 3) := by decide +kernel
theorem dX7_deed_21 : decode cX7_deed 21 = .ok (.ifCond .eq 19, 3) := by decide +kernel
theorem dX7_deed_24 : decode cX7_deed 24 = .ok (.iload 4, 2) := by decide +kernel
theorem dX7_deed_26 : decode cX7_deed 26 = .ok (.invokestatic 177, 3) := by decide +kernel
theorem dX7_deed_29 : decode cX7_deed 29 = .ok (.ifCond .eq 11, 3) := by decide +kernel
theorem dX7_deed_32 : decode cX7_deed 32 = .ok (.iload 5, 2) := by decide +kernel
theorem dX7_deed_34 : decode cX7_deed 34 = .ok (.invokestatic 177, 3) := by decide +kernel
theorem dX7_deed_37 : decode cX7_deed 37 = .ok (.ifCond .ne 9, 3) := by decide +kernel
theorem dX7_deed_40 : decode cX7_deed 40 = .ok (.aload_n 0, 1) := by decide +kernel
theorem dX7_deed_41 : decode cX7_deed 41 = .ok (.iconst 1, 1) := by decide +kernel
theorem dX7_deed_42 : decode cX7_deed 42 = .ok (.invokevirtual 80, 3) := by decide +kernel
theorem dX7_deed_45 : decode cX7_deed 45 = .ok (.lreturn, 1) := by decide +kernel
theorem dX7_deed_46 : decode cX7_deed 46 = .ok (.aload_n 0, 1) := by decide +kernel
theorem dX7_deed_47 : decode cX7_deed 47 = .ok (.getfield 54, 3) := by decide +kernel
theorem dX7_deed_50 : decode cX7_deed 50 = .ok (.invokevirtual 108, 3) := by decide +kernel
theorem dX7_deed_53 : decode cX7_deed 53 = .ok (.aload_n 0, 1) := by decide +kernel
theorem dX7_deed_54 : decode cX7_deed 54 = .ok (.getfield 47, 3) := by decide +kernel
theorem dX7_deed_57 : decode cX7_deed 57 = .ok (.iload_n 1, 1) := by decide +kernel
theorem dX7_deed_58 : decode cX7_deed 58 = .ok (.iload_n 2, 1) := by decide +kernel
theorem dX7_deed_59 : decode cX7_deed 59 = .ok (.iload_n 3, 1) := by decide +kernel
theorem dX7_deed_60 : decode cX7_deed 60 = .ok (.iload 4, 2) := by decide +kernel
theorem dX7_deed_62 : decode cX7_deed 62 = .ok (.iload 5, 2) := by decide +kernel
theorem dX7_deed_64 : decode cX7_deed 64 = .ok (.invokevirtual 180, 3) := by decide +kernel
theorem dX7_deed_67 : decode cX7_deed 67 = .ok (.lconst 1, 1) := by decide +kernel
theorem dX7_deed_68 : decode cX7_deed 68 = .ok (.lreturn, 1) := by decide +kernel
set_option maxRecDepth 20000 in
theorem ggX7_forget_X7_isWithin : GoodIn wsX7_forget wsX7_isWithin := goodIn_r _ [6] (by decide +kernel) (by decide +kernel)
set_option maxRecDepth 20000 in
theorem gX7_forget_X7_isWithin : GoodIn wsX7_forget (va_wsS RX7 69 yX7_isWithin wsX7_isWithin) := goodIn_app (goodIn_of _ (by decide +kernel)) ggX7_forget_X7_isWithin
set_option maxRecDepth 20000 in
theorem ggX7_forget_X7_finding : GoodIn wsX7_forget wsX7_finding := goodIn_r _ [10, 11, 12, 3, 4, 5, 6, 29, 30, 31, 32, 33, 34, 35, 36, 37, 38] (by decide +kernel) (by decide +kernel)
set_option maxRecDepth 20000 in
theorem gX7_forget_X7_finding : GoodIn wsX7_forget (wsV RX7 80 RX7 yX7_finding wsX7_finding) := goodIn_app (goodIn_of _ (by decide +kernel)) ggX7_forget_X7_finding
set_option maxRecDepth 20000 in
theorem ggX7_forget_X2_isKnown : GoodIn wsX7_forget wsX2_isKnown := goodIn_r _ [17, 18, 4, 5, 6, 39, 40, 41, 42, 43, 44, 45, 46, 47] (by decide +kernel) (by decide +kernel)
set_option maxRecDepth 20000 in
theorem gX7_forget_X2_isKnown : GoodIn wsX7_forget (wsV RX7 184 RX2 yX2_isKnown wsX2_isKnown) := goodIn_app (goodIn_of _ (by decide +kernel)) ggX7_forget_X2_isKnown
set_option maxRecDepth 20000 in
theorem ggX7_forget_X3_outdate : GoodIn wsX7_forget wsX3_outdate := goodIn_r _ [23, 24, 48, 49, 50, 51, 52, 53, 54, 55, 56] (by decide +kernel) (by decide +kernel)
set_option maxRecDepth 20000 in
theorem gX7_forget_X3_outdate : GoodIn wsX7_forget (wsV RX7 108 RX3 yX3_outdate wsX3_outdate) := goodIn_app (goodIn_of _ (by decide +kernel)) ggX7_forget_X3_outdate
set_option maxRecDepth 20000 in
theorem ggX7_forget_X2_unlearn : GoodIn wsX7_forget wsX2_unlearn := goodIn_r _ [28, 18, 4, 5, 6, 39, 40, 41, 42, 43, 44, 45, 46, 47] (by decide +kernel) (by decide +kernel)
set_option maxRecDepth 20000 in
theorem gX7_forget_X2_unlearn : GoodIn wsX7_forget (wsV RX7 187 RX2 yX2_unlearn wsX2_unlearn) := goodIn_app (goodIn_of _ (by decide +kernel)) ggX7_forget_X2_unlearn
theorem dX7_forget_0 : decode cX7_forget 0 = .ok (.iload_n 1, 1) := by decide +kernel
theorem dX7_forget_1 : decode cX7_forget 1 = .ok (.iconst 0, 1) := by decide +kernel
theorem dX7_forget_2 : decode cX7_forget 2 = .ok (.bipush 9, 2) := by decide +kernel
theorem dX7_forget_4 : decode cX7_forget 4 = .ok (.invokestatic 69, 3) := by decide +kernel
theorem dX7_forget_7 : decode cX7_forget 7 = .ok (.ifCond .ne 9, 3) := by decide +kernel
theorem dX7_forget_10 : decode cX7_forget 10 = .ok (.aload_n 0, 1) := by decide +kernel
theorem dX7_forget_11 : decode cX7_forget 11 = .ok (.iconst 1, 1) := by decide +kernel
theorem dX7_forget_12 : decode cX7_forget 12 = .ok (.invokevirtual 80, 3) := by decide +kernel
theorem dX7_forget_15 : decode cX7_forget 15 = .ok (.lreturn, 1) := by decide +kernel
theorem dX7_forget_16 : decode cX7_forget 16 = .ok (.aload_n 0, 1) := by decide +kernel
theorem dX7_forget_17 : decode cX7_forget 17 = .ok (.getfield 47, 3) := by decide +kernel
theorem dX7_forget_20 : decode cX7_forget 20 = .ok (.iload_n 1, 1) := by decide +kernel
theorem dX7_forget_21 : decode cX7_forget 21 = .ok (.invokevirtual 184, 3) := by decide +kernel
theorem dX7_forget_24 : decode cX7_forget 24 = .ok (.ifCond .ne 5, 3) := by decide +kernel
theorem dX7_forget_27 : decode cX7_forget 27 = .ok (.lconst 0, 1) := by decide +kernel
theorem dX7_forget_28 : decode cX7_forget 28 = .ok (.lreturn, 1) := by decide +kernel
theorem dX7_forget_29 : decode cX7_forget 29 = .ok (.aload_n 0, 1) := by decide +kernel
theorem dX7_forget_30 : decode cX7_forget 30 = .ok (.getfield 54, 3) := by decide +kernel
theorem dX7_forget_33 : decode cX7_forget 33 = .ok (.invokevirtual 108, 3) := by decide +kernel
theorem dX7_forget_36 : decode cX7_forget 36 = .ok (.aload_n 0, 1) := by decide +kernel
theorem dX7_forget_37 : decode cX7_forget 37 = .ok (.getfield 47, 3) := by decide +kernel
theorem dX7_forget_40 : decode cX7_forget 40 = .ok (.iload_n 1, 1) := by decide +kernel
theorem dX7_forget_41 : decode cX7_forget 41 = .ok (.invokevirtual 187, 3) := by decide +kernel
theorem dX7_forget_44 : decode cX7_forget 44 = .ok (.lconst 1, 1) := by decide +kernel
theorem dX7_forget_45 : decode cX7_forget 45 = .ok (.lreturn, 1) := by decide +kernel
set_option maxRecDepth 20000 in
theorem ggX7_prices_X7_isPrice : GoodIn wsX7_prices wsX7_isPrice := goodIn_r _ [5, 6, 7, 4, 8] (by decide +kernel) (by decide +kernel)
set_option maxRecDepth 20000 in
theorem gX7_prices_X7_isPrice : GoodIn wsX7_prices (va_wsS RX7 174 yX7_isPrice wsX7_isPrice) := goodIn_app (goodIn_of _ (by decide +kernel)) ggX7_prices_X7_isPrice
set_option maxRecDepth 20000 in
theorem ggX7_prices_X7_finding : GoodIn wsX7_prices wsX7_finding := goodIn_r _ [12, 13, 14, 6, 7, 4, 8, 27, 28, 29, 30, 31, 32, 33, 34, 35, 36] (by decide +kernel) (by decide +kernel)
set_option maxRecDepth 20000 in
theorem gX7_prices_X7_finding : GoodIn wsX7_prices (wsV RX7 80 RX7 yX7_finding wsX7_finding) := goodIn_app (goodIn_of _ (by decide +kernel)) ggX7_prices_X7_finding
set_option maxRecDepth 20000 in
theorem ggX7_prices_X3_outdate : GoodIn wsX7_prices wsX3_outdate := goodIn_r _ [19, 20, 37, 38, 39, 40, 41, 42, 43, 44, 45] (by decide +kernel) (by decide +kernel)
set_option maxRecDepth 20000 in
theorem gX7_prices_X3_outdate : GoodIn wsX7_prices (wsV RX7 108 RX3 yX3_outdate wsX3_outdate) := goodIn_app (goodIn_of _ (by decide +kernel)) ggX7_prices_X3_outdate
set_option maxRecDepth 20000 in
theorem ggX7_prices_X3_charge : GoodIn wsX7_prices wsX3_charge := goodIn_r _ [24, 25, 26, 37, 38, 39, 40, 41, 42, 43, 44, 45] (by decide +kernel) (by decide +kernel)
set_option maxRecDepth 20000 in
theorem gX7_prices_X3_charge : GoodIn wsX7_prices (wsV RX7 190 RX3 yX3_charge wsX3_charge) := goodIn_app (goodIn_of _ (by decide +kernel)) ggX7_prices_X3_charge
theorem dX7_prices_0 : decode cX7_prices 0 = .ok (.iload_n 1, 1) := by decide +kernel
theorem dX7_prices_1 : decode cX7_prices 1 = .ok (.invokestatic 174, 3) := by decide +kernel
theorem dX7_prices_4 : decode cX7_prices 4 = .ok (.ifCond .eq 10, 3) := by decide +kernel
theorem dX7_prices_7 : decode cX7_prices 7 = .ok (.iload_n 2, 1) := by decide +kernel
theorem dX7_prices_8 : decode cX7_prices 8 = .ok (.invokestatic 174, 3) := by decide +kernel
theorem dX7_prices_11 : decode cX7_prices 11 = .ok (.ifCond .ne 9, 3) := by decide +kernel
theorem dX7_prices_14 : decode cX7_prices 14 = .ok (.aload_n 0, 1) := by decide +kernel
theorem dX7_prices_15 : decode cX7_prices 15 = .ok (.iconst 1, 1) := by decide +kernel
theorem dX7_prices_16 : decode cX7_prices 16 = .ok (.invokevirtual 80, 3) := by decide +kernel
theorem dX7_prices_19 : decode cX7_prices 19 = .ok (.lreturn, 1) := by decide +kernel
theorem dX7_prices_20 : decode cX7_prices 20 = .ok (.aload_n 0, 1) := by decide +kernel
theorem dX7_prices_21 : decode cX7_prices 21 = .ok (.getfield 54, 3) := by decide +kernel
theorem dX7_prices_24 : decode cX7_prices 24 = .ok (.invokevirtual 108, 3) := by decide +kernel
theorem dX7_prices_27 : decode cX7_prices 27 = .ok (.aload_n 0, 1) := by decide +kernel
theorem dX7_prices_28 : decode cX7_prices 28 = .ok (.getfield 54, 3) := by decide +kernel
theorem dX7_prices_31 : decode cX7_prices 31 = .ok (.iload_n 1, 1) := by decide +kernel
theorem dX7_prices_32 : decode cX7_prices 32 = .ok (.iload_n 2, 1) := by decide +kernel
theorem dX7_prices_33 : decode cX7_prices 33 = .ok (.invokevirtual 190, 3) := by decide +kernel
theorem dX7_prices_36 : decode cX7_prices 36 = .ok (.lconst 1, 1) := by decide +kernel
theorem dX7_prices_37 : decode cX7_prices 37 = .ok (.lreturn, 1) := by decide +kernel
set_option maxRecDepth 20000 in
theorem ggX7_cost_X2_areAllKnown : GoodIn wsX7_cost wsX2_areAllKnown := goodIn_r _ [8, 9, 97, 98, 99, 100, 101, 102, 103, 104, 105] (by decide +kernel) (by decide +kernel)
set_option maxRecDepth 20000 in
theorem gX7_cost_X2_areAllKnown : GoodIn wsX7_cost (wsV RX7 194 RX2 yX2_areAllKnown wsX2_areAllKnown) := goodIn_app (goodIn_of _ (by decide +kernel)) ggX7_cost_X2_areAllKnown
set_option maxRecDepth 20000 in
theorem ggX7_cost_X7_finding : GoodIn wsX7_cost wsX7_finding := goodIn_r _ [14, 15, 16, 17, 18, 13, 19, 87, 88, 89, 90, 91, 92, 93, 94, 95, 96] (by decide +kernel) (by decide +kernel)
set_option maxRecDepth 20000 in
theorem gX7_cost_X7_finding : GoodIn wsX7_cost (wsV RX7 80 RX7 yX7_finding wsX7_finding) := goodIn_app (goodIn_of _ (by decide +kernel)) ggX7_cost_X7_finding
set_option maxRecDepth 20000 in
theorem ggX7_cost_X2_gather : GoodIn wsX7_cost wsX2_gather := goodIn_r _ [23, 24, 25, 26, 27, 28, 29, 30, 31, 97, 98, 99, 100, 101, 102, 103, 104, 105] (by decide +kernel) (by decide +kernel)
set_option maxRecDepth 20000 in
theorem gX7_cost_X2_gather : GoodIn wsX7_cost (wsV RX7 197 RX2 yX2_gather wsX2_gather) := goodIn_app (goodIn_of _ (by decide +kernel)) ggX7_cost_X2_gather
set_option maxRecDepth 20000 in
theorem ggX7_cost_X3_isPossible : GoodIn wsX7_cost wsX3_isPossible := goodIn_r _ [36, 37, 38, 39, 7, 40, 25, 41, 42, 43, 44, 45, 46, 47, 48, 49, 50, 27, 51, 52, 53, 54, 55, 56, 57, 58, 59, 26, 97, 98, 99, 100, 101, 102, 103, 104, 105, 106, 107, 108, 109, 110, 111, 112] (by decide +kernel) (by decide +kernel)
set_option maxRecDepth 20000 in
theorem gX7_cost_X3_isPossible : GoodIn wsX7_cost (wsV RX7 200 RX3 yX3_isPossible wsX3_isPossible) := goodIn_app (goodIn_of _ (by decide +kernel)) ggX7_cost_X3_isPossible
set_option maxRecDepth 20000 in
theorem ggX7_cost_X3_priceOf : GoodIn wsX7_cost wsX3_priceOf := goodIn_r _ [63, 64, 65, 66, 67, 68, 7, 69, 26, 25, 41, 42, 43, 44, 45, 46, 47, 48, 49, 50, 27, 70, 71, 72, 73, 24, 74, 75, 76, 77, 78, 79, 80, 56, 57, 58, 59, 81, 82, 83, 84, 85, 86, 113, 114, 115, 116, 117, 118, 119, 120, 121, 97, 98, 99, 100, 101, 102, 103, 104, 105, 106, 107, 108, 109, 110, 111, 112] (by decide +kernel) (by decide +kernel)
set_option maxRecDepth 20000 in
theorem gX7_cost_X3_priceOf : GoodIn wsX7_cost (wsV RX7 204 RX3 yX3_priceOf wsX3_priceOf) := goodIn_app (goodIn_of _ (by decide +kernel)) ggX7_cost_X3_priceOf
theorem dX7_cost_0 : decode cX7_cost 0 = .ok (.aload_n 0, 1) := by decide +kernel
theorem dX7_cost_1 : decode cX7_cost 1 = .ok (.getfield 47, 3) := by decide +kernel
theorem dX7_cost_4 : decode cX7_cost 4 = .ok (.iload_n 1, 1) := by decide +kernel
theorem dX7_cost_5 : decode cX7_cost 5 = .ok (.invokevirtual 194, 3) := by decide +kernel
theorem dX7_cost_8 : decode cX7_cost 8 = .ok (.ifCond .ne 9, 3) := by decide +kernel
theorem dX7_cost_11 : decode cX7_cost 11 = .ok (.aload_n 0, 1) := by decide +kernel
theorem dX7_cost_12 : decode cX7_cost 12 = .ok (.iconst 1, 1) := by decide +kernel
theorem dX7_cost_13 : decode cX7_cost 13 = .ok (.invokevirtual 80, 3) := by decide +kernel
theorem dX7_cost_16 : decode cX7_cost 16 = .ok (.lreturn, 1) := by decide +kernel
theorem dX7_cost_17 : decode cX7_cost 17 = .ok (.aload_n 0, 1) := by decide +kernel
theorem dX7_cost_18 : decode cX7_cost 18 = .ok (.getfield 47, 3) := by decide +kernel
theorem dX7_cost_21 : decode cX7_cost 21 = .ok (.iload_n 1, 1) := by decide +kernel
theorem dX7_cost_22 : decode cX7_cost 22 = .ok (.invokevirtual 197, 3) := by decide +kernel
theorem dX7_cost_25 : decode cX7_cost 25 = .ok (.aload_n 0, 1) := by decide +kernel
theorem dX7_cost_26 : decode cX7_cost 26 = .ok (.getfield 54, 3) := by decide +kernel
theorem dX7_cost_29 : decode cX7_cost 29 = .ok (.aload_n 0, 1) := by decide +kernel
theorem dX7_cost_30 : decode cX7_cost 30 = .ok (.getfield 47, 3) := by decide +kernel
theorem dX7_cost_33 : decode cX7_cost 33 = .ok (.aload_n 0, 1) := by decide +kernel
theorem dX7_cost_34 : decode cX7_cost 34 = .ok (.getfield 19, 3) := by decide +kernel
theorem dX7_cost_37 : decode cX7_cost 37 = .ok (.invokevirtual 200, 3) := by decide +kernel
theorem dX7_cost_40 : decode cX7_cost 40 = .ok (.ifCond .ne 9, 3) := by decide +kernel
theorem dX7_cost_43 : decode cX7_cost 43 = .ok (.aload_n 0, 1) := by decide +kernel
theorem dX7_cost_44 : decode cX7_cost 44 = .ok (.iconst 5, 1) := by decide +kernel
theorem dX7_cost_45 : decode cX7_cost 45 = .ok (.invokevirtual 80, 3) := by decide +kernel
theorem dX7_cost_48 : decode cX7_cost 48 = .ok (.lreturn, 1) := by decide +kernel
theorem dX7_cost_49 : decode cX7_cost 49 = .ok (.aload_n 0, 1) := by decide +kernel
theorem dX7_cost_50 : decode cX7_cost 50 = .ok (.getfield 54, 3) := by decide +kernel
theorem dX7_cost_53 : decode cX7_cost 53 = .ok (.aload_n 0, 1) := by decide +kernel
theorem dX7_cost_54 : decode cX7_cost 54 = .ok (.getfield 47, 3) := by decide +kernel
theorem dX7_cost_57 : decode cX7_cost 57 = .ok (.aload_n 0, 1) := by decide +kernel
theorem dX7_cost_58 : decode cX7_cost 58 = .ok (.getfield 19, 3) := by decide +kernel
theorem dX7_cost_61 : decode cX7_cost 61 = .ok (.invokevirtual 204, 3) := by decide +kernel
theorem dX7_cost_64 : decode cX7_cost 64 = .ok (.i2l, 1) := by decide +kernel
theorem dX7_cost_65 : decode cX7_cost 65 = .ok (.lreturn, 1) := by decide +kernel
set_option maxRecDepth 20000 in
theorem ggX7_least_X3_update : GoodIn wsX7_least wsX3_update := goodIn_r _ [8, 9, 10, 11, 12, 7, 13, 14, 15, 16, 17, 18, 19, 20, 21, 22, 23, 24, 25, 26, 27, 28, 29, 30, 31, 32, 33, 34, 35, 36, 37, 38, 39, 40, 41, 42, 43, 44, 45, 46, 47, 48, 49, 50, 51, 52, 53, 54, 55, 56, 57, 58, 59, 60, 61, 62, 63, 64, 65, 66, 67, 68, 69, 70, 71, 72, 73, 74, 75, 76, 77, 78, 79, 80, 81, 82, 83, 84, 85, 86, 87, 88, 89, 90, 91, 92, 93, 94, 95, 96, 97, 98, 99, 100, 101, 102, 103, 132, 133, 134, 135, 136, 137, 138, 139, 140, 141, 142, 143, 144, 145, 146, 147, 148, 149, 150, 151, 152, 153, 154, 155, 156] (by decide +kernel) (by decide +kernel)
set_option maxRecDepth 20000 in
theorem gX7_least_X3_update : GoodIn wsX7_least (wsV RX7 208 RX3 yX3_update wsX3_update) := goodIn_app (goodIn_of _ (by decide +kernel)) ggX7_least_X3_update
set_option maxRecDepth 20000 in
theorem ggX7_least_X3_size : GoodIn wsX7_least wsX3_size := goodIn_r _ [107, 14, 132, 133, 134, 135, 136, 137, 138, 139, 140] (by decide +kernel) (by decide +kernel)
set_option maxRecDepth 20000 in
theorem gX7_least_X3_size : GoodIn wsX7_least (wsV RX7 212 RX3 yX3_size wsX3_size) := goodIn_app (goodIn_of _ (by decide +kernel)) ggX7_least_X3_size
set_option maxRecDepth 20000 in
theorem ggX7_least_X7_finding : GoodIn wsX7_least wsX7_finding := goodIn_r _ [112, 113, 114, 115, 116, 111, 117, 122, 123, 124, 125, 126, 127, 128, 129, 130, 131] (by decide +kernel) (by decide +kernel)
set_option maxRecDepth 20000 in
theorem gX7_least_X7_finding : GoodIn wsX7_least (wsV RX7 80 RX7 yX7_finding wsX7_finding) := goodIn_app (goodIn_of _ (by decide +kernel)) ggX7_least_X7_finding
set_option maxRecDepth 20000 in
theorem ggX7_least_X3_commonCost : GoodIn wsX7_least wsX3_commonCost := goodIn_r _ [121, 91, 132, 133, 134, 135, 136, 137, 138, 139, 140] (by decide +kernel) (by decide +kernel)
set_option maxRecDepth 20000 in
theorem gX7_least_X3_commonCost : GoodIn wsX7_least (wsV RX7 213 RX3 yX3_commonCost wsX3_commonCost) := goodIn_app (goodIn_of _ (by decide +kernel)) ggX7_least_X3_commonCost
theorem dX7_least_0 : decode cX7_least 0 = .ok (.aload_n 0, 1) := by decide +kernel
theorem dX7_least_1 : decode cX7_least 1 = .ok (.getfield 54, 3) := by decide +kernel
theorem dX7_least_4 : decode cX7_least 4 = .ok (.aload_n 0, 1) := by decide +kernel
theorem dX7_least_5 : decode cX7_least 5 = .ok (.getfield 47, 3) := by decide +kernel
theorem dX7_least_8 : decode cX7_least 8 = .ok (.aload_n 0, 1) := by decide +kernel
theorem dX7_least_9 : decode cX7_least 9 = .ok (.getfield 19, 3) := by decide +kernel
theorem dX7_least_12 : decode cX7_least 12 = .ok (.invokevirtual 208, 3) := by decide +kernel
theorem dX7_least_15 : decode cX7_least 15 = .ok (.aload_n 0, 1) := by decide +kernel
theorem dX7_least_16 : decode cX7_least 16 = .ok (.getfield 54, 3) := by decide +kernel
theorem dX7_least_19 : decode cX7_least 19 = .ok (.invokevirtual 212, 3) := by decide +kernel
theorem dX7_least_22 : decode cX7_least 22 = .ok (.ifCond .ne 11, 3) := by decide +kernel
theorem dX7_least_25 : decode cX7_least 25 = .ok (.aload_n 0, 1) := by decide +kernel
theorem dX7_least_26 : decode cX7_least 26 = .ok (.iconst 2, 1) := by decide +kernel
theorem dX7_least_27 : decode cX7_least 27 = .ok (.invokevirtual 80, 3) := by decide +kernel
theorem dX7_least_30 : decode cX7_least 30 = .ok (.goto 11, 3) := by decide +kernel
theorem dX7_least_33 : decode cX7_least 33 = .ok (.aload_n 0, 1) := by decide +kernel
theorem dX7_least_34 : decode cX7_least 34 = .ok (.getfield 54, 3) := by decide +kernel
theorem dX7_least_37 : decode cX7_least 37 = .ok (.invokevirtual 213, 3) := by decide +kernel
theorem dX7_least_40 : decode cX7_least 40 = .ok (.i2l, 1) := by decide +kernel
theorem dX7_least_41 : decode cX7_least 41 = .ok (.lreturn, 1) := by decide +kernel
set_option maxRecDepth 20000 in
theorem ggX7_many_X3_update : GoodIn wsX7_many wsX3_update := goodIn_r _ [8, 9, 10, 11, 12, 7, 13, 14, 15, 16, 17, 18, 19, 20, 21, 22, 23, 24, 25, 26, 27, 28, 29, 30, 31, 32, 33, 34, 35, 36, 37, 38, 39, 40, 41, 42, 43, 44, 45, 46, 47, 48, 49, 50, 51, 52, 53, 54, 55, 56, 57, 58, 59, 60, 61, 62, 63, 64, 65, 66, 67, 68, 69, 70, 71, 72, 73, 74, 75, 76, 77, 78, 79, 80, 81, 82, 83, 84, 85, 86, 87, 88, 89, 90, 91, 92, 93, 94, 95, 96, 97, 98, 99, 100, 101, 102, 103, 118, 119, 120, 121, 122, 123, 124, 125, 126, 127, 128, 129, 130, 131, 132, 133, 134, 135, 136, 137, 138, 139, 140, 141, 142] (by decide +kernel) (by decide +kernel)
set_option maxRecDepth 20000 in
theorem gX7_many_X3_update : GoodIn wsX7_many (wsV RX7 208 RX3 yX3_update wsX3_update) := goodIn_app (goodIn_of _ (by decide +kernel)) ggX7_many_X3_update
set_option maxRecDepth 20000 in
theorem ggX7_many_X3_size : GoodIn wsX7_many wsX3_size := goodIn_r _ [107, 14, 118, 119, 120, 121, 122, 123, 124, 125, 126] (by decide +kernel) (by decide +kernel)
set_option maxRecDepth 20000 in
theorem gX7_many_X3_size : GoodIn wsX7_many (wsV RX7 212 RX3 yX3_size wsX3_size) := goodIn_app (goodIn_of _ (by decide +kernel)) ggX7_many_X3_size
theorem dX7_many_0 : decode cX7_many 0 = .ok (.aload_n 0, 1) := by decide +kernel
theorem dX7_many_1 : decode cX7_many 1 = .ok (.getfield 54, 3) := by decide +kernel
theorem dX7_many_4 : decode cX7_many 4 = .ok (.aload_n 0, 1) := by decide +kernel
theorem dX7_many_5 : decode cX7_many 5 = .ok (.getfield 47, 3) := by decide +kernel
theorem dX7_many_8 : decode cX7_many 8 = .ok (.aload_n 0, 1) := by decide +kernel
theorem dX7_many_9 : decode cX7_many 9 = .ok (.getfield 19, 3) := by decide +kernel
theorem dX7_many_12 : decode cX7_many 12 = .ok (.invokevirtual 208, 3) := by decide +kernel
theorem dX7_many_15 : decode cX7_many 15 = .ok (.aload_n 0, 1) := by decide +kernel
theorem dX7_many_16 : decode cX7_many 16 = .ok (.getfield 54, 3) := by decide +kernel
theorem dX7_many_19 : decode cX7_many 19 = .ok (.invokevirtual 212, 3) := by decide +kernel
theorem dX7_many_22 : decode cX7_many 22 = .ok (.i2l, 1) := by decide +kernel
theorem dX7_many_23 : decode cX7_many 23 = .ok (.lreturn, 1) := by decide +kernel
set_option maxRecDepth 20000 in
theorem ggX7_story_X7_finding : GoodIn wsX7_story wsX7_finding := goodIn_r _ [8, 9, 10, 11, 12, 7, 13, 122, 123, 124, 125, 126, 127, 128, 129, 130, 131] (by decide +kernel) (by decide +kernel)
set_option maxRecDepth 20000 in
theorem gX7_story_X7_finding : GoodIn wsX7_story (wsV RX7 80 RX7 yX7_finding wsX7_finding) := goodIn_app (goodIn_of _ (by decide +kernel)) ggX7_story_X7_finding
set_option maxRecDepth 20000 in
theorem ggX7_story_X3_update : GoodIn wsX7_story wsX3_update := goodIn_r _ [18, 19, 20, 21, 22, 17, 23, 24, 25, 26, 27, 28, 29, 30, 31, 32, 33, 34, 35, 36, 37, 38, 39, 40, 41, 42, 43, 44, 45, 46, 47, 48, 49, 50, 51, 52, 53, 54, 55, 56, 57, 58, 59, 60, 61, 62, 63, 64, 65, 66, 67, 68, 69, 70, 71, 72, 73, 74, 75, 76, 77, 78, 79, 80, 81, 82, 83, 84, 85, 86, 87, 88, 89, 90, 91, 92, 93, 94, 95, 96, 97, 98, 99, 100, 101, 102, 103, 104, 105, 106, 107, 108, 109, 110, 111, 112, 113, 132, 133, 134, 135, 136, 137, 138, 139, 140, 141, 142, 143, 144, 145, 146, 147, 148, 149, 150, 151, 152, 153, 154, 155, 156] (by decide +kernel) (by decide +kernel)
set_option maxRecDepth 20000 in
theorem gX7_story_X3_update : GoodIn wsX7_story (wsV RX7 208 RX3 yX3_update wsX3_update) := goodIn_app (goodIn_of _ (by decide +kernel)) ggX7_story_X3_update
set_option maxRecDepth 20000 in
theorem ggX7_story_X3_size : GoodIn wsX7_story wsX3_size := goodIn_r _ [117, 24, 132, 133, 134, 135, 136, 137, 138, 139, 140] (by decide +kernel) (by decide +kernel)
set_option maxRecDepth 20000 in
theorem gX7_story_X3_size : GoodIn wsX7_story (wsV RX7 212 RX3 yX3_size wsX3_size) := goodIn_app (goodIn_of _ (by decide +kernel)) ggX7_story_X3_size
set_option maxRecDepth 20000 in
theorem ggX7_story_X3_at : GoodIn wsX7_story wsX3_at := goodIn_r _ [121, 24, 102, 12, 7, 13, 132, 133, 134, 135, 136, 137, 138, 139, 140] (by decide +kernel) (by decide +kernel)
set_option maxRecDepth 20000 in
theorem gX7_story_X3_at : GoodIn wsX7_story (wsV RX7 216 RX3 yX3_at wsX3_at) := goodIn_app (goodIn_of _ (by decide +kernel)) ggX7_story_X3_at
theorem dX7_story_0 : decode cX7_story 0 = .ok (.iload_n 1, 1) := by decide +kernel
theorem dX7_story_1 : decode cX7_story 1 = .ok (.ifCond .ge 9, 3) := by decide +kernel
theorem dX7_story_4 : decode cX7_story 4 = .ok (.aload_n 0, 1) := by decide +kernel
theorem dX7_story_5 : decode cX7_story 5 = .ok (.iconst 1, 1) := by decide +kernel
theorem dX7_story_6 : decode cX7_story 6 = .ok (.invokevirtual 80, 3) := by decide +kernel
theorem dX7_story_9 : decode cX7_story 9 = .ok (.lreturn, 1) := by decide +kernel
theorem dX7_story_10 : decode cX7_story 10 = .ok (.aload_n 0, 1) := by decide +kernel
theorem dX7_story_11 : decode cX7_story 11 = .ok (.getfield 54, 3) := by decide +kernel
theorem dX7_story_14 : decode cX7_story 14 = .ok (.aload_n 0, 1) := by decide +kernel
theorem dX7_story_15 : decode cX7_story 15 = .ok (.getfield 47, 3) := by decide +kernel
theorem dX7_story_18 : decode cX7_story 18 = .ok (.aload_n 0, 1) := by decide +kernel
theorem dX7_story_19 : decode cX7_story 19 = .ok (.getfield 19, 3) := by decide +kernel
theorem dX7_story_22 : decode cX7_story 22 = .ok (.invokevirtual 208, 3) := by decide +kernel
theorem dX7_story_25 : decode cX7_story 25 = .ok (.iload_n 1, 1) := by decide +kernel
theorem dX7_story_26 : decode cX7_story 26 = .ok (.aload_n 0, 1) := by decide +kernel
theorem dX7_story_27 : decode cX7_story 27 = .ok (.getfield 54, 3) := by decide +kernel
theorem dX7_story_30 : decode cX7_story 30 = .ok (.invokevirtual 212, 3) := by decide +kernel
theorem dX7_story_33 : decode cX7_story 33 = .ok (.if_icmp .lt 11, 3) := by decide +kernel
theorem dX7_story_36 : decode cX7_story 36 = .ok (.aload_n 0, 1) := by decide +kernel
theorem dX7_story_37 : decode cX7_story 37 = .ok (.iconst 2, 1) := by decide +kernel
theorem dX7_story_38 : decode cX7_story 38 = .ok (.invokevirtual 80, 3) := by decide +kernel
theorem dX7_story_41 : decode cX7_story 41 = .ok (.goto 12, 3) := by decide +kernel
theorem dX7_story_44 : decode cX7_story 44 = .ok (.aload_n 0, 1) := by decide +kernel
theorem dX7_story_45 : decode cX7_story 45 = .ok (.getfield 54, 3) := by decide +kernel
theorem dX7_story_48 : decode cX7_story 48 = .ok (.iload_n 1, 1) := by decide +kernel
theorem dX7_story_49 : decode cX7_story 49 = .ok (.invokevirtual 216, 3) := by decide +kernel
theorem dX7_story_52 : decode cX7_story 52 = .ok (.i2l, 1) := by decide +kernel
theorem dX7_story_53 : decode cX7_story 53 = .ok (.lreturn, 1) := by decide +kernel
set_option maxRecDepth 20000 in
theorem ggX7_sure_X7_isWithin : GoodIn wsX7_sure wsX7_isWithin := goodIn_r _ [8] (by decide +kernel) (by decide +kernel)
set_option maxRecDepth 20000 in
theorem gX7_sure_X7_isWithin : GoodIn wsX7_sure (va_wsS RX7 69 yX7_isWithin wsX7_isWithin) := goodIn_app (goodIn_of _ (by decide +kernel)) ggX7_sure_X7_isWithin
set_option maxRecDepth 20000 in
theorem ggX7_sure_X2_isKnown : GoodIn wsX7_sure wsX2_isKnown := goodIn_r _ [13, 14, 6, 7, 8, 141, 142, 143, 144, 145, 146, 147, 148, 149] (by decide +kernel) (by decide +kernel)
set_option maxRecDepth 20000 in
theorem gX7_sure_X2_isKnown : GoodIn wsX7_sure (wsV RX7 184 RX2 yX2_isKnown wsX2_isKnown) := goodIn_app (goodIn_of _ (by decide +kernel)) ggX7_sure_X2_isKnown
set_option maxRecDepth 20000 in
theorem ggX7_sure_X7_finding : GoodIn wsX7_sure wsX7_finding := goodIn_r _ [18, 19, 20, 5, 6, 7, 8, 131, 132, 133, 134, 135, 136, 137, 138, 139, 140] (by decide +kernel) (by decide +kernel)
set_option maxRecDepth 20000 in
theorem gX7_sure_X7_finding : GoodIn wsX7_sure (wsV RX7 80 RX7 yX7_finding wsX7_finding) := goodIn_app (goodIn_of _ (by decide +kernel)) ggX7_sure_X7_finding
set_option maxRecDepth 20000 in
theorem ggX7_sure_X3_update : GoodIn wsX7_sure wsX3_update := goodIn_r _ [25, 26, 27, 28, 29, 24, 30, 31, 32, 33, 34, 12, 35, 14, 36, 37, 38, 39, 40, 41, 42, 43, 44, 45, 46, 47, 48, 49, 50, 51, 52, 53, 54, 55, 56, 57, 58, 59, 60, 61, 62, 63, 64, 65, 66, 67, 68, 69, 70, 71, 72, 73, 74, 75, 76, 77, 78, 79, 80, 81, 82, 83, 84, 85, 86, 87, 88, 89, 90, 91, 92, 93, 94, 95, 96, 97, 98, 99, 100, 101, 102, 103, 104, 105, 106, 107, 108, 109, 110, 111, 112, 113, 114, 115, 116, 117, 118, 150, 151, 152, 153, 154, 155, 156, 157, 158, 141, 142, 143, 144, 145, 146, 147, 148, 149, 159, 160, 161, 162, 163, 164, 165] (by decide +kernel) (by decide +kernel)
set_option maxRecDepth 20000 in
theorem gX7_sure_X3_update : GoodIn wsX7_sure (wsV RX7 208 RX3 yX3_update wsX3_update) := goodIn_app (goodIn_of _ (by decide +kernel)) ggX7_sure_X3_update
set_option maxRecDepth 20000 in
theorem ggX7_sure_X3_size : GoodIn wsX7_sure wsX3_size := goodIn_r _ [122, 31, 150, 151, 152, 153, 154, 155, 156, 157, 158] (by decide +kernel) (by decide +kernel)
set_option maxRecDepth 20000 in
theorem gX7_sure_X3_size : GoodIn wsX7_sure (wsV RX7 212 RX3 yX3_size wsX3_size) := goodIn_app (goodIn_of _ (by decide +kernel)) ggX7_sure_X3_size
set_option maxRecDepth 20000 in
theorem ggX7_sure_X3_isInAll : GoodIn wsX7_sure wsX3_isInAll := goodIn_r _ [126, 112, 150, 151, 152, 153, 154, 155, 156, 157, 158] (by decide +kernel) (by decide +kernel)
set_option maxRecDepth 20000 in
theorem gX7_sure_X3_isInAll : GoodIn wsX7_sure (wsV RX7 219 RX3 yX3_isInAll wsX3_isInAll) := goodIn_app (goodIn_of _ (by decide +kernel)) ggX7_sure_X3_isInAll
set_option maxRecDepth 20000 in
theorem ggX7_sure_X3_isInSome : GoodIn wsX7_sure wsX3_isInSome := goodIn_r _ [130, 113, 150, 151, 152, 153, 154, 155, 156, 157, 158] (by decide +kernel) (by decide +kernel)
set_option maxRecDepth 20000 in
theorem gX7_sure_X3_isInSome : GoodIn wsX7_sure (wsV RX7 222 RX3 yX3_isInSome wsX3_isInSome) := goodIn_app (goodIn_of _ (by decide +kernel)) ggX7_sure_X3_isInSome
theorem dX7_sure_0 : decode cX7_sure 0 = .ok (.iload_n 1, 1) := by decide +kernel
theorem dX7_sure_1 : decode cX7_sure 1 = .ok (.iconst 0, 1) := by decide +kernel
theorem dX7_sure_2 : decode cX7_sure 2 = .ok (.bipush 9, 2) := by decide +kernel
theorem dX7_sure_4 : decode cX7_sure 4 = .ok (.invokestatic 69, 3) := by decide +kernel
theorem dX7_sure_7 : decode cX7_sure 7 = .ok (.ifCond .eq 14, 3) := by decide +kernel
theorem dX7_sure_10 : decode cX7_sure 10 = .ok (.aload_n 0, 1) := by decide +kernel
theorem dX7_sure_11 : decode cX7_sure 11 = .ok (.getfield 47, 3) := by decide +kernel
theorem dX7_sure_14 : decode cX7_sure 14 = .ok (.iload_n 1, 1) := by decide +kernel
theorem dX7_sure_15 : decode cX7_sure 15 = .ok (.invokevirtual 184, 3) := by decide +kernel
theorem dX7_sure_18 : decode cX7_sure 18 = .ok (.ifCond .ne 9, 3) := by decide +kernel
theorem dX7_sure_21 : decode cX7_sure 21 = .ok (.aload_n 0, 1) := by decide +kernel
theorem dX7_sure_22 : decode cX7_sure 22 = .ok (.iconst 1, 1) := by decide +kernel
theorem dX7_sure_23 : decode cX7_sure 23 = .ok (.invokevirtual 80, 3) := by decide +kernel
theorem dX7_sure_26 : decode cX7_sure 26 = .ok (.lreturn, 1) := by decide +kernel
theorem dX7_sure_27 : decode cX7_sure 27 = .ok (.aload_n 0, 1) := by decide +kernel
theorem dX7_sure_28 : decode cX7_sure 28 = .ok (.getfield 54, 3) := by decide +kernel
theorem dX7_sure_31 : decode cX7_sure 31 = .ok (.aload_n 0, 1) := by decide +kernel
theorem dX7_sure_32 : decode cX7_sure 32 = .ok (.getfield 47, 3) := by decide +kernel
theorem dX7_sure_35 : decode cX7_sure 35 = .ok (.aload_n 0, 1) := by decide +kernel
theorem dX7_sure_36 : decode cX7_sure 36 = .ok (.getfield 19, 3) := by decide +kernel
theorem dX7_sure_39 : decode cX7_sure 39 = .ok (.invokevirtual 208, 3) := by decide +kernel
theorem dX7_sure_42 : decode cX7_sure 42 = .ok (.aload_n 0, 1) := by decide +kernel
theorem dX7_sure_43 : decode cX7_sure 43 = .ok (.getfield 54, 3) := by decide +kernel
theorem dX7_sure_46 : decode cX7_sure 46 = .ok (.invokevirtual 212, 3) := by decide +kernel
theorem dX7_sure_49 : decode cX7_sure 49 = .ok (.ifCond .ne 9, 3) := by decide +kernel
theorem dX7_sure_52 : decode cX7_sure 52 = .ok (.aload_n 0, 1) := by decide +kernel
theorem dX7_sure_53 : decode cX7_sure 53 = .ok (.iconst 2, 1) := by decide +kernel
theorem dX7_sure_54 : decode cX7_sure 54 = .ok (.invokevirtual 80, 3) := by decide +kernel
theorem dX7_sure_57 : decode cX7_sure 57 = .ok (.lreturn, 1) := by decide +kernel
theorem dX7_sure_58 : decode cX7_sure 58 = .ok (.aload_n 0, 1) := by decide +kernel
theorem dX7_sure_59 : decode cX7_sure 59 = .ok (.getfield 54, 3) := by decide +kernel
theorem dX7_sure_62 : decode cX7_sure 62 = .ok (.iload_n 1, 1) := by decide +kernel
theorem dX7_sure_63 : decode cX7_sure 63 = .ok (.invokevirtual 219, 3) := by decide +kernel
theorem dX7_sure_66 : decode cX7_sure 66 = .ok (.ifCond .eq 5, 3) := by decide +kernel
theorem dX7_sure_69 : decode cX7_sure 69 = .ok (.lconst 1, 1) := by decide +kernel
theorem dX7_sure_70 : decode cX7_sure 70 = .ok (.lreturn, 1) := by decide +kernel
theorem dX7_sure_71 : decode cX7_sure 71 = .ok (.aload_n 0, 1) := by decide +kernel
theorem dX7_sure_72 : decode cX7_sure 72 = .ok (.getfield 54, 3) := by decide +kernel
theorem dX7_sure_75 : decode cX7_sure 75 = .ok (.iload_n 1, 1) := by decide +kernel
theorem dX7_sure_76 : decode cX7_sure 76 = .ok (.invokevirtual 222, 3) := by decide +kernel
theorem dX7_sure_79 : decode cX7_sure 79 = .ok (.ifCond .eq 7, 3) := by decide +kernel
theorem dX7_sure_82 : decode cX7_sure 82 = .ok (.lconst 0, 1) := by decide +kernel
theorem dX7_sure_83 : decode cX7_sure 83 = .ok (.goto 6, 3) := by decide +kernel
theorem dX7_sure_86 : decode cX7_sure 86 = .ok (.ldc2_w 225, 3) := by decide +kernel
theorem dX7_sure_89 : decode cX7_sure 89 = .ok (.lreturn, 1) := by decide +kernel
set_option maxRecDepth 20000 in
theorem ggX7_parts_X7_isWithin : GoodIn wsX7_parts wsX7_isWithin := goodIn_r _ [7] (by decide +kernel) (by decide +kernel)
set_option maxRecDepth 20000 in
theorem gX7_parts_X7_isWithin : GoodIn wsX7_parts (va_wsS RX7 69 yX7_isWithin wsX7_isWithin) := goodIn_app (goodIn_of _ (by decide +kernel)) ggX7_parts_X7_isWithin
set_option maxRecDepth 20000 in
theorem ggX7_parts_X7_finding : GoodIn wsX7_parts wsX7_finding := goodIn_r _ [11, 12, 13, 4, 5, 6, 7, 131, 132, 133, 134, 135, 136, 137, 138, 139, 140] (by decide +kernel) (by decide +kernel)
set_option maxRecDepth 20000 in
theorem gX7_parts_X7_finding : GoodIn wsX7_parts (wsV RX7 80 RX7 yX7_finding wsX7_finding) := goodIn_app (goodIn_of _ (by decide +kernel)) ggX7_parts_X7_finding
set_option maxRecDepth 20000 in
theorem ggX7_parts_X7_isThere : GoodIn wsX7_parts wsX7_isThere := goodIn_r _ [17, 3, 18, 19, 20, 21, 22, 23, 131, 132, 133, 134, 135, 136, 137, 138, 139, 140, 141, 142, 143, 144, 145, 146, 147] (by decide +kernel) (by decide +kernel)
set_option maxRecDepth 20000 in
theorem gX7_parts_X7_isThere : GoodIn wsX7_parts (wsV RX7 227 RX7 yX7_isThere wsX7_isThere) := goodIn_app (goodIn_of _ (by decide +kernel)) ggX7_parts_X7_isThere
set_option maxRecDepth 20000 in
theorem ggX7_parts_X3_update : GoodIn wsX7_parts wsX3_update := goodIn_r _ [28, 29, 30, 31, 32, 27, 33, 34, 35, 36, 37, 38, 39, 40, 41, 42, 43, 44, 45, 46, 47, 48, 49, 50, 51, 52, 53, 54, 55, 56, 57, 58, 59, 60, 61, 19, 20, 21, 22, 23, 62, 63, 64, 65, 66, 67, 68, 69, 70, 71, 72, 73, 74, 75, 76, 77, 78, 79, 80, 81, 82, 83, 84, 85, 86, 87, 88, 89, 90, 91, 92, 93, 94, 95, 96, 97, 98, 99, 100, 101, 102, 103, 104, 105, 106, 107, 108, 109, 110, 111, 112, 113, 114, 115, 116, 117, 118, 148, 149, 150, 151, 152, 153, 154, 155, 156, 157, 158, 159, 160, 161, 162, 163, 164, 165, 141, 142, 143, 144, 145, 146, 147] (by decide +kernel) (by decide +kernel)
set_option maxRecDepth 20000 in
theorem gX7_parts_X3_update : GoodIn wsX7_parts (wsV RX7 208 RX3 yX3_update wsX3_update) := goodIn_app (goodIn_of _ (by decide +kernel)) ggX7_parts_X3_update
set_option maxRecDepth 20000 in
theorem ggX7_parts_X3_size : GoodIn wsX7_parts wsX3_size := goodIn_r _ [122, 34, 148, 149, 150, 151, 152, 153, 154, 155, 156] (by decide +kernel) (by decide +kernel)
set_option maxRecDepth 20000 in
theorem gX7_parts_X3_size : GoodIn wsX7_parts (wsV RX7 212 RX3 yX3_size wsX3_size) := goodIn_app (goodIn_of _ (by decide +kernel)) ggX7_parts_X3_size
set_option maxRecDepth 20000 in
theorem ggX7_parts_X3_partedBy : GoodIn wsX7_parts wsX3_partedBy := goodIn_r _ [126, 114, 34, 127, 128, 129, 130, 5, 6, 7, 148, 149, 150, 151, 152, 153, 154, 155, 156] (by decide +kernel) (by decide +kernel)
