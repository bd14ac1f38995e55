theorem dX3_tallyRows_75 : decode cX3_tallyRows 75 = .ok (.invokevirtual 70, 3) := by decide +kernel
theorem dX3_tallyRows_78 : decode cX3_tallyRows 78 = .ok (.iconst (-1), 1) := by decide +kernel
theorem dX3_tallyRows_79 : decode cX3_tallyRows 79 = .ok (.ixor, 1) := by decide +kernel
theorem dX3_tallyRows_80 : decode cX3_tallyRows 80 = .ok (.iand, 1) := by decide +kernel
theorem dX3_tallyRows_81 : decode cX3_tallyRows 81 = .ok (.istore_n 3, 1) := by decide +kernel
theorem dX3_tallyRows_82 : decode cX3_tallyRows 82 = .ok (.iconst 0, 1) := by decide +kernel
theorem dX3_tallyRows_83 : decode cX3_tallyRows 83 = .ok (.istore 4, 2) := by decide +kernel
theorem dX3_tallyRows_85 : decode cX3_tallyRows 85 = .ok (.iload 4, 2) := by decide +kernel
theorem dX3_tallyRows_87 : decode cX3_tallyRows 87 = .ok (.bipush 16, 2) := by decide +kernel
theorem dX3_tallyRows_89 : decode cX3_tallyRows 89 = .ok (.if_icmp .ge 25, 3) := by decide +kernel
theorem dX3_tallyRows_92 : decode cX3_tallyRows 92 = .ok (.aload_n 0, 1) := by decide +kernel
theorem dX3_tallyRows_93 : decode cX3_tallyRows 93 = .ok (.getfield 15, 3) := by decide +kernel
theorem dX3_tallyRows_96 : decode cX3_tallyRows 96 = .ok (.iload 4, 2) := by decide +kernel
theorem dX3_tallyRows_98 : decode cX3_tallyRows 98 = .ok (.dup2, 1) := by decide +kernel
theorem dX3_tallyRows_99 : decode cX3_tallyRows 99 = .ok (.iaload, 1) := by decide +kernel
theorem dX3_tallyRows_100 : decode cX3_tallyRows 100 = .ok (.iload_n 3, 1) := by decide +kernel
theorem dX3_tallyRows_101 : decode cX3_tallyRows 101 = .ok (.iload 4, 2) := by decide +kernel
theorem dX3_tallyRows_103 : decode cX3_tallyRows 103 = .ok (.ishr, 1) := by decide +kernel
theorem dX3_tallyRows_104 : decode cX3_tallyRows 104 = .ok (.iconst 1, 1) := by decide +kernel
theorem dX3_tallyRows_105 : decode cX3_tallyRows 105 = .ok (.iand, 1) := by decide +kernel
theorem dX3_tallyRows_106 : decode cX3_tallyRows 106 = .ok (.iadd, 1) := by decide +kernel
theorem dX3_tallyRows_107 : decode cX3_tallyRows 107 = .ok (.iastore, 1) := by decide +kernel
theorem dX3_tallyRows_108 : decode cX3_tallyRows 108 = .ok (.iinc 4 1, 3) := by decide +kernel
theorem dX3_tallyRows_111 : decode cX3_tallyRows 111 = .ok (.goto (-26), 3) := by decide +kernel
theorem dX3_tallyRows_114 : decode cX3_tallyRows 114 = .ok (.iinc 2 1, 3) := by decide +kernel
theorem dX3_tallyRows_117 : decode cX3_tallyRows 117 = .ok (.goto (-95), 3) := by decide +kernel
theorem dX3_tallyRows_120 : decode cX3_tallyRows 120 = .ok (.return_, 1) := by decide +kernel
theorem dX4_init_0 : decode cX4_init 0 = .ok (.aload_n 0, 1) := by decide +kernel
theorem dX4_init_1 : decode cX4_init 1 = .ok (.invokespecial 3, 3) := by decide +kernel
theorem dX4_init_4 : decode cX4_init 4 = .ok (.aload_n 0, 1) := by decide +kernel
theorem dX4_init_5 : decode cX4_init 5 = .ok (.sipush 144, 3) := by decide +kernel
theorem dX4_init_8 : decode cX4_init 8 = .ok (.newarray .long, 2) := by decide +kernel
theorem dX4_init_10 : decode cX4_init 10 = .ok (.putfield 9, 3) := by decide +kernel
theorem dX4_init_13 : decode cX4_init 13 = .ok (.aload_n 0, 1) := by decide +kernel
theorem dX4_init_14 : decode cX4_init 14 = .ok (.sipush 144, 3) := by decide +kernel
theorem dX4_init_17 : decode cX4_init 17 = .ok (.newarray .long, 2) := by decide +kernel
theorem dX4_init_19 : decode cX4_init 19 = .ok (.putfield 15, 3) := by decide +kernel
theorem dX4_init_22 : decode cX4_init 22 = .ok (.aload_n 0, 1) := by decide +kernel
theorem dX4_init_23 : decode cX4_init 23 = .ok (.sipush 144, 3) := by decide +kernel
theorem dX4_init_26 : decode cX4_init 26 = .ok (.newarray .long, 2) := by decide +kernel
theorem dX4_init_28 : decode cX4_init 28 = .ok (.putfield 18, 3) := by decide +kernel
theorem dX4_init_31 : decode cX4_init 31 = .ok (.aload_n 0, 1) := by decide +kernel
theorem dX4_init_32 : decode cX4_init 32 = .ok (.iconst 0, 1) := by decide +kernel
theorem dX4_init_33 : decode cX4_init 33 = .ok (.putfield 21, 3) := by decide +kernel
theorem dX4_init_36 : decode cX4_init 36 = .ok (.return_, 1) := by decide +kernel
set_option maxRecDepth 20000 in
theorem ggX4_seek_X0_nodes : GoodIn wsX4_seek wsX0_nodes := goodIn_r _ [10, 11, 80, 81] (by decide +kernel) (by decide +kernel)
set_option maxRecDepth 20000 in
theorem gX4_seek_X0_nodes : GoodIn wsX4_seek (wsV RX4 25 RX0 yX0_nodes wsX0_nodes) := goodIn_app (goodIn_of _ (by decide +kernel)) ggX4_seek_X0_nodes
set_option maxRecDepth 20000 in
theorem ggX4_seek_X4_takeSteps : GoodIn wsX4_seek wsX4_takeSteps := goodIn_r _ [16, 17, 18, 5, 19, 20, 3, 21, 22, 23, 24, 25, 26, 27, 28, 9, 29, 30, 31, 32, 33, 34, 35, 11, 36, 37, 38, 39, 40, 41, 15, 42, 76, 77, 78, 79, 80, 81] (by decide +kernel) (by decide +kernel)
set_option maxRecDepth 20000 in
theorem gX4_seek_X4_takeSteps : GoodIn wsX4_seek (wsV RX4 37 RX4 yX4_takeSteps wsX4_takeSteps) := goodIn_app (goodIn_of _ (by decide +kernel)) ggX4_seek_X4_takeSteps
set_option maxRecDepth 20000 in
theorem ggX4_seek_X4_startWalks : GoodIn wsX4_seek wsX4_startWalks := goodIn_r _ [46, 47, 18, 5, 17, 22, 23, 24, 25, 76, 77, 78, 79] (by decide +kernel) (by decide +kernel)
set_option maxRecDepth 20000 in
theorem gX4_seek_X4_startWalks : GoodIn wsX4_seek (wsV RX4 41 RX4 yX4_startWalks wsX4_startWalks) := goodIn_app (goodIn_of _ (by decide +kernel)) ggX4_seek_X4_startWalks
set_option maxRecDepth 20000 in
theorem ggX4_seek_X4_lengthenWalks : GoodIn wsX4_seek wsX4_lengthenWalks := goodIn_r _ [51, 52, 18, 5, 47, 22, 23, 24, 25, 53, 54, 55, 15, 56, 17, 76, 77, 78, 79] (by decide +kernel) (by decide +kernel)
set_option maxRecDepth 20000 in
theorem gX4_seek_X4_lengthenWalks : GoodIn wsX4_seek (wsV RX4 45 RX4 yX4_lengthenWalks wsX4_lengthenWalks) := goodIn_app (goodIn_of _ (by decide +kernel)) ggX4_seek_X4_lengthenWalks
set_option maxRecDepth 20000 in
theorem ggX4_seek_X4_startsBelowZero : GoodIn wsX4_seek wsX4_startsBelowZero := goodIn_r _ [60, 5, 47, 76, 77, 78, 79] (by decide +kernel) (by decide +kernel)
set_option maxRecDepth 20000 in
theorem gX4_seek_X4_startsBelowZero : GoodIn wsX4_seek (wsV RX4 48 RX4 yX4_startsBelowZero wsX4_startsBelowZero) := goodIn_app (goodIn_of _ (by decide +kernel)) ggX4_seek_X4_startsBelowZero
set_option maxRecDepth 20000 in
theorem ggX4_seek_X4_leastRing : GoodIn wsX4_seek wsX4_leastRing := goodIn_r _ [64, 5, 65, 66, 67, 68, 69, 70, 71, 72, 73, 74, 15, 75, 43, 44, 45, 46, 47, 18, 17, 22, 23, 24, 25, 48, 49, 50, 51, 52, 53, 54, 55, 56, 57, 58, 59, 60, 76, 77, 78, 79] (by decide +kernel) (by decide +kernel)
set_option maxRecDepth 20000 in
theorem gX4_seek_X4_leastRing : GoodIn wsX4_seek (wsV RX4 51 RX4 yX4_leastRing wsX4_leastRing) := goodIn_app (goodIn_of _ (by decide +kernel)) ggX4_seek_X4_leastRing
theorem dX4_seek_0 : decode cX4_seek 0 = .ok (.aload_n 0, 1) := by decide +kernel
theorem dX4_seek_1 : decode cX4_seek 1 = .ok (.aload_n 1, 1) := by decide +kernel
theorem dX4_seek_2 : decode cX4_seek 2 = .ok (.invokevirtual 25, 3) := by decide +kernel
theorem dX4_seek_5 : decode cX4_seek 5 = .ok (.iconst 1, 1) := by decide +kernel
theorem dX4_seek_6 : decode cX4_seek 6 = .ok (.isub, 1) := by decide +kernel
theorem dX4_seek_7 : decode cX4_seek 7 = .ok (.bipush 12, 2) := by decide +kernel
theorem dX4_seek_9 : decode cX4_seek 9 = .ok (.invokestatic 31, 3) := by decide +kernel
theorem dX4_seek_12 : decode cX4_seek 12 = .ok (.putfield 21, 3) := by decide +kernel
theorem dX4_seek_15 : decode cX4_seek 15 = .ok (.aload_n 0, 1) := by decide +kernel
theorem dX4_seek_16 : decode cX4_seek 16 = .ok (.aload_n 1, 1) := by decide +kernel
theorem dX4_seek_17 : decode cX4_seek 17 = .ok (.invokevirtual 37, 3) := by decide +kernel
theorem dX4_seek_20 : decode cX4_seek 20 = .ok (.iconst 1, 1) := by decide +kernel
theorem dX4_seek_21 : decode cX4_seek 21 = .ok (.aload_n 0, 1) := by decide +kernel
theorem dX4_seek_22 : decode cX4_seek 22 = .ok (.getfield 21, 3) := by decide +kernel
theorem dX4_seek_25 : decode cX4_seek 25 = .ok (.ishl, 1) := by decide +kernel
theorem dX4_seek_26 : decode cX4_seek 26 = .ok (.iconst 1, 1) := by decide +kernel
theorem dX4_seek_27 : decode cX4_seek 27 = .ok (.isub, 1) := by decide +kernel
theorem dX4_seek_28 : decode cX4_seek 28 = .ok (.istore_n 2, 1) := by decide +kernel
theorem dX4_seek_29 : decode cX4_seek 29 = .ok (.aload_n 0, 1) := by decide +kernel
theorem dX4_seek_30 : decode cX4_seek 30 = .ok (.iload_n 2, 1) := by decide +kernel
theorem dX4_seek_31 : decode cX4_seek 31 = .ok (.invokevirtual 41, 3) := by decide +kernel
theorem dX4_seek_34 : decode cX4_seek 34 = .ok (.iconst 2, 1) := by decide +kernel
theorem dX4_seek_35 : decode cX4_seek 35 = .ok (.istore_n 3, 1) := by decide +kernel
theorem dX4_seek_36 : decode cX4_seek 36 = .ok (.iload_n 3, 1) := by decide +kernel
theorem dX4_seek_37 : decode cX4_seek 37 = .ok (.aload_n 0, 1) := by decide +kernel
theorem dX4_seek_38 : decode cX4_seek 38 = .ok (.getfield 21, 3) := by decide +kernel
theorem dX4_seek_41 : decode cX4_seek 41 = .ok (.if_icmp .gt 33, 3) := by decide +kernel
theorem dX4_seek_44 : decode cX4_seek 44 = .ok (.aload_n 0, 1) := by decide +kernel
theorem dX4_seek_45 : decode cX4_seek 45 = .ok (.iload_n 2, 1) := by decide +kernel
theorem dX4_seek_46 : decode cX4_seek 46 = .ok (.invokevirtual 45, 3) := by decide +kernel
theorem dX4_seek_49 : decode cX4_seek 49 = .ok (.aload_n 0, 1) := by decide +kernel
theorem dX4_seek_50 : decode cX4_seek 50 = .ok (.invokevirtual 48, 3) := by decide +kernel
theorem dX4_seek_53 : decode cX4_seek 53 = .ok (.istore 4, 2) := by decide +kernel
theorem dX4_seek_55 : decode cX4_seek 55 = .ok (.iload 4, 2) := by decide +kernel
theorem dX4_seek_57 : decode cX4_seek 57 = .ok (.ifCond .eq 11, 3) := by decide +kernel
theorem dX4_seek_60 : decode cX4_seek 60 = .ok (.aload_n 0, 1) := by decide +kernel
theorem dX4_seek_61 : decode cX4_seek 61 = .ok (.iload 4, 2) := by decide +kernel
theorem dX4_seek_63 : decode cX4_seek 63 = .ok (.iload_n 3, 1) := by decide +kernel
theorem dX4_seek_64 : decode cX4_seek 64 = .ok (.invokevirtual 51, 3) := by decide +kernel
theorem dX4_seek_67 : decode cX4_seek 67 = .ok (.ireturn, 1) := by decide +kernel
theorem dX4_seek_68 : decode cX4_seek 68 = .ok (.iinc 3 1, 3) := by decide +kernel
theorem dX4_seek_71 : decode cX4_seek 71 = .ok (.goto (-35), 3) := by decide +kernel
theorem dX4_seek_74 : decode cX4_seek 74 = .ok (.iconst 0, 1) := by decide +kernel
theorem dX4_seek_75 : decode cX4_seek 75 = .ok (.ireturn, 1) := by decide +kernel
set_option maxRecDepth 20000 in
theorem ggX4_leastRing_J6_bitCount_0f7a4 : GoodIn wsX4_leastRing wsJ6_bitCount_0f7a4 := goodIn_r _ [5, 6, 7, 8] (by decide +kernel) (by decide +kernel)
set_option maxRecDepth 20000 in
theorem gX4_leastRing_J6_bitCount_0f7a4 : GoodIn wsX4_leastRing (va_wsS RX4 54 yJ6_bitCount_0f7a4 wsJ6_bitCount_0f7a4) := goodIn_app (goodIn_of _ (by decide +kernel)) ggX4_leastRing_J6_bitCount_0f7a4
set_option maxRecDepth 20000 in
theorem ggX4_leastRing_X4_onRingsAmong : GoodIn wsX4_leastRing wsX4_onRingsAmong := goodIn_r _ [13, 14, 15, 16, 12, 17, 18, 19, 1, 20, 21, 22, 23, 24, 25, 26, 27, 28, 29, 30, 31, 32, 33, 34, 35, 36, 37, 38, 39, 40, 41] (by decide +kernel) (by decide +kernel)
set_option maxRecDepth 20000 in
theorem gX4_leastRing_X4_onRingsAmong : GoodIn wsX4_leastRing (wsV RX4 60 RX4 yX4_onRingsAmong wsX4_onRingsAmong) := goodIn_app (goodIn_of _ (by decide +kernel)) ggX4_leastRing_X4_onRingsAmong
theorem dX4_leastRing_0 : decode cX4_leastRing 0 = .ok (.iload_n 1, 1) := by decide +kernel
theorem dX4_leastRing_1 : decode cX4_leastRing 1 = .ok (.istore_n 3, 1) := by decide +kernel
theorem dX4_leastRing_2 : decode cX4_leastRing 2 = .ok (.aload_n 0, 1) := by decide +kernel
theorem dX4_leastRing_3 : decode cX4_leastRing 3 = .ok (.getfield 21, 3) := by decide +kernel
theorem dX4_leastRing_6 : decode cX4_leastRing 6 = .ok (.iconst 1, 1) := by decide +kernel
theorem dX4_leastRing_7 : decode cX4_leastRing 7 = .ok (.isub, 1) := by decide +kernel
theorem dX4_leastRing_8 : decode cX4_leastRing 8 = .ok (.istore 4, 2) := by decide +kernel
theorem dX4_leastRing_10 : decode cX4_leastRing 10 = .ok (.iload 4, 2) := by decide +kernel
theorem dX4_leastRing_12 : decode cX4_leastRing 12 = .ok (.ifCond .lt 53, 3) := by decide +kernel
theorem dX4_leastRing_15 : decode cX4_leastRing 15 = .ok (.iload_n 3, 1) := by decide +kernel
theorem dX4_leastRing_16 : decode cX4_leastRing 16 = .ok (.invokestatic 54, 3) := by decide +kernel
theorem dX4_leastRing_19 : decode cX4_leastRing 19 = .ok (.iload_n 2, 1) := by decide +kernel
theorem dX4_leastRing_20 : decode cX4_leastRing 20 = .ok (.if_icmp .le 45, 3) := by decide +kernel
theorem dX4_leastRing_23 : decode cX4_leastRing 23 = .ok (.iload_n 3, 1) := by decide +kernel
theorem dX4_leastRing_24 : decode cX4_leastRing 24 = .ok (.iload 4, 2) := by decide +kernel
theorem dX4_leastRing_26 : decode cX4_leastRing 26 = .ok (.ishr, 1) := by decide +kernel
theorem dX4_leastRing_27 : decode cX4_leastRing 27 = .ok (.iconst 1, 1) := by decide +kernel
theorem dX4_leastRing_28 : decode cX4_leastRing 28 = .ok (.iand, 1) := by decide +kernel
theorem dX4_leastRing_29 : decode cX4_leastRing 29 = .ok (.ifCond .eq 30, 3) := by decide +kernel
theorem dX4_leastRing_32 : decode cX4_leastRing 32 = .ok (.aload_n 0, 1) := by decide +kernel
theorem dX4_leastRing_33 : decode cX4_leastRing 33 = .ok (.iload_n 3, 1) := by decide +kernel
theorem dX4_leastRing_34 : decode cX4_leastRing 34 = .ok (.iconst 1, 1) := by decide +kernel
theorem dX4_leastRing_35 : decode cX4_leastRing 35 = .ok (.iload 4, 2) := by decide +kernel
theorem dX4_leastRing_37 : decode cX4_leastRing 37 = .ok (.ishl, 1) := by decide +kernel
theorem dX4_leastRing_38 : decode cX4_leastRing 38 = .ok (.iconst (-1), 1) := by decide +kernel
theorem dX4_leastRing_39 : decode cX4_leastRing 39 = .ok (.ixor, 1) := by decide +kernel
theorem dX4_leastRing_40 : decode cX4_leastRing 40 = .ok (.iand, 1) := by decide +kernel
theorem dX4_leastRing_41 : decode cX4_leastRing 41 = .ok (.iload_n 2, 1) := by decide +kernel
theorem dX4_leastRing_42 : decode cX4_leastRing 42 = .ok (.invokevirtual 60, 3) := by decide +kernel
theorem dX4_leastRing_45 : decode cX4_leastRing 45 = .ok (.istore 5, 2) := by decide +kernel
theorem dX4_leastRing_47 : decode cX4_leastRing 47 = .ok (.iload 5, 2) := by decide +kernel
theorem dX4_leastRing_49 : decode cX4_leastRing 49 = .ok (.ifCond .eq 8, 3) := by decide +kernel
theorem dX4_leastRing_52 : decode cX4_leastRing 52 = .ok (.iload 5, 2) := by decide +kernel
theorem dX4_leastRing_54 : decode cX4_leastRing 54 = .ok (.goto 4, 3) := by decide +kernel
theorem dX4_leastRing_57 : decode cX4_leastRing 57 = .ok (.iload_n 3, 1) := by decide +kernel
theorem dX4_leastRing_58 : decode cX4_leastRing 58 = .ok (.istore_n 3, 1) := by decide +kernel
theorem dX4_leastRing_59 : decode cX4_leastRing 59 = .ok (.iinc 4 (-1), 3) := by decide +kernel
theorem dX4_leastRing_62 : decode cX4_leastRing 62 = .ok (.goto (-52), 3) := by decide +kernel
theorem dX4_leastRing_65 : decode cX4_leastRing 65 = .ok (.iload_n 3, 1) := by decide +kernel
theorem dX4_leastRing_66 : decode cX4_leastRing 66 = .ok (.ireturn, 1) := by decide +kernel
set_option maxRecDepth 20000 in
theorem ggX4_onRingsAmong_X4_startWalks : GoodIn wsX4_onRingsAmong wsX4_startWalks := goodIn_r _ [5, 6, 7, 8, 9, 10, 11, 12, 13, 27, 28, 29, 30] (by decide +kernel) (by decide +kernel)
set_option maxRecDepth 20000 in
theorem gX4_onRingsAmong_X4_startWalks : GoodIn wsX4_onRingsAmong (wsV RX4 41 RX4 yX4_startWalks wsX4_startWalks) := goodIn_app (goodIn_of _ (by decide +kernel)) ggX4_onRingsAmong_X4_startWalks
set_option maxRecDepth 20000 in
theorem ggX4_onRingsAmong_X4_lengthenWalks : GoodIn wsX4_onRingsAmong wsX4_lengthenWalks := goodIn_r _ [17, 18, 7, 8, 6, 10, 11, 12, 13, 19, 20, 21, 4, 22, 9, 27, 28, 29, 30] (by decide +kernel) (by decide +kernel)
set_option maxRecDepth 20000 in
theorem gX4_onRingsAmong_X4_lengthenWalks : GoodIn wsX4_onRingsAmong (wsV RX4 45 RX4 yX4_lengthenWalks wsX4_lengthenWalks) := goodIn_app (goodIn_of _ (by decide +kernel)) ggX4_onRingsAmong_X4_lengthenWalks
set_option maxRecDepth 20000 in
theorem ggX4_onRingsAmong_X4_startsBelowZero : GoodIn wsX4_onRingsAmong wsX4_startsBelowZero := goodIn_r _ [26, 8, 6, 27, 28, 29, 30] (by decide +kernel) (by decide +kernel)
set_option maxRecDepth 20000 in
theorem gX4_onRingsAmong_X4_startsBelowZero : GoodIn wsX4_onRingsAmong (wsV RX4 48 RX4 yX4_startsBelowZero wsX4_startsBelowZero) := goodIn_app (goodIn_of _ (by decide +kernel)) ggX4_onRingsAmong_X4_startsBelowZero
theorem dX4_onRingsAmong_0 : decode cX4_onRingsAmong 0 = .ok (.aload_n 0, 1) := by decide +kernel
theorem dX4_onRingsAmong_1 : decode cX4_onRingsAmong 1 = .ok (.iload_n 1, 1) := by decide +kernel
theorem dX4_onRingsAmong_2 : decode cX4_onRingsAmong 2 = .ok (.invokevirtual 41, 3) := by decide +kernel
theorem dX4_onRingsAmong_5 : decode cX4_onRingsAmong 5 = .ok (.iconst 1, 1) := by decide +kernel
theorem dX4_onRingsAmong_6 : decode cX4_onRingsAmong 6 = .ok (.istore_n 3, 1) := by decide +kernel
theorem dX4_onRingsAmong_7 : decode cX4_onRingsAmong 7 = .ok (.iload_n 3, 1) := by decide +kernel
theorem dX4_onRingsAmong_8 : decode cX4_onRingsAmong 8 = .ok (.iload_n 2, 1) := by decide +kernel
theorem dX4_onRingsAmong_9 : decode cX4_onRingsAmong 9 = .ok (.if_icmp .ge 14, 3) := by decide +kernel
theorem dX4_onRingsAmong_12 : decode cX4_onRingsAmong 12 = .ok (.aload_n 0, 1) := by decide +kernel
theorem dX4_onRingsAmong_13 : decode cX4_onRingsAmong 13 = .ok (.iload_n 1, 1) := by decide +kernel
theorem dX4_onRingsAmong_14 : decode cX4_onRingsAmong 14 = .ok (.invokevirtual 45, 3) := by decide +kernel
theorem dX4_onRingsAmong_17 : decode cX4_onRingsAmong 17 = .ok (.iinc 3 1, 3) := by decide +kernel
theorem dX4_onRingsAmong_20 : decode cX4_onRingsAmong 20 = .ok (.goto (-13), 3) := by decide +kernel
theorem dX4_onRingsAmong_23 : decode cX4_onRingsAmong 23 = .ok (.aload_n 0, 1) := by decide +kernel
theorem dX4_onRingsAmong_24 : decode cX4_onRingsAmong 24 = .ok (.invokevirtual 48, 3) := by decide +kernel
theorem dX4_onRingsAmong_27 : decode cX4_onRingsAmong 27 = .ok (.ireturn, 1) := by decide +kernel
set_option maxRecDepth 20000 in
theorem ggX4_takeSteps_J7_fill_d0a16 : GoodIn wsX4_takeSteps wsJ7_fill_d0a16 := goodIn_r _ [11] (by decide +kernel) (by decide +kernel)
set_option maxRecDepth 20000 in
theorem gX4_takeSteps_J7_fill_d0a16 : GoodIn wsX4_takeSteps (va_wsS RX4 65 yJ7_fill_d0a16 wsJ7_fill_d0a16) := goodIn_app (goodIn_of _ (by decide +kernel)) ggX4_takeSteps_J7_fill_d0a16
set_option maxRecDepth 20000 in
theorem ggX4_takeSteps_X0_between : GoodIn wsX4_takeSteps wsX0_between := goodIn_r _ [16, 17, 18, 19, 20, 21, 15, 22, 23, 24, 25, 26, 36, 37] (by decide +kernel) (by decide +kernel)
set_option maxRecDepth 20000 in
theorem gX4_takeSteps_X0_between : GoodIn wsX4_takeSteps (wsV RX4 71 RX0 yX0_between wsX0_between) := goodIn_app (goodIn_of _ (by decide +kernel)) ggX4_takeSteps_X0_between
set_option maxRecDepth 20000 in
theorem ggX4_takeSteps_X4_stepOverZero : GoodIn wsX4_takeSteps wsX4_stepOverZero := goodIn_r _ [31, 2, 12, 13, 14, 15, 16, 17, 18, 19, 20, 21, 22, 23, 24, 25, 26, 36, 37] (by decide +kernel) (by decide +kernel)
set_option maxRecDepth 20000 in
theorem gX4_takeSteps_X4_stepOverZero : GoodIn wsX4_takeSteps (wsV RX4 75 RX4 yX4_stepOverZero wsX4_stepOverZero) := goodIn_app (goodIn_of _ (by decide +kernel)) ggX4_takeSteps_X4_stepOverZero
theorem dX4_takeSteps_0 : decode cX4_takeSteps 0 = .ok (.aload_n 0, 1) := by decide +kernel
theorem dX4_takeSteps_1 : decode cX4_takeSteps 1 = .ok (.getfield 9, 3) := by decide +kernel
theorem dX4_takeSteps_4 : decode cX4_takeSteps 4 = .ok (.ldc2_w 63, 3) := by decide +kernel
theorem dX4_takeSteps_7 : decode cX4_takeSteps 7 = .ok (.invokestatic 65, 3) := by decide +kernel
theorem dX4_takeSteps_10 : decode cX4_takeSteps 10 = .ok (.iconst 0, 1) := by decide +kernel
theorem dX4_takeSteps_11 : decode cX4_takeSteps 11 = .ok (.istore_n 2, 1) := by decide +kernel
theorem dX4_takeSteps_12 : decode cX4_takeSteps 12 = .ok (.iload_n 2, 1) := by decide +kernel
theorem dX4_takeSteps_13 : decode cX4_takeSteps 13 = .ok (.aload_n 0, 1) := by decide +kernel
theorem dX4_takeSteps_14 : decode cX4_takeSteps 14 = .ok (.getfield 21, 3) := by decide +kernel
theorem dX4_takeSteps_17 : decode cX4_takeSteps 17 = .ok (.if_icmp .ge 61, 3) := by decide +kernel
theorem dX4_takeSteps_20 : decode cX4_takeSteps 20 = .ok (.iconst 0, 1) := by decide +kernel
theorem dX4_takeSteps_21 : decode cX4_takeSteps 21 = .ok (.istore_n 3, 1) := by decide +kernel
theorem dX4_takeSteps_22 : decode cX4_takeSteps 22 = .ok (.iload_n 3, 1) := by decide +kernel
theorem dX4_takeSteps_23 : decode cX4_takeSteps 23 = .ok (.aload_n 0, 1) := by decide +kernel
theorem dX4_takeSteps_24 : decode cX4_takeSteps 24 = .ok (.getfield 21, 3) := by decide +kernel
theorem dX4_takeSteps_27 : decode cX4_takeSteps 27 = .ok (.if_icmp .ge 45, 3) := by decide +kernel
theorem dX4_takeSteps_30 : decode cX4_takeSteps 30 = .ok (.iload_n 2, 1) := by decide +kernel
theorem dX4_takeSteps_31 : decode cX4_takeSteps 31 = .ok (.iload_n 3, 1) := by decide +kernel
theorem dX4_takeSteps_32 : decode cX4_takeSteps 32 = .ok (.if_icmp .eq 34, 3) := by decide +kernel
theorem dX4_takeSteps_35 : decode cX4_takeSteps 35 = .ok (.aload_n 0, 1) := by decide +kernel
theorem dX4_takeSteps_36 : decode cX4_takeSteps 36 = .ok (.getfield 9, 3) := by decide +kernel
theorem dX4_takeSteps_39 : decode cX4_takeSteps 39 = .ok (.iload_n 2, 1) := by decide +kernel
theorem dX4_takeSteps_40 : decode cX4_takeSteps 40 = .ok (.bipush 12, 2) := by decide +kernel
theorem dX4_takeSteps_42 : decode cX4_takeSteps 42 = .ok (.imul, 1) := by decide +kernel
theorem dX4_takeSteps_43 : decode cX4_takeSteps 43 = .ok (.iload_n 3, 1) := by decide +kernel
theorem dX4_takeSteps_44 : decode cX4_takeSteps 44 = .ok (.iadd, 1) := by decide +kernel
theorem dX4_takeSteps_45 : decode cX4_takeSteps 45 = .ok (.aload_n 1, 1) := by decide +kernel
theorem dX4_takeSteps_46 : decode cX4_takeSteps 46 = .ok (.iload_n 2, 1) := by decide +kernel
theorem dX4_takeSteps_47 : decode cX4_takeSteps 47 = .ok (.iconst 1, 1) := by decide +kernel
theorem dX4_takeSteps_48 : decode cX4_takeSteps 48 = .ok (.iadd, 1) := by decide +kernel
theorem dX4_takeSteps_49 : decode cX4_takeSteps 49 = .ok (.iload_n 3, 1) := by decide +kernel
theorem dX4_takeSteps_50 : decode cX4_takeSteps 50 = .ok (.iconst 1, 1) := by decide +kernel
theorem dX4_takeSteps_51 : decode cX4_takeSteps 51 = .ok (.iadd, 1) := by decide +kernel
theorem dX4_takeSteps_52 : decode cX4_takeSteps 52 = .ok (.invokevirtual 71, 3) := by decide +kernel
theorem dX4_takeSteps_55 : decode cX4_takeSteps 55 = .ok (.aload_n 0, 1) := by decide +kernel
theorem dX4_takeSteps_56 : decode cX4_takeSteps 56 = .ok (.aload_n 1, 1) := by decide +kernel
theorem dX4_takeSteps_57 : decode cX4_takeSteps 57 = .ok (.iload_n 2, 1) := by decide +kernel
theorem dX4_takeSteps_58 : decode cX4_takeSteps 58 = .ok (.iload_n 3, 1) := by decide +kernel
theorem dX4_takeSteps_59 : decode cX4_takeSteps 59 = .ok (.invokevirtual 75, 3) := by decide +kernel
theorem dX4_takeSteps_62 : decode cX4_takeSteps 62 = .ok (.invokestatic 79, 3) := by decide +kernel
theorem dX4_takeSteps_65 : decode cX4_takeSteps 65 = .ok (.lastore, 1) := by decide +kernel
theorem dX4_takeSteps_66 : decode cX4_takeSteps 66 = .ok (.iinc 3 1, 3) := by decide +kernel
theorem dX4_takeSteps_69 : decode cX4_takeSteps 69 = .ok (.goto (-47), 3) := by decide +kernel
theorem dX4_takeSteps_72 : decode cX4_takeSteps 72 = .ok (.iinc 2 1, 3) := by decide +kernel
theorem dX4_takeSteps_75 : decode cX4_takeSteps 75 = .ok (.goto (-63), 3) := by decide +kernel
theorem dX4_takeSteps_78 : decode cX4_takeSteps 78 = .ok (.return_, 1) := by decide +kernel
set_option maxRecDepth 20000 in
theorem ggX4_stepOverZero_X0_between : GoodIn wsX4_stepOverZero wsX0_between := goodIn_r _ [6, 7, 8, 9, 10, 11, 5, 12, 13, 14, 15, 16, 17, 18] (by decide +kernel) (by decide +kernel)
set_option maxRecDepth 20000 in
theorem gX4_stepOverZero_X0_between : GoodIn wsX4_stepOverZero (wsV RX4 71 RX0 yX0_between wsX0_between) := goodIn_app (goodIn_of _ (by decide +kernel)) ggX4_stepOverZero_X0_between
theorem dX4_stepOverZero_0 : decode cX4_stepOverZero 0 = .ok (.aload_n 1, 1) := by decide +kernel
theorem dX4_stepOverZero_1 : decode cX4_stepOverZero 1 = .ok (.iload_n 2, 1) := by decide +kernel
theorem dX4_stepOverZero_2 : decode cX4_stepOverZero 2 = .ok (.iconst 1, 1) := by decide +kernel
theorem dX4_stepOverZero_3 : decode cX4_stepOverZero 3 = .ok (.iadd, 1) := by decide +kernel
theorem dX4_stepOverZero_4 : decode cX4_stepOverZero 4 = .ok (.iconst 0, 1) := by decide +kernel
theorem dX4_stepOverZero_5 : decode cX4_stepOverZero 5 = .ok (.invokevirtual 71, 3) := by decide +kernel
theorem dX4_stepOverZero_8 : decode cX4_stepOverZero 8 = .ok (.lstore 4, 2) := by decide +kernel
theorem dX4_stepOverZero_10 : decode cX4_stepOverZero 10 = .ok (.aload_n 1, 1) := by decide +kernel
theorem dX4_stepOverZero_11 : decode cX4_stepOverZero 11 = .ok (.iconst 0, 1) := by decide +kernel
theorem dX4_stepOverZero_12 : decode cX4_stepOverZero 12 = .ok (.iload_n 3, 1) := by decide +kernel
theorem dX4_stepOverZero_13 : decode cX4_stepOverZero 13 = .ok (.iconst 1, 1) := by decide +kernel
theorem dX4_stepOverZero_14 : decode cX4_stepOverZero 14 = .ok (.iadd, 1) := by decide +kernel
theorem dX4_stepOverZero_15 : decode cX4_stepOverZero 15 = .ok (.invokevirtual 71, 3) := by decide +kernel
theorem dX4_stepOverZero_18 : decode cX4_stepOverZero 18 = .ok (.lstore 6, 2) := by decide +kernel
theorem dX4_stepOverZero_20 : decode cX4_stepOverZero 20 = .ok (.lload 4, 2) := by decide +kernel
theorem dX4_stepOverZero_22 : decode cX4_stepOverZero 22 = .ok (.ldc2_w 63, 3) := by decide +kernel
theorem dX4_stepOverZero_25 : decode cX4_stepOverZero 25 = .ok (.lcmp, 1) := by decide +kernel
theorem dX4_stepOverZero_26 : decode cX4_stepOverZero 26 = .ok (.ifCond .ge 20, 3) := by decide +kernel
theorem dX4_stepOverZero_29 : decode cX4_stepOverZero 29 = .ok (.lload 6, 2) := by decide +kernel
theorem dX4_stepOverZero_31 : decode cX4_stepOverZero 31 = .ok (.ldc2_w 63, 3) := by decide +kernel
theorem dX4_stepOverZero_34 : decode cX4_stepOverZero 34 = .ok (.lcmp, 1) := by decide +kernel
theorem dX4_stepOverZero_35 : decode cX4_stepOverZero 35 = .ok (.ifCond .ge 11, 3) := by decide +kernel
theorem dX4_stepOverZero_38 : decode cX4_stepOverZero 38 = .ok (.lload 4, 2) := by decide +kernel
theorem dX4_stepOverZero_40 : decode cX4_stepOverZero 40 = .ok (.lload 6, 2) := by decide +kernel
theorem dX4_stepOverZero_42 : decode cX4_stepOverZero 42 = .ok (.ladd, 1) := by decide +kernel
theorem dX4_stepOverZero_43 : decode cX4_stepOverZero 43 = .ok (.goto 6, 3) := by decide +kernel
theorem dX4_stepOverZero_46 : decode cX4_stepOverZero 46 = .ok (.ldc2_w 63, 3) := by decide +kernel
theorem dX4_stepOverZero_49 : decode cX4_stepOverZero 49 = .ok (.lreturn, 1) := by decide +kernel
set_option maxRecDepth 20000 in
theorem ggX4_startWalks_J7_fill_d0a16 : GoodIn wsX4_startWalks wsJ7_fill_d0a16 := goodIn_r _ [8] (by decide +kernel) (by decide +kernel)
set_option maxRecDepth 20000 in
theorem gX4_startWalks_J7_fill_d0a16 : GoodIn wsX4_startWalks (va_wsS RX4 65 yJ7_fill_d0a16 wsJ7_fill_d0a16) := goodIn_app (goodIn_of _ (by decide +kernel)) ggX4_startWalks_J7_fill_d0a16
theorem dX4_startWalks_0 : decode cX4_startWalks 0 = .ok (.aload_n 0, 1) := by decide +kernel
theorem dX4_startWalks_1 : decode cX4_startWalks 1 = .ok (.getfield 15, 3) := by decide +kernel
theorem dX4_startWalks_4 : decode cX4_startWalks 4 = .ok (.ldc2_w 63, 3) := by decide +kernel
theorem dX4_startWalks_7 : decode cX4_startWalks 7 = .ok (.invokestatic 65, 3) := by decide +kernel
theorem dX4_startWalks_10 : decode cX4_startWalks 10 = .ok (.iconst 0, 1) := by decide +kernel
theorem dX4_startWalks_11 : decode cX4_startWalks 11 = .ok (.istore_n 2, 1) := by decide +kernel
theorem dX4_startWalks_12 : decode cX4_startWalks 12 = .ok (.iload_n 2, 1) := by decide +kernel
theorem dX4_startWalks_13 : decode cX4_startWalks 13 = .ok (.aload_n 0, 1) := by decide +kernel
theorem dX4_startWalks_14 : decode cX4_startWalks 14 = .ok (.getfield 21, 3) := by decide +kernel
theorem dX4_startWalks_17 : decode cX4_startWalks 17 = .ok (.if_icmp .ge 63, 3) := by decide +kernel
theorem dX4_startWalks_20 : decode cX4_startWalks 20 = .ok (.iconst 0, 1) := by decide +kernel
theorem dX4_startWalks_21 : decode cX4_startWalks 21 = .ok (.istore_n 3, 1) := by decide +kernel
theorem dX4_startWalks_22 : decode cX4_startWalks 22 = .ok (.iload_n 3, 1) := by decide +kernel
theorem dX4_startWalks_23 : decode cX4_startWalks 23 = .ok (.aload_n 0, 1) := by decide +kernel
theorem dX4_startWalks_24 : decode cX4_startWalks 24 = .ok (.getfield 21, 3) := by decide +kernel
theorem dX4_startWalks_27 : decode cX4_startWalks 27 = .ok (.if_icmp .ge 47, 3) := by decide +kernel
theorem dX4_startWalks_30 : decode cX4_startWalks 30 = .ok (.iload_n 1, 1) := by decide +kernel
theorem dX4_startWalks_31 : decode cX4_startWalks 31 = .ok (.iload_n 2, 1) := by decide +kernel
theorem dX4_startWalks_32 : decode cX4_startWalks 32 = .ok (.ishr, 1) := by decide +kernel
theorem dX4_startWalks_33 : decode cX4_startWalks 33 = .ok (.iconst 1, 1) := by decide +kernel
theorem dX4_startWalks_34 : decode cX4_startWalks 34 = .ok (.iand, 1) := by decide +kernel
theorem dX4_startWalks_35 : decode cX4_startWalks 35 = .ok (.ifCond .eq 33, 3) := by decide +kernel
theorem dX4_startWalks_38 : decode cX4_startWalks 38 = .ok (.iload_n 1, 1) := by decide +kernel
theorem dX4_startWalks_39 : decode cX4_startWalks 39 = .ok (.iload_n 3, 1) := by decide +kernel
theorem dX4_startWalks_40 : decode cX4_startWalks 40 = .ok (.ishr, 1) := by decide +kernel
theorem dX4_startWalks_41 : decode cX4_startWalks 41 = .ok (.iconst 1, 1) := by decide +kernel
theorem dX4_startWalks_42 : decode cX4_startWalks 42 = .ok (.iand, 1) := by decide +kernel
theorem dX4_startWalks_43 : decode cX4_startWalks 43 = .ok (.ifCond .eq 25, 3) := by decide +kernel
theorem dX4_startWalks_46 : decode cX4_startWalks 46 = .ok (.aload_n 0, 1) := by decide +kernel
theorem dX4_startWalks_47 : decode cX4_startWalks 47 = .ok (.getfield 15, 3) := by decide +kernel
theorem dX4_startWalks_50 : decode cX4_startWalks 50 = .ok (.iload_n 2, 1) := by decide +kernel
theorem dX4_startWalks_51 : decode cX4_startWalks 51 = .ok (.bipush 12, 2) := by decide +kernel
theorem dX4_startWalks_53 : decode cX4_startWalks 53 = .ok (.imul, 1) := by decide +kernel
theorem dX4_startWalks_54 : decode cX4_startWalks 54 = .ok (.iload_n 3, 1) := by decide +kernel
theorem dX4_startWalks_55 : decode cX4_startWalks 55 = .ok (.iadd, 1) := by decide +kernel
theorem dX4_startWalks_56 : decode cX4_startWalks 56 = .ok (.aload_n 0, 1) := by decide +kernel
theorem dX4_startWalks_57 : decode cX4_startWalks 57 = .ok (.getfield 9, 3) := by decide +kernel
theorem dX4_startWalks_60 : decode cX4_startWalks 60 = .ok (.iload_n 2, 1) := by decide +kernel
theorem dX4_startWalks_61 : decode cX4_startWalks 61 = .ok (.bipush 12, 2) := by decide +kernel
theorem dX4_startWalks_63 : decode cX4_startWalks 63 = .ok (.imul, 1) := by decide +kernel
theorem dX4_startWalks_64 : decode cX4_startWalks 64 = .ok (.iload_n 3, 1) := by decide +kernel
theorem dX4_startWalks_65 : decode cX4_startWalks 65 = .ok (.iadd, 1) := by decide +kernel
theorem dX4_startWalks_66 : decode cX4_startWalks 66 = .ok (.laload, 1) := by decide +kernel
theorem dX4_startWalks_67 : decode cX4_startWalks 67 = .ok (.lastore, 1) := by decide +kernel
theorem dX4_startWalks_68 : decode cX4_startWalks 68 = .ok (.iinc 3 1, 3) := by decide +kernel
theorem dX4_startWalks_71 : decode cX4_startWalks 71 = .ok (.goto (-49), 3) := by decide +kernel
theorem dX4_startWalks_74 : decode cX4_startWalks 74 = .ok (.iinc 2 1, 3) := by decide +kernel
theorem dX4_startWalks_77 : decode cX4_startWalks 77 = .ok (.goto (-65), 3) := by decide +kernel
theorem dX4_startWalks_80 : decode cX4_startWalks 80 = .ok (.return_, 1) := by decide +kernel
set_option maxRecDepth 20000 in
theorem ggX4_lengthenWalks_J7_fill_d0a16 : GoodIn wsX4_lengthenWalks wsJ7_fill_d0a16 := goodIn_r _ [8] (by decide +kernel) (by decide +kernel)
set_option maxRecDepth 20000 in
theorem gX4_lengthenWalks_J7_fill_d0a16 : GoodIn wsX4_lengthenWalks (va_wsS RX4 65 yJ7_fill_d0a16 wsJ7_fill_d0a16) := goodIn_app (goodIn_of _ (by decide +kernel)) ggX4_lengthenWalks_J7_fill_d0a16
set_option maxRecDepth 20000 in
theorem ggX4_lengthenWalks_X4_addStep : GoodIn wsX4_lengthenWalks wsX4_addStep := goodIn_r _ [13, 4, 3, 14, 2, 1, 15, 16, 17, 18] (by decide +kernel) (by decide +kernel)
set_option maxRecDepth 20000 in
theorem gX4_lengthenWalks_X4_addStep : GoodIn wsX4_lengthenWalks (wsV RX4 82 RX4 yX4_addStep wsX4_addStep) := goodIn_app (goodIn_of _ (by decide +kernel)) ggX4_lengthenWalks_X4_addStep
theorem dX4_lengthenWalks_0 : decode cX4_lengthenWalks 0 = .ok (.aload_n 0, 1) := by decide +kernel
theorem dX4_lengthenWalks_1 : decode cX4_lengthenWalks 1 = .ok (.getfield 18, 3) := by decide +kernel
theorem dX4_lengthenWalks_4 : decode cX4_lengthenWalks 4 = .ok (.ldc2_w 63, 3) := by decide +kernel
theorem dX4_lengthenWalks_7 : decode cX4_lengthenWalks 7 = .ok (.invokestatic 65, 3) := by decide +kernel
theorem dX4_lengthenWalks_10 : decode cX4_lengthenWalks 10 = .ok (.iconst 0, 1) := by decide +kernel
theorem dX4_lengthenWalks_11 : decode cX4_lengthenWalks 11 = .ok (.istore_n 2, 1) := by decide +kernel
theorem dX4_lengthenWalks_12 : decode cX4_lengthenWalks 12 = .ok (.iload_n 2, 1) := by decide +kernel
theorem dX4_lengthenWalks_13 : decode cX4_lengthenWalks 13 = .ok (.aload_n 0, 1) := by decide +kernel
theorem dX4_lengthenWalks_14 : decode cX4_lengthenWalks 14 = .ok (.getfield 21, 3) := by decide +kernel
theorem dX4_lengthenWalks_17 : decode cX4_lengthenWalks 17 = .ok (.if_icmp .ge 50, 3) := by decide +kernel
theorem dX4_lengthenWalks_20 : decode cX4_lengthenWalks 20 = .ok (.iconst 0, 1) := by decide +kernel
theorem dX4_lengthenWalks_21 : decode cX4_lengthenWalks 21 = .ok (.istore_n 3, 1) := by decide +kernel
theorem dX4_lengthenWalks_22 : decode cX4_lengthenWalks 22 = .ok (.iload_n 3, 1) := by decide +kernel
theorem dX4_lengthenWalks_23 : decode cX4_lengthenWalks 23 = .ok (.aload_n 0, 1) := by decide +kernel
theorem dX4_lengthenWalks_24 : decode cX4_lengthenWalks 24 = .ok (.getfield 21, 3) := by decide +kernel
theorem dX4_lengthenWalks_27 : decode cX4_lengthenWalks 27 = .ok (.if_icmp .ge 34, 3) := by decide +kernel
theorem dX4_lengthenWalks_30 : decode cX4_lengthenWalks 30 = .ok (.aload_n 0, 1) := by decide +kernel
theorem dX4_lengthenWalks_31 : decode cX4_lengthenWalks 31 = .ok (.getfield 15, 3) := by decide +kernel
theorem dX4_lengthenWalks_34 : decode cX4_lengthenWalks 34 = .ok (.iload_n 2, 1) := by decide +kernel
theorem dX4_lengthenWalks_35 : decode cX4_lengthenWalks 35 = .ok (.bipush 12, 2) := by decide +kernel
theorem dX4_lengthenWalks_37 : decode cX4_lengthenWalks 37 = .ok (.imul, 1) := by decide +kernel
theorem dX4_lengthenWalks_38 : decode cX4_lengthenWalks 38 = .ok (.iload_n 3, 1) := by decide +kernel
theorem dX4_lengthenWalks_39 : decode cX4_lengthenWalks 39 = .ok (.iadd, 1) := by decide +kernel
theorem dX4_lengthenWalks_40 : decode cX4_lengthenWalks 40 = .ok (.laload, 1) := by decide +kernel
theorem dX4_lengthenWalks_41 : decode cX4_lengthenWalks 41 = .ok (.ldc2_w 63, 3) := by decide +kernel
theorem dX4_lengthenWalks_44 : decode cX4_lengthenWalks 44 = .ok (.lcmp, 1) := by decide +kernel
theorem dX4_lengthenWalks_45 : decode cX4_lengthenWalks 45 = .ok (.ifCond .ge 10, 3) := by decide +kernel
theorem dX4_lengthenWalks_48 : decode cX4_lengthenWalks 48 = .ok (.aload_n 0, 1) := by decide +kernel
theorem dX4_lengthenWalks_49 : decode cX4_lengthenWalks 49 = .ok (.iload_n 2, 1) := by decide +kernel
theorem dX4_lengthenWalks_50 : decode cX4_lengthenWalks 50 = .ok (.iload_n 3, 1) := by decide +kernel
theorem dX4_lengthenWalks_51 : decode cX4_lengthenWalks 51 = .ok (.iload_n 1, 1) := by decide +kernel
theorem dX4_lengthenWalks_52 : decode cX4_lengthenWalks 52 = .ok (.invokevirtual 82, 3) := by decide +kernel
theorem dX4_lengthenWalks_55 : decode cX4_lengthenWalks 55 = .ok (.iinc 3 1, 3) := by decide +kernel
theorem dX4_lengthenWalks_58 : decode cX4_lengthenWalks 58 = .ok (.goto (-36), 3) := by decide +kernel
theorem dX4_lengthenWalks_61 : decode cX4_lengthenWalks 61 = .ok (.iinc 2 1, 3) := by decide +kernel
theorem dX4_lengthenWalks_64 : decode cX4_lengthenWalks 64 = .ok (.goto (-52), 3) := by decide +kernel
theorem dX4_lengthenWalks_67 : decode cX4_lengthenWalks 67 = .ok (.aload_n 0, 1) := by decide +kernel
theorem dX4_lengthenWalks_68 : decode cX4_lengthenWalks 68 = .ok (.getfield 15, 3) := by decide +kernel
theorem dX4_lengthenWalks_71 : decode cX4_lengthenWalks 71 = .ok (.astore_n 2, 1) := by decide +kernel
theorem dX4_lengthenWalks_72 : decode cX4_lengthenWalks 72 = .ok (.aload_n 0, 1) := by decide +kernel
theorem dX4_lengthenWalks_73 : decode cX4_lengthenWalks 73 = .ok (.aload_n 0, 1) := by decide +kernel
theorem dX4_lengthenWalks_74 : decode cX4_lengthenWalks 74 = .ok (.getfield 18, 3) := by decide +kernel
theorem dX4_lengthenWalks_77 : decode cX4_lengthenWalks 77 = .ok (.putfield 15, 3) := by decide +kernel
theorem dX4_lengthenWalks_80 : decode cX4_lengthenWalks 80 = .ok (.aload_n 0, 1) := by decide +kernel
theorem dX4_lengthenWalks_81 : decode cX4_lengthenWalks 81 = .ok (.aload_n 2, 1) := by decide +kernel
theorem dX4_lengthenWalks_82 : decode cX4_lengthenWalks 82 = .ok (.putfield 18, 3) := by decide +kernel
theorem dX4_lengthenWalks_85 : decode cX4_lengthenWalks 85 = .ok (.return_, 1) := by decide +kernel
theorem dX4_addStep_0 : decode cX4_addStep 0 = .ok (.aload_n 0, 1) := by decide +kernel
theorem dX4_addStep_1 : decode cX4_addStep 1 = .ok (.getfield 15, 3) := by decide +kernel
theorem dX4_addStep_4 : decode cX4_addStep 4 = .ok (.iload_n 1, 1) := by decide +kernel
theorem dX4_addStep_5 : decode cX4_addStep 5 = .ok (.bipush 12, 2) := by decide +kernel
theorem dX4_addStep_7 : decode cX4_addStep 7 = .ok (.imul, 1) := by decide +kernel
theorem dX4_addStep_8 : decode cX4_addStep 8 = .ok (.iload_n 2, 1) := by decide +kernel
theorem dX4_addStep_9 : decode cX4_addStep 9 = .ok (.iadd, 1) := by decide +kernel
theorem dX4_addStep_10 : decode cX4_addStep 10 = .ok (.laload, 1) := by decide +kernel
theorem dX4_addStep_11 : decode cX4_addStep 11 = .ok (.lstore 4, 2) := by decide +kernel
theorem dX4_addStep_13 : decode cX4_addStep 13 = .ok (.iconst 0, 1) := by decide +kernel
theorem dX4_addStep_14 : decode cX4_addStep 14 = .ok (.istore 6, 2) := by decide +kernel
theorem dX4_addStep_16 : decode cX4_addStep 16 = .ok (.iload 6, 2) := by decide +kernel
theorem dX4_addStep_18 : decode cX4_addStep 18 = .ok (.aload_n 0, 1) := by decide +kernel
theorem dX4_addStep_19 : decode cX4_addStep 19 = .ok (.getfield 21, 3) := by decide +kernel
theorem dX4_addStep_22 : decode cX4_addStep 22 = .ok (.if_icmp .ge 79, 3) := by decide +kernel
theorem dX4_addStep_25 : decode cX4_addStep 25 = .ok (.aload_n 0, 1) := by decide +kernel
theorem dX4_addStep_26 : decode cX4_addStep 26 = .ok (.getfield 9, 3) := by decide +kernel
theorem dX4_addStep_29 : decode cX4_addStep 29 = .ok (.iload_n 2, 1) := by decide +kernel
theorem dX4_addStep_30 : decode cX4_addStep 30 = .ok (.bipush 12, 2) := by decide +kernel
theorem dX4_addStep_32 : decode cX4_addStep 32 = .ok (.imul, 1) := by decide +kernel
theorem dX4_addStep_33 : decode cX4_addStep 33 = .ok (.iload 6, 2) := by decide +kernel
theorem dX4_addStep_35 : decode cX4_addStep 35 = .ok (.iadd, 1) := by decide +kernel
theorem dX4_addStep_36 : decode cX4_addStep 36 = .ok (.laload, 1) := by decide +kernel
theorem dX4_addStep_37 : decode cX4_addStep 37 = .ok (.lstore 7, 2) := by decide +kernel
theorem dX4_addStep_39 : decode cX4_addStep 39 = .ok (.iload_n 3, 1) := by decide +kernel
theorem dX4_addStep_40 : decode cX4_addStep 40 = .ok (.iload 6, 2) := by decide +kernel
theorem dX4_addStep_42 : decode cX4_addStep 42 = .ok (.ishr, 1) := by decide +kernel
theorem dX4_addStep_43 : decode cX4_addStep 43 = .ok (.iconst 1, 1) := by decide +kernel
theorem dX4_addStep_44 : decode cX4_addStep 44 = .ok (.iand, 1) := by decide +kernel
theorem dX4_addStep_45 : decode cX4_addStep 45 = .ok (.ifCond .eq 50, 3) := by decide +kernel
theorem dX4_addStep_48 : decode cX4_addStep 48 = .ok (.lload 7, 2) := by decide +kernel
theorem dX4_addStep_50 : decode cX4_addStep 50 = .ok (.ldc2_w 63, 3) := by decide +kernel
theorem dX4_addStep_53 : decode cX4_addStep 53 = .ok (.lcmp, 1) := by decide +kernel
theorem dX4_addStep_54 : decode cX4_addStep 54 = .ok (.ifCond .ge 41, 3) := by decide +kernel
theorem dX4_addStep_57 : decode cX4_addStep 57 = .ok (.lload 4, 2) := by decide +kernel
theorem dX4_addStep_59 : decode cX4_addStep 59 = .ok (.lload 7, 2) := by decide +kernel
theorem dX4_addStep_61 : decode cX4_addStep 61 = .ok (.ladd, 1) := by decide +kernel
theorem dX4_addStep_62 : decode cX4_addStep 62 = .ok (.aload_n 0, 1) := by decide +kernel
theorem dX4_addStep_63 : decode cX4_addStep 63 = .ok (.getfield 18, 3) := by decide +kernel
theorem dX4_addStep_66 : decode cX4_addStep 66 = .ok (.iload_n 1, 1) := by decide +kernel
theorem dX4_addStep_67 : decode cX4_addStep 67 = .ok (.bipush 12, 2) := by decide +kernel
theorem dX4_addStep_69 : decode cX4_addStep 69 = .ok (.imul, 1) := by decide +kernel
theorem dX4_addStep_70 : decode cX4_addStep 70 = .ok (.iload 6, 2) := by decide +kernel
theorem dX4_addStep_72 : decode cX4_addStep 72 = .ok (.iadd, 1) := by decide +kernel
theorem dX4_addStep_73 : decode cX4_addStep 73 = .ok (.laload, 1) := by decide +kernel
theorem dX4_addStep_74 : decode cX4_addStep 74 = .ok (.lcmp, 1) := by decide +kernel
theorem dX4_addStep_75 : decode cX4_addStep 75 = .ok (.ifCond .ge 20, 3) := by decide +kernel
theorem dX4_addStep_78 : decode cX4_addStep 78 = .ok (.aload_n 0, 1) := by decide +kernel
theorem dX4_addStep_79 : decode cX4_addStep 79 = .ok (.getfield 18, 3) := by decide +kernel
theorem dX4_addStep_82 : decode cX4_addStep 82 = .ok (.iload_n 1, 1) := by decide +kernel
theorem dX4_addStep_83 : decode cX4_addStep 83 = .ok (.bipush 12, 2) := by decide +kernel
theorem dX4_addStep_85 : decode cX4_addStep 85 = .ok (.imul, 1) := by decide +kernel
theorem dX4_addStep_86 : decode cX4_addStep 86 = .ok (.iload 6, 2) := by decide +kernel
theorem dX4_addStep_88 : decode cX4_addStep 88 = .ok (.iadd, 1) := by decide +kernel
theorem dX4_addStep_89 : decode cX4_addStep 89 = .ok (.lload 4, 2) := by decide +kernel
theorem dX4_addStep_91 : decode cX4_addStep 91 = .ok (.lload 7, 2) := by decide +kernel
theorem dX4_addStep_93 : decode cX4_addStep 93 = .ok (.ladd, 1) := by decide +kernel
theorem dX4_addStep_94 : decode cX4_addStep 94 = .ok (.lastore, 1) := by decide +kernel
theorem dX4_addStep_95 : decode cX4_addStep 95 = .ok (.iinc 6 1, 3) := by decide +kernel
theorem dX4_addStep_98 : decode cX4_addStep 98 = .ok (.goto (-82), 3) := by decide +kernel
theorem dX4_addStep_101 : decode cX4_addStep 101 = .ok (.return_, 1) := by decide +kernel
theorem dX4_startsBelowZero_0 : decode cX4_startsBelowZero 0 = .ok (.iconst 0, 1) := by decide +kernel
theorem dX4_startsBelowZero_1 : decode cX4_startsBelowZero 1 = .ok (.istore_n 1, 1) := by decide +kernel
theorem dX4_startsBelowZero_2 : decode cX4_startsBelowZero 2 = .ok (.iconst 0, 1) := by decide +kernel
theorem dX4_startsBelowZero_3 : decode cX4_startsBelowZero 3 = .ok (.istore_n 2, 1) := by decide +kernel
theorem dX4_startsBelowZero_4 : decode cX4_startsBelowZero 4 = .ok (.iload_n 2, 1) := by decide +kernel
theorem dX4_startsBelowZero_5 : decode cX4_startsBelowZero 5 = .ok (.aload_n 0, 1) := by decide +kernel
theorem dX4_startsBelowZero_6 : decode cX4_startsBelowZero 6 = .ok (.getfield 21, 3) := by decide +kernel
theorem dX4_startsBelowZero_9 : decode cX4_startsBelowZero 9 = .ok (.if_icmp .ge 31, 3) := by decide +kernel
theorem dX4_startsBelowZero_12 : decode cX4_startsBelowZero 12 = .ok (.aload_n 0, 1) := by decide +kernel
theorem dX4_startsBelowZero_13 : decode cX4_startsBelowZero 13 = .ok (.getfield 15, 3) := by decide +kernel
theorem dX4_startsBelowZero_16 : decode cX4_startsBelowZero 16 = .ok (.iload_n 2, 1) := by decide +kernel
theorem dX4_startsBelowZero_17 : decode cX4_startsBelowZero 17 = .ok (.bipush 12, 2) := by decide +kernel
theorem dX4_startsBelowZero_19 : decode cX4_startsBelowZero 19 = .ok (.imul, 1) := by decide +kernel
theorem dX4_startsBelowZero_20 : decode cX4_startsBelowZero 20 = .ok (.iload_n 2, 1) := by decide +kernel
theorem dX4_startsBelowZero_21 : decode cX4_startsBelowZero 21 = .ok (.iadd, 1) := by decide +kernel
theorem dX4_startsBelowZero_22 : decode cX4_startsBelowZero 22 = .ok (.laload, 1) := by decide +kernel
theorem dX4_startsBelowZero_23 : decode cX4_startsBelowZero 23 = .ok (.lconst 0, 1) := by decide +kernel
theorem dX4_startsBelowZero_24 : decode cX4_startsBelowZero 24 = .ok (.lcmp, 1) := by decide +kernel
theorem dX4_startsBelowZero_25 : decode cX4_startsBelowZero 25 = .ok (.ifCond .ge 9, 3) := by decide +kernel
theorem dX4_startsBelowZero_28 : decode cX4_startsBelowZero 28 = .ok (.iload_n 1, 1) := by decide +kernel
theorem dX4_startsBelowZero_29 : decode cX4_startsBelowZero 29 = .ok (.iconst 1, 1) := by decide +kernel
theorem dX4_startsBelowZero_30 : decode cX4_startsBelowZero 30 = .ok (.iload_n 2, 1) := by decide +kernel
theorem dX4_startsBelowZero_31 : decode cX4_startsBelowZero 31 = .ok (.ishl, 1) := by decide +kernel
theorem dX4_startsBelowZero_32 : decode cX4_startsBelowZero 32 = .ok (.ior, 1) := by decide +kernel
theorem dX4_startsBelowZero_33 : decode cX4_startsBelowZero 33 = .ok (.istore_n 1, 1) := by decide +kernel
theorem dX4_startsBelowZero_34 : decode cX4_startsBelowZero 34 = .ok (.iinc 2 1, 3) := by decide +kernel
theorem dX4_startsBelowZero_37 : decode cX4_startsBelowZero 37 = .ok (.goto (-33), 3) := by decide +kernel
theorem dX4_startsBelowZero_40 : decode cX4_startsBelowZero 40 = .ok (.iload_n 1, 1) := by decide +kernel
theorem dX4_startsBelowZero_41 : decode cX4_startsBelowZero 41 = .ok (.ireturn, 1) := by decide +kernel
theorem dX5_init_0 : decode cX5_init 0 = .ok (.aload_n 0, 1) := by decide +kernel
theorem dX5_init_1 : decode cX5_init 1 = .ok (.invokespecial 3, 3) := by decide +kernel
theorem dX5_init_4 : decode cX5_init 4 = .ok (.aload_n 0, 1) := by decide +kernel
theorem dX5_init_5 : decode cX5_init 5 = .ok (.bipush 24, 2) := by decide +kernel
theorem dX5_init_7 : decode cX5_init 7 = .ok (.newarray .int, 2) := by decide +kernel
theorem dX5_init_9 : decode cX5_init 9 = .ok (.putfield 9, 3) := by decide +kernel
theorem dX5_init_12 : decode cX5_init 12 = .ok (.aload_n 0, 1) := by decide +kernel
theorem dX5_init_13 : decode cX5_init 13 = .ok (.bipush 24, 2) := by decide +kernel
theorem dX5_init_15 : decode cX5_init 15 = .ok (.newarray .int, 2) := by decide +kernel
theorem dX5_init_17 : decode cX5_init 17 = .ok (.putfield 15, 3) := by decide +kernel
theorem dX5_init_20 : decode cX5_init 20 = .ok (.aload_n 0, 1) := by decide +kernel
theorem dX5_init_21 : decode cX5_init 21 = .ok (.bipush 24, 2) := by decide +kernel
theorem dX5_init_23 : decode cX5_init 23 = .ok (.newarray .int, 2) := by decide +kernel
theorem dX5_init_25 : decode cX5_init 25 = .ok (.putfield 18, 3) := by decide +kernel
theorem dX5_init_28 : decode cX5_init 28 = .ok (.aload_n 0, 1) := by decide +kernel
theorem dX5_init_29 : decode cX5_init 29 = .ok (.iconst 0, 1) := by decide +kernel
theorem dX5_init_30 : decode cX5_init 30 = .ok (.putfield 21, 3) := by decide +kernel
theorem dX5_init_33 : decode cX5_init 33 = .ok (.return_, 1) := by decide +kernel
theorem dX5_size_0 : decode cX5_size 0 = .ok (.aload_n 0, 1) := by decide +kernel
theorem dX5_size_1 : decode cX5_size 1 = .ok (.getfield 21, 3) := by decide +kernel
theorem dX5_size_4 : decode cX5_size 4 = .ok (.ireturn, 1) := by decide +kernel
theorem dX5_isFull_0 : decode cX5_isFull 0 = .ok (.aload_n 0, 1) := by decide +kernel
theorem dX5_isFull_1 : decode cX5_isFull 1 = .ok (.getfield 21, 3) := by decide +kernel
theorem dX5_isFull_4 : decode cX5_isFull 4 = .ok (.bipush 24, 2) := by decide +kernel
theorem dX5_isFull_6 : decode cX5_isFull 6 = .ok (.if_icmp .lt 7, 3) := by decide +kernel
theorem dX5_isFull_9 : decode cX5_isFull 9 = .ok (.iconst 1, 1) := by decide +kernel
theorem dX5_isFull_10 : decode cX5_isFull 10 = .ok (.goto 4, 3) := by decide +kernel
theorem dX5_isFull_13 : decode cX5_isFull 13 = .ok (.iconst 0, 1) := by decide +kernel
theorem dX5_isFull_14 : decode cX5_isFull 14 = .ok (.ireturn, 1) := by decide +kernel
set_option maxRecDepth 20000 in
theorem ggX5_append_X5_isFull : GoodIn wsX5_append wsX5_isFull := goodIn_r _ [9, 2, 10, 11, 12, 13] (by decide +kernel) (by decide +kernel)
set_option maxRecDepth 20000 in
theorem gX5_append_X5_isFull : GoodIn wsX5_append (wsV RX5 25 RX5 yX5_isFull wsX5_isFull) := goodIn_app (goodIn_of _ (by decide +kernel)) ggX5_append_X5_isFull
theorem dX5_append_0 : decode cX5_append 0 = .ok (.aload_n 0, 1) := by decide +kernel
theorem dX5_append_1 : decode cX5_append 1 = .ok (.invokevirtual 25, 3) := by decide +kernel
theorem dX5_append_4 : decode cX5_append 4 = .ok (.ifCond .ne 43, 3) := by decide +kernel
theorem dX5_append_7 : decode cX5_append 7 = .ok (.aload_n 0, 1) := by decide +kernel
theorem dX5_append_8 : decode cX5_append 8 = .ok (.getfield 9, 3) := by decide +kernel
theorem dX5_append_11 : decode cX5_append 11 = .ok (.aload_n 0, 1) := by decide +kernel
theorem dX5_append_12 : decode cX5_append 12 = .ok (.getfield 21, 3) := by decide +kernel
theorem dX5_append_15 : decode cX5_append 15 = .ok (.iload_n 1, 1) := by decide +kernel
theorem dX5_append_16 : decode cX5_append 16 = .ok (.iastore, 1) := by decide +kernel
theorem dX5_append_17 : decode cX5_append 17 = .ok (.aload_n 0, 1) := by decide +kernel
theorem dX5_append_18 : decode cX5_append 18 = .ok (.getfield 15, 3) := by decide +kernel
theorem dX5_append_21 : decode cX5_append 21 = .ok (.aload_n 0, 1) := by decide +kernel
theorem dX5_append_22 : decode cX5_append 22 = .ok (.getfield 21, 3) := by decide +kernel
theorem dX5_append_25 : decode cX5_append 25 = .ok (.iload_n 2, 1) := by decide +kernel
theorem dX5_append_26 : decode cX5_append 26 = .ok (.iastore, 1) := by decide +kernel
theorem dX5_append_27 : decode cX5_append 27 = .ok (.aload_n 0, 1) := by decide +kernel
theorem dX5_append_28 : decode cX5_append 28 = .ok (.getfield 18, 3) := by decide +kernel
theorem dX5_append_31 : decode cX5_append 31 = .ok (.aload_n 0, 1) := by decide +kernel
theorem dX5_append_32 : decode cX5_append 32 = .ok (.getfield 21, 3) := by decide +kernel
theorem dX5_append_35 : decode cX5_append 35 = .ok (.iload_n 3, 1) := by decide +kernel
theorem dX5_append_36 : decode cX5_append 36 = .ok (.iastore, 1) := by decide +kernel
theorem dX5_append_37 : decode cX5_append 37 = .ok (.aload_n 0, 1) := by decide +kernel
theorem dX5_append_38 : decode cX5_append 38 = .ok (.dup, 1) := by decide +kernel
theorem dX5_append_39 : decode cX5_append 39 = .ok (.getfield 21, 3) := by decide +kernel
theorem dX5_append_42 : decode cX5_append 42 = .ok (.iconst 1, 1) := by decide +kernel
theorem dX5_append_43 : decode cX5_append 43 = .ok (.iadd, 1) := by decide +kernel
theorem dX5_append_44 : decode cX5_append 44 = .ok (.putfield 21, 3) := by decide +kernel
theorem dX5_append_47 : decode cX5_append 47 = .ok (.aload_n 0, 1) := by decide +kernel
theorem dX5_append_48 : decode cX5_append 48 = .ok (.getfield 21, 3) := by decide +kernel
theorem dX5_append_51 : decode cX5_append 51 = .ok (.ireturn, 1) := by decide +kernel
set_option maxRecDepth 20000 in
theorem ggX5_remove_X7_isWithin : GoodIn wsX5_remove wsX7_isWithin := goodIn_r _ [4] (by decide +kernel) (by decide +kernel)
set_option maxRecDepth 20000 in
theorem gX5_remove_X7_isWithin_n29 : GoodIn wsX5_remove (wsX7_isWithin) := ggX5_remove_X7_isWithin
set_option maxRecDepth 20000 in
theorem ggX5_remove_X5_move : GoodIn wsX5_remove wsX5_move := goodIn_r _ [9, 10, 11, 12, 13, 14, 15, 16] (by decide +kernel) (by decide +kernel)
set_option maxRecDepth 20000 in
theorem gX5_remove_X5_move : GoodIn wsX5_remove (wsV RX5 33 RX5 yX5_move wsX5_move) := goodIn_app (goodIn_of _ (by decide +kernel)) ggX5_remove_X5_move
theorem dX5_remove_0 : decode cX5_remove 0 = .ok (.iload_n 1, 1) := by decide +kernel
theorem dX5_remove_1 : decode cX5_remove 1 = .ok (.iconst 0, 1) := by decide +kernel
theorem dX5_remove_2 : decode cX5_remove 2 = .ok (.aload_n 0, 1) := by decide +kernel
theorem dX5_remove_3 : decode cX5_remove 3 = .ok (.getfield 21, 3) := by decide +kernel
theorem dX5_remove_6 : decode cX5_remove 6 = .ok (.iconst 1, 1) := by decide +kernel
theorem dX5_remove_7 : decode cX5_remove 7 = .ok (.isub, 1) := by decide +kernel
theorem dX5_remove_8 : decode cX5_remove 8 = .ok (.invokestatic 29, 3) := by decide +kernel
theorem dX5_remove_11 : decode cX5_remove 11 = .ok (.ifCond .eq 39, 3) := by decide +kernel
theorem dX5_remove_14 : decode cX5_remove 14 = .ok (.iload_n 1, 1) := by decide +kernel
theorem dX5_remove_15 : decode cX5_remove 15 = .ok (.iconst 1, 1) := by decide +kernel
theorem dX5_remove_16 : decode cX5_remove 16 = .ok (.iadd, 1) := by decide +kernel
theorem dX5_remove_17 : decode cX5_remove 17 = .ok (.istore_n 2, 1) := by decide +kernel
theorem dX5_remove_18 : decode cX5_remove 18 = .ok (.iload_n 2, 1) := by decide +kernel
theorem dX5_remove_19 : decode cX5_remove 19 = .ok (.aload_n 0, 1) := by decide +kernel
theorem dX5_remove_20 : decode cX5_remove 20 = .ok (.getfield 21, 3) := by decide +kernel
theorem dX5_remove_23 : decode cX5_remove 23 = .ok (.if_icmp .ge 17, 3) := by decide +kernel
theorem dX5_remove_26 : decode cX5_remove 26 = .ok (.aload_n 0, 1) := by decide +kernel
theorem dX5_remove_27 : decode cX5_remove 27 = .ok (.iload_n 2, 1) := by decide +kernel
theorem dX5_remove_28 : decode cX5_remove 28 = .ok (.iload_n 2, 1) := by decide +kernel
theorem dX5_remove_29 : decode cX5_remove 29 = .ok (.iconst 1, 1) := by decide +kernel
theorem dX5_remove_30 : decode cX5_remove 30 = .ok (.isub, 1) := by decide +kernel
theorem dX5_remove_31 : decode cX5_remove 31 = .ok (.invokevirtual 33, 3) := by decide +kernel
theorem dX5_remove_34 : decode cX5_remove 34 = .ok (.iinc 2 1, 3) := by decide +kernel
theorem dX5_remove_37 : decode cX5_remove 37 = .ok (.goto (-19), 3) := by decide +kernel
theorem dX5_remove_40 : decode cX5_remove 40 = .ok (.aload_n 0, 1) := by decide +kernel
theorem dX5_remove_41 : decode cX5_remove 41 = .ok (.dup, 1) := by decide +kernel
theorem dX5_remove_42 : decode cX5_remove 42 = .ok (.getfield 21, 3) := by decide +kernel
theorem dX5_remove_45 : decode cX5_remove 45 = .ok (.iconst 1, 1) := by decide +kernel
theorem dX5_remove_46 : decode cX5_remove 46 = .ok (.isub, 1) := by decide +kernel
theorem dX5_remove_47 : decode cX5_remove 47 = .ok (.putfield 21, 3) := by decide +kernel
theorem dX5_remove_50 : decode cX5_remove 50 = .ok (.aload_n 0, 1) := by decide +kernel
theorem dX5_remove_51 : decode cX5_remove 51 = .ok (.getfield 21, 3) := by decide +kernel
theorem dX5_remove_54 : decode cX5_remove 54 = .ok (.ireturn, 1) := by decide +kernel
set_option maxRecDepth 20000 in
theorem ggX5_removeAllOf_X5_move : GoodIn wsX5_removeAllOf wsX5_move := goodIn_r _ [8, 2, 3, 9, 10, 11, 12, 13] (by decide +kernel) (by decide +kernel)
set_option maxRecDepth 20000 in
theorem gX5_removeAllOf_X5_move : GoodIn wsX5_removeAllOf (wsV RX5 33 RX5 yX5_move wsX5_move) := goodIn_app (goodIn_of _ (by decide +kernel)) ggX5_removeAllOf_X5_move
theorem dX5_removeAllOf_0 : decode cX5_removeAllOf 0 = .ok (.iconst 0, 1) := by decide +kernel
theorem dX5_removeAllOf_1 : decode cX5_removeAllOf 1 = .ok (.istore_n 2, 1) := by decide +kernel
theorem dX5_removeAllOf_2 : decode cX5_removeAllOf 2 = .ok (.iconst 0, 1) := by decide +kernel
theorem dX5_removeAllOf_3 : decode cX5_removeAllOf 3 = .ok (.istore_n 3, 1) := by decide +kernel
theorem dX5_removeAllOf_4 : decode cX5_removeAllOf 4 = .ok (.iload_n 3, 1) := by decide +kernel
theorem dX5_removeAllOf_5 : decode cX5_removeAllOf 5 = .ok (.aload_n 0, 1) := by decide +kernel
theorem dX5_removeAllOf_6 : decode cX5_removeAllOf 6 = .ok (.getfield 21, 3) := by decide +kernel
theorem dX5_removeAllOf_9 : decode cX5_removeAllOf 9 = .ok (.if_icmp .ge 38, 3) := by decide +kernel
theorem dX5_removeAllOf_12 : decode cX5_removeAllOf 12 = .ok (.aload_n 0, 1) := by decide +kernel
theorem dX5_removeAllOf_13 : decode cX5_removeAllOf 13 = .ok (.getfield 9, 3) := by decide +kernel
theorem dX5_removeAllOf_16 : decode cX5_removeAllOf 16 = .ok (.iload_n 3, 1) := by decide +kernel
theorem dX5_removeAllOf_17 : decode cX5_removeAllOf 17 = .ok (.iaload, 1) := by decide +kernel
theorem dX5_removeAllOf_18 : decode cX5_removeAllOf 18 = .ok (.iload_n 1, 1) := by decide +kernel
theorem dX5_removeAllOf_19 : decode cX5_removeAllOf 19 = .ok (.if_icmp .eq 22, 3) := by decide +kernel
theorem dX5_removeAllOf_22 : decode cX5_removeAllOf 22 = .ok (.aload_n 0, 1) := by decide +kernel
theorem dX5_removeAllOf_23 : decode cX5_removeAllOf 23 = .ok (.getfield 15, 3) := by decide +kernel
theorem dX5_removeAllOf_26 : decode cX5_removeAllOf 26 = .ok (.iload_n 3, 1) := by decide +kernel
theorem dX5_removeAllOf_27 : decode cX5_removeAllOf 27 = .ok (.iaload, 1) := by decide +kernel
theorem dX5_removeAllOf_28 : decode cX5_removeAllOf 28 = .ok (.iload_n 1, 1) := by decide +kernel
theorem dX5_removeAllOf_29 : decode cX5_removeAllOf 29 = .ok (.if_icmp .eq 12, 3) := by decide +kernel
theorem dX5_removeAllOf_32 : decode cX5_removeAllOf 32 = .ok (.aload_n 0, 1) := by decide +kernel
theorem dX5_removeAllOf_33 : decode cX5_removeAllOf 33 = .ok (.iload_n 3, 1) := by decide +kernel
theorem dX5_removeAllOf_34 : decode cX5_removeAllOf 34 = .ok (.iload_n 2, 1) := by decide +kernel
theorem dX5_removeAllOf_35 : decode cX5_removeAllOf 35 = .ok (.invokevirtual 33, 3) := by decide +kernel
theorem dX5_removeAllOf_38 : decode cX5_removeAllOf 38 = .ok (.iinc 2 1, 3) := by decide +kernel
theorem dX5_removeAllOf_41 : decode cX5_removeAllOf 41 = .ok (.iinc 3 1, 3) := by decide +kernel
theorem dX5_removeAllOf_44 : decode cX5_removeAllOf 44 = .ok (.goto (-40), 3) := by decide +kernel
theorem dX5_removeAllOf_47 : decode cX5_removeAllOf 47 = .ok (.aload_n 0, 1) := by decide +kernel
theorem dX5_removeAllOf_48 : decode cX5_removeAllOf 48 = .ok (.iload_n 2, 1) := by decide +kernel
theorem dX5_removeAllOf_49 : decode cX5_removeAllOf 49 = .ok (.putfield 21, 3) := by decide +kernel
theorem dX5_removeAllOf_52 : decode cX5_removeAllOf 52 = .ok (.return_, 1) := by decide +kernel
theorem dX5_move_0 : decode cX5_move 0 = .ok (.aload_n 0, 1) := by decide +kernel
theorem dX5_move_1 : decode cX5_move 1 = .ok (.getfield 9, 3) := by decide +kernel
theorem dX5_move_4 : decode cX5_move 4 = .ok (.iload_n 2, 1) := by decide +kernel
theorem dX5_move_5 : decode cX5_move 5 = .ok (.aload_n 0, 1) := by decide +kernel
theorem dX5_move_6 : decode cX5_move 6 = .ok (.getfield 9, 3) := by decide +kernel
theorem dX5_move_9 : decode cX5_move 9 = .ok (.iload_n 1, 1) := by decide +kernel
theorem dX5_move_10 : decode cX5_move 10 = .ok (.iaload, 1) := by decide +kernel
theorem dX5_move_11 : decode cX5_move 11 = .ok (.iastore, 1) := by decide +kernel
theorem dX5_move_12 : decode cX5_move 12 = .ok (.aload_n 0, 1) := by decide +kernel
theorem dX5_move_13 : decode cX5_move 13 = .ok (.getfield 15, 3) := by decide +kernel
theorem dX5_move_16 : decode cX5_move 16 = .ok (.iload_n 2, 1) := by decide +kernel
theorem dX5_move_17 : decode cX5_move 17 = .ok (.aload_n 0, 1) := by decide +kernel
theorem dX5_move_18 : decode cX5_move 18 = .ok (.getfield 15, 3) := by decide +kernel
theorem dX5_move_21 : decode cX5_move 21 = .ok (.iload_n 1, 1) := by decide +kernel
theorem dX5_move_22 : decode cX5_move 22 = .ok (.iaload, 1) := by decide +kernel
theorem dX5_move_23 : decode cX5_move 23 = .ok (.iastore, 1) := by decide +kernel
theorem dX5_move_24 : decode cX5_move 24 = .ok (.aload_n 0, 1) := by decide +kernel
theorem dX5_move_25 : decode cX5_move 25 = .ok (.getfield 18, 3) := by decide +kernel
theorem dX5_move_28 : decode cX5_move 28 = .ok (.iload_n 2, 1) := by decide +kernel
theorem dX5_move_29 : decode cX5_move 29 = .ok (.aload_n 0, 1) := by decide +kernel
theorem dX5_move_30 : decode cX5_move 30 = .ok (.getfield 18, 3) := by decide +kernel
theorem dX5_move_33 : decode cX5_move 33 = .ok (.iload_n 1, 1) := by decide +kernel
theorem dX5_move_34 : decode cX5_move 34 = .ok (.iaload, 1) := by decide +kernel
theorem dX5_move_35 : decode cX5_move 35 = .ok (.iastore, 1) := by decide +kernel
theorem dX5_move_36 : decode cX5_move 36 = .ok (.return_, 1) := by decide +kernel
set_option maxRecDepth 20000 in
theorem ggX5_aheadOf_X7_isWithin : GoodIn wsX5_aheadOf wsX7_isWithin := goodIn_r _ [5] (by decide +kernel) (by decide +kernel)
set_option maxRecDepth 20000 in
theorem gX5_aheadOf_X7_isWithin_n29 : GoodIn wsX5_aheadOf (wsX7_isWithin) := ggX5_aheadOf_X7_isWithin
theorem dX5_aheadOf_0 : decode cX5_aheadOf 0 = .ok (.iload_n 1, 1) := by decide +kernel
theorem dX5_aheadOf_1 : decode cX5_aheadOf 1 = .ok (.iconst 0, 1) := by decide +kernel
theorem dX5_aheadOf_2 : decode cX5_aheadOf 2 = .ok (.aload_n 0, 1) := by decide +kernel
theorem dX5_aheadOf_3 : decode cX5_aheadOf 3 = .ok (.getfield 21, 3) := by decide +kernel
theorem dX5_aheadOf_6 : decode cX5_aheadOf 6 = .ok (.iconst 1, 1) := by decide +kernel
theorem dX5_aheadOf_7 : decode cX5_aheadOf 7 = .ok (.isub, 1) := by decide +kernel
theorem dX5_aheadOf_8 : decode cX5_aheadOf 8 = .ok (.invokestatic 29, 3) := by decide +kernel
theorem dX5_aheadOf_11 : decode cX5_aheadOf 11 = .ok (.ifCond .eq 12, 3) := by decide +kernel
theorem dX5_aheadOf_14 : decode cX5_aheadOf 14 = .ok (.aload_n 0, 1) := by decide +kernel
theorem dX5_aheadOf_15 : decode cX5_aheadOf 15 = .ok (.getfield 9, 3) := by decide +kernel
theorem dX5_aheadOf_18 : decode cX5_aheadOf 18 = .ok (.iload_n 1, 1) := by decide +kernel
theorem dX5_aheadOf_19 : decode cX5_aheadOf 19 = .ok (.iaload, 1) := by decide +kernel
theorem dX5_aheadOf_20 : decode cX5_aheadOf 20 = .ok (.goto 4, 3) := by decide +kernel
theorem dX5_aheadOf_23 : decode cX5_aheadOf 23 = .ok (.iconst 0, 1) := by decide +kernel
theorem dX5_aheadOf_24 : decode cX5_aheadOf 24 = .ok (.ireturn, 1) := by decide +kernel
set_option maxRecDepth 20000 in
theorem ggX5_behindOf_X7_isWithin : GoodIn wsX5_behindOf wsX7_isWithin := goodIn_r _ [5] (by decide +kernel) (by decide +kernel)
set_option maxRecDepth 20000 in
theorem gX5_behindOf_X7_isWithin_n29 : GoodIn wsX5_behindOf (wsX7_isWithin) := ggX5_behindOf_X7_isWithin
theorem dX5_behindOf_0 : decode cX5_behindOf 0 = .ok (.iload_n 1, 1) := by decide +kernel
theorem dX5_behindOf_1 : decode cX5_behindOf 1 = .ok (.iconst 0, 1) := by decide +kernel
theorem dX5_behindOf_2 : decode cX5_behindOf 2 = .ok (.aload_n 0, 1) := by decide +kernel
theorem dX5_behindOf_3 : decode cX5_behindOf 3 = .ok (.getfield 21, 3) := by decide +kernel
theorem dX5_behindOf_6 : decode cX5_behindOf 6 = .ok (.iconst 1, 1) := by decide +kernel
theorem dX5_behindOf_7 : decode cX5_behindOf 7 = .ok (.isub, 1) := by decide +kernel
theorem dX5_behindOf_8 : decode cX5_behindOf 8 = .ok (.invokestatic 29, 3) := by decide +kernel
theorem dX5_behindOf_11 : decode cX5_behindOf 11 = .ok (.ifCond .eq 12, 3) := by decide +kernel
theorem dX5_behindOf_14 : decode cX5_behindOf 14 = .ok (.aload_n 0, 1) := by decide +kernel
theorem dX5_behindOf_15 : decode cX5_behindOf 15 = .ok (.getfield 15, 3) := by decide +kernel
theorem dX5_behindOf_18 : decode cX5_behindOf 18 = .ok (.iload_n 1, 1) := by decide +kernel
theorem dX5_behindOf_19 : decode cX5_behindOf 19 = .ok (.iaload, 1) := by decide +kernel
theorem dX5_behindOf_20 : decode cX5_behindOf 20 = .ok (.goto 4, 3) := by decide +kernel
theorem dX5_behindOf_23 : decode cX5_behindOf 23 = .ok (.iconst 0, 1) := by decide +kernel
theorem dX5_behindOf_24 : decode cX5_behindOf 24 = .ok (.ireturn, 1) := by decide +kernel
set_option maxRecDepth 20000 in
theorem ggX5_distanceOf_X7_isWithin : GoodIn wsX5_distanceOf wsX7_isWithin := goodIn_r _ [5] (by decide +kernel) (by decide +kernel)
set_option maxRecDepth 20000 in
theorem gX5_distanceOf_X7_isWithin_n29 : GoodIn wsX5_distanceOf (wsX7_isWithin) := ggX5_distanceOf_X7_isWithin
theorem dX5_distanceOf_0 : decode cX5_distanceOf 0 = .ok (.iload_n 1, 1) := by decide +kernel
theorem dX5_distanceOf_1 : decode cX5_distanceOf 1 = .ok (.iconst 0, 1) := by decide +kernel
theorem dX5_distanceOf_2 : decode cX5_distanceOf 2 = .ok (.aload_n 0, 1) := by decide +kernel
theorem dX5_distanceOf_3 : decode cX5_distanceOf 3 = .ok (.getfield 21, 3) := by decide +kernel
theorem dX5_distanceOf_6 : decode cX5_distanceOf 6 = .ok (.iconst 1, 1) := by decide +kernel
theorem dX5_distanceOf_7 : decode cX5_distanceOf 7 = .ok (.isub, 1) := by decide +kernel
theorem dX5_distanceOf_8 : decode cX5_distanceOf 8 = .ok (.invokestatic 29, 3) := by decide +kernel
theorem dX5_distanceOf_11 : decode cX5_distanceOf 11 = .ok (.ifCond .eq 12, 3) := by decide +kernel
theorem dX5_distanceOf_14 : decode cX5_distanceOf 14 = .ok (.aload_n 0, 1) := by decide +kernel
theorem dX5_distanceOf_15 : decode cX5_distanceOf 15 = .ok (.getfield 18, 3) := by decide +kernel
theorem dX5_distanceOf_18 : decode cX5_distanceOf 18 = .ok (.iload_n 1, 1) := by decide +kernel
theorem dX5_distanceOf_19 : decode cX5_distanceOf 19 = .ok (.iaload, 1) := by decide +kernel
theorem dX5_distanceOf_20 : decode cX5_distanceOf 20 = .ok (.goto 4, 3) := by decide +kernel
theorem dX5_distanceOf_23 : decode cX5_distanceOf 23 = .ok (.iconst 0, 1) := by decide +kernel
theorem dX5_distanceOf_24 : decode cX5_distanceOf 24 = .ok (.ireturn, 1) := by decide +kernel
theorem dX6_init_0 : decode cX6_init 0 = .ok (.aload_n 0, 1) := by decide +kernel
theorem dX6_init_1 : decode cX6_init 1 = .ok (.invokespecial 3, 3) := by decide +kernel
theorem dX6_init_4 : decode cX6_init 4 = .ok (.aload_n 0, 1) := by decide +kernel
theorem dX6_init_5 : decode cX6_init 5 = .ok (.bipush 12, 2) := by decide +kernel
theorem dX6_init_7 : decode cX6_init 7 = .ok (.newarray .int, 2) := by decide +kernel
theorem dX6_init_9 : decode cX6_init 9 = .ok (.putfield 9, 3) := by decide +kernel
theorem dX6_init_12 : decode cX6_init 12 = .ok (.aload_n 0, 1) := by decide +kernel
theorem dX6_init_13 : decode cX6_init 13 = .ok (.bipush 12, 2) := by decide +kernel
theorem dX6_init_15 : decode cX6_init 15 = .ok (.newarray .int, 2) := by decide +kernel
theorem dX6_init_17 : decode cX6_init 17 = .ok (.putfield 15, 3) := by decide +kernel
theorem dX6_init_20 : decode cX6_init 20 = .ok (.aload_n 0, 1) := by decide +kernel
theorem dX6_init_21 : decode cX6_init 21 = .ok (.bipush 12, 2) := by decide +kernel
theorem dX6_init_23 : decode cX6_init 23 = .ok (.newarray .int, 2) := by decide +kernel
theorem dX6_init_25 : decode cX6_init 25 = .ok (.putfield 18, 3) := by decide +kernel
theorem dX6_init_28 : decode cX6_init 28 = .ok (.aload_n 0, 1) := by decide +kernel
theorem dX6_init_29 : decode cX6_init 29 = .ok (.bipush 12, 2) := by decide +kernel
theorem dX6_init_31 : decode cX6_init 31 = .ok (.newarray .int, 2) := by decide +kernel
theorem dX6_init_33 : decode cX6_init 33 = .ok (.putfield 21, 3) := by decide +kernel
theorem dX6_init_36 : decode cX6_init 36 = .ok (.aload_n 0, 1) := by decide +kernel
theorem dX6_init_37 : decode cX6_init 37 = .ok (.iconst 0, 1) := by decide +kernel
theorem dX6_init_38 : decode cX6_init 38 = .ok (.putfield 24, 3) := by decide +kernel
theorem dX6_init_41 : decode cX6_init 41 = .ok (.aload_n 0, 1) := by decide +kernel
theorem dX6_init_42 : decode cX6_init 42 = .ok (.iconst 0, 1) := by decide +kernel
theorem dX6_init_43 : decode cX6_init 43 = .ok (.putfield 28, 3) := by decide +kernel
theorem dX6_init_46 : decode cX6_init 46 = .ok (.aload_n 0, 1) := by decide +kernel
theorem dX6_init_47 : decode cX6_init 47 = .ok (.iconst 0, 1) := by decide +kernel
theorem dX6_init_48 : decode cX6_init 48 = .ok (.putfield 31, 3) := by decide +kernel
theorem dX6_init_51 : decode cX6_init 51 = .ok (.return_, 1) := by decide +kernel
theorem dX6_size_0 : decode cX6_size 0 = .ok (.aload_n 0, 1) := by decide +kernel
theorem dX6_size_1 : decode cX6_size 1 = .ok (.getfield 24, 3) := by decide +kernel
theorem dX6_size_4 : decode cX6_size 4 = .ok (.ireturn, 1) := by decide +kernel
theorem dX6_isFull_0 : decode cX6_isFull 0 = .ok (.aload_n 0, 1) := by decide +kernel
theorem dX6_isFull_1 : decode cX6_isFull 1 = .ok (.getfield 24, 3) := by decide +kernel
theorem dX6_isFull_4 : decode cX6_isFull 4 = .ok (.bipush 12, 2) := by decide +kernel
theorem dX6_isFull_6 : decode cX6_isFull 6 = .ok (.if_icmp .lt 7, 3) := by decide +kernel
theorem dX6_isFull_9 : decode cX6_isFull 9 = .ok (.iconst 1, 1) := by decide +kernel
theorem dX6_isFull_10 : decode cX6_isFull 10 = .ok (.goto 4, 3) := by decide +kernel
theorem dX6_isFull_13 : decode cX6_isFull 13 = .ok (.iconst 0, 1) := by decide +kernel
theorem dX6_isFull_14 : decode cX6_isFull 14 = .ok (.ireturn, 1) := by decide +kernel
set_option maxRecDepth 20000 in
theorem ggX6_has_X7_isWithin : GoodIn wsX6_has wsX7_isWithin := goodIn_r _ [4] (by decide +kernel) (by decide +kernel)
set_option maxRecDepth 20000 in
theorem gX6_has_X7_isWithin_n34 : GoodIn wsX6_has (wsX7_isWithin) := ggX6_has_X7_isWithin
theorem dX6_has_0 : decode cX6_has 0 = .ok (.iload_n 1, 1) := by decide +kernel
theorem dX6_has_1 : decode cX6_has 1 = .ok (.iconst 0, 1) := by decide +kernel
theorem dX6_has_2 : decode cX6_has 2 = .ok (.aload_n 0, 1) := by decide +kernel
theorem dX6_has_3 : decode cX6_has 3 = .ok (.getfield 24, 3) := by decide +kernel
theorem dX6_has_6 : decode cX6_has 6 = .ok (.iconst 1, 1) := by decide +kernel
theorem dX6_has_7 : decode cX6_has 7 = .ok (.isub, 1) := by decide +kernel
theorem dX6_has_8 : decode cX6_has 8 = .ok (.invokestatic 34, 3) := by decide +kernel
theorem dX6_has_11 : decode cX6_has 11 = .ok (.ireturn, 1) := by decide +kernel
set_option maxRecDepth 20000 in
theorem ggX6_append_X6_isFull : GoodIn wsX6_append wsX6_isFull := goodIn_r _ [10, 1, 17, 18, 19, 20, 21, 22, 23] (by decide +kernel) (by decide +kernel)
set_option maxRecDepth 20000 in
theorem gX6_append_X6_isFull : GoodIn wsX6_append (wsV RX6 38 RX6 yX6_isFull wsX6_isFull) := goodIn_app (goodIn_of _ (by decide +kernel)) ggX6_append_X6_isFull
set_option maxRecDepth 20000 in
theorem ggX6_append_X6_noteMarks : GoodIn wsX6_append wsX6_noteMarks := goodIn_r _ [14, 15, 16, 1, 5, 2, 17, 18, 19, 20, 21, 22, 23] (by decide +kernel) (by decide +kernel)
set_option maxRecDepth 20000 in
theorem gX6_append_X6_noteMarks : GoodIn wsX6_append (wsV RX6 42 RX6 yX6_noteMarks wsX6_noteMarks) := goodIn_app (goodIn_of _ (by decide +kernel)) ggX6_append_X6_noteMarks
theorem dX6_append_0 : decode cX6_append 0 = .ok (.aload_n 0, 1) := by decide +kernel
theorem dX6_append_1 : decode cX6_append 1 = .ok (.getfield 24, 3) := by decide +kernel
theorem dX6_append_4 : decode cX6_append 4 = .ok (.istore 5, 2) := by decide +kernel
theorem dX6_append_6 : decode cX6_append 6 = .ok (.aload_n 0, 1) := by decide +kernel
theorem dX6_append_7 : decode cX6_append 7 = .ok (.invokevirtual 38, 3) := by decide +kernel
theorem dX6_append_10 : decode cX6_append 10 = .ok (.ifCond .ne 50, 3) := by decide +kernel
theorem dX6_append_13 : decode cX6_append 13 = .ok (.aload_n 0, 1) := by decide +kernel
theorem dX6_append_14 : decode cX6_append 14 = .ok (.getfield 9, 3) := by decide +kernel
theorem dX6_append_17 : decode cX6_append 17 = .ok (.iload 5, 2) := by decide +kernel
theorem dX6_append_19 : decode cX6_append 19 = .ok (.iload_n 1, 1) := by decide +kernel
theorem dX6_append_20 : decode cX6_append 20 = .ok (.iastore, 1) := by decide +kernel
theorem dX6_append_21 : decode cX6_append 21 = .ok (.aload_n 0, 1) := by decide +kernel
theorem dX6_append_22 : decode cX6_append 22 = .ok (.getfield 15, 3) := by decide +kernel
theorem dX6_append_25 : decode cX6_append 25 = .ok (.iload 5, 2) := by decide +kernel
theorem dX6_append_27 : decode cX6_append 27 = .ok (.iload_n 2, 1) := by decide +kernel
theorem dX6_append_28 : decode cX6_append 28 = .ok (.iastore, 1) := by decide +kernel
theorem dX6_append_29 : decode cX6_append 29 = .ok (.aload_n 0, 1) := by decide +kernel
theorem dX6_append_30 : decode cX6_append 30 = .ok (.getfield 18, 3) := by decide +kernel
theorem dX6_append_33 : decode cX6_append 33 = .ok (.iload 5, 2) := by decide +kernel
theorem dX6_append_35 : decode cX6_append 35 = .ok (.iload_n 3, 1) := by decide +kernel
theorem dX6_append_36 : decode cX6_append 36 = .ok (.iastore, 1) := by decide +kernel
theorem dX6_append_37 : decode cX6_append 37 = .ok (.aload_n 0, 1) := by decide +kernel
theorem dX6_append_38 : decode cX6_append 38 = .ok (.getfield 21, 3) := by decide +kernel
theorem dX6_append_41 : decode cX6_append 41 = .ok (.iload 5, 2) := by decide +kernel
theorem dX6_append_43 : decode cX6_append 43 = .ok (.iload 4, 2) := by decide +kernel
theorem dX6_append_45 : decode cX6_append 45 = .ok (.iastore, 1) := by decide +kernel
theorem dX6_append_46 : decode cX6_append 46 = .ok (.aload_n 0, 1) := by decide +kernel
theorem dX6_append_47 : decode cX6_append 47 = .ok (.dup, 1) := by decide +kernel
theorem dX6_append_48 : decode cX6_append 48 = .ok (.getfield 24, 3) := by decide +kernel
theorem dX6_append_51 : decode cX6_append 51 = .ok (.iconst 1, 1) := by decide +kernel
theorem dX6_append_52 : decode cX6_append 52 = .ok (.iadd, 1) := by decide +kernel
theorem dX6_append_53 : decode cX6_append 53 = .ok (.putfield 24, 3) := by decide +kernel
theorem dX6_append_56 : decode cX6_append 56 = .ok (.aload_n 0, 1) := by decide +kernel
theorem dX6_append_57 : decode cX6_append 57 = .ok (.invokevirtual 42, 3) := by decide +kernel
theorem dX6_append_60 : decode cX6_append 60 = .ok (.iload 5, 2) := by decide +kernel
theorem dX6_append_62 : decode cX6_append 62 = .ok (.ireturn, 1) := by decide +kernel
set_option maxRecDepth 20000 in
theorem ggX6_removeLast_X6_noteMarks : GoodIn wsX6_removeLast wsX6_noteMarks := goodIn_r _ [6, 7, 8, 1, 9, 10, 11, 12, 13, 14, 15, 16, 17] (by decide +kernel) (by decide +kernel)
set_option maxRecDepth 20000 in
theorem gX6_removeLast_X6_noteMarks : GoodIn wsX6_removeLast (wsV RX6 42 RX6 yX6_noteMarks wsX6_noteMarks) := goodIn_app (goodIn_of _ (by decide +kernel)) ggX6_removeLast_X6_noteMarks
theorem dX6_removeLast_0 : decode cX6_removeLast 0 = .ok (.aload_n 0, 1) := by decide +kernel
theorem dX6_removeLast_1 : decode cX6_removeLast 1 = .ok (.getfield 24, 3) := by decide +kernel
theorem dX6_removeLast_4 : decode cX6_removeLast 4 = .ok (.ifCond .le 17, 3) := by decide +kernel
theorem dX6_removeLast_7 : decode cX6_removeLast 7 = .ok (.aload_n 0, 1) := by decide +kernel
theorem dX6_removeLast_8 : decode cX6_removeLast 8 = .ok (.dup, 1) := by decide +kernel
theorem dX6_removeLast_9 : decode cX6_removeLast 9 = .ok (.getfield 24, 3) := by decide +kernel
theorem dX6_removeLast_12 : decode cX6_removeLast 12 = .ok (.iconst 1, 1) := by decide +kernel
theorem dX6_removeLast_13 : decode cX6_removeLast 13 = .ok (.isub, 1) := by decide +kernel
theorem dX6_removeLast_14 : decode cX6_removeLast 14 = .ok (.putfield 24, 3) := by decide +kernel
theorem dX6_removeLast_17 : decode cX6_removeLast 17 = .ok (.aload_n 0, 1) := by decide +kernel
theorem dX6_removeLast_18 : decode cX6_removeLast 18 = .ok (.invokevirtual 42, 3) := by decide +kernel
theorem dX6_removeLast_21 : decode cX6_removeLast 21 = .ok (.aload_n 0, 1) := by decide +kernel
theorem dX6_removeLast_22 : decode cX6_removeLast 22 = .ok (.getfield 24, 3) := by decide +kernel
theorem dX6_removeLast_25 : decode cX6_removeLast 25 = .ok (.ireturn, 1) := by decide +kernel
set_option maxRecDepth 20000 in
theorem ggX6_kindOf_X6_has : GoodIn wsX6_kindOf wsX6_has := goodIn_r _ [6, 7, 8, 9, 10, 11, 12, 13, 14, 15, 16, 17] (by decide +kernel) (by decide +kernel)
set_option maxRecDepth 20000 in
theorem gX6_kindOf_X6_has : GoodIn wsX6_kindOf (wsV RX6 45 RX6 yX6_has wsX6_has) := goodIn_app (goodIn_of _ (by decide +kernel)) ggX6_kindOf_X6_has
theorem dX6_kindOf_0 : decode cX6_kindOf 0 = .ok (.aload_n 0, 1) := by decide +kernel
theorem dX6_kindOf_1 : decode cX6_kindOf 1 = .ok (.iload_n 1, 1) := by decide +kernel
theorem dX6_kindOf_2 : decode cX6_kindOf 2 = .ok (.invokevirtual 45, 3) := by decide +kernel
theorem dX6_kindOf_5 : decode cX6_kindOf 5 = .ok (.ifCond .eq 12, 3) := by decide +kernel
theorem dX6_kindOf_8 : decode cX6_kindOf 8 = .ok (.aload_n 0, 1) := by decide +kernel
theorem dX6_kindOf_9 : decode cX6_kindOf 9 = .ok (.getfield 9, 3) := by decide +kernel
theorem dX6_kindOf_12 : decode cX6_kindOf 12 = .ok (.iload_n 1, 1) := by decide +kernel
theorem dX6_kindOf_13 : decode cX6_kindOf 13 = .ok (.iaload, 1) := by decide +kernel
theorem dX6_kindOf_14 : decode cX6_kindOf 14 = .ok (.goto 4, 3) := by decide +kernel
theorem dX6_kindOf_17 : decode cX6_kindOf 17 = .ok (.iconst 0, 1) := by decide +kernel
theorem dX6_kindOf_18 : decode cX6_kindOf 18 = .ok (.ireturn, 1) := by decide +kernel
set_option maxRecDepth 20000 in
theorem ggX6_clockOf_X6_has : GoodIn wsX6_clockOf wsX6_has := goodIn_r _ [6, 7, 8, 9, 10, 11, 12, 13, 14, 15, 16, 17] (by decide +kernel) (by decide +kernel)
set_option maxRecDepth 20000 in
theorem gX6_clockOf_X6_has : GoodIn wsX6_clockOf (wsV RX6 45 RX6 yX6_has wsX6_has) := goodIn_app (goodIn_of _ (by decide +kernel)) ggX6_clockOf_X6_has
theorem dX6_clockOf_0 : decode cX6_clockOf 0 = .ok (.aload_n 0, 1) := by decide +kernel
theorem dX6_clockOf_1 : decode cX6_clockOf 1 = .ok (.iload_n 1, 1) := by decide +kernel
theorem dX6_clockOf_2 : decode cX6_clockOf 2 = .ok (.invokevirtual 45, 3) := by decide +kernel
theorem dX6_clockOf_5 : decode cX6_clockOf 5 = .ok (.ifCond .eq 12, 3) := by decide +kernel
theorem dX6_clockOf_8 : decode cX6_clockOf 8 = .ok (.aload_n 0, 1) := by decide +kernel
theorem dX6_clockOf_9 : decode cX6_clockOf 9 = .ok (.getfield 15, 3) := by decide +kernel
theorem dX6_clockOf_12 : decode cX6_clockOf 12 = .ok (.iload_n 1, 1) := by decide +kernel
theorem dX6_clockOf_13 : decode cX6_clockOf 13 = .ok (.iaload, 1) := by decide +kernel
theorem dX6_clockOf_14 : decode cX6_clockOf 14 = .ok (.goto 4, 3) := by decide +kernel
theorem dX6_clockOf_17 : decode cX6_clockOf 17 = .ok (.iconst 0, 1) := by decide +kernel
theorem dX6_clockOf_18 : decode cX6_clockOf 18 = .ok (.ireturn, 1) := by decide +kernel
set_option maxRecDepth 20000 in
theorem ggX6_readingOf_X6_has : GoodIn wsX6_readingOf wsX6_has := goodIn_r _ [6, 7, 8, 9, 10, 11, 12, 13, 14, 15, 16, 17] (by decide +kernel) (by decide +kernel)
set_option maxRecDepth 20000 in
theorem gX6_readingOf_X6_has : GoodIn wsX6_readingOf (wsV RX6 45 RX6 yX6_has wsX6_has) := goodIn_app (goodIn_of _ (by decide +kernel)) ggX6_readingOf_X6_has
theorem dX6_readingOf_0 : decode cX6_readingOf 0 = .ok (.aload_n 0, 1) := by decide +kernel
theorem dX6_readingOf_1 : decode cX6_readingOf 1 = .ok (.iload_n 1, 1) := by decide +kernel
theorem dX6_readingOf_2 : decode cX6_readingOf 2 = .ok (.invokevirtual 45, 3) := by decide +kernel
theorem dX6_readingOf_5 : decode cX6_readingOf 5 = .ok (.ifCond .eq 12, 3) := by decide +kernel
theorem dX6_readingOf_8 : decode cX6_readingOf 8 = .ok (.aload_n 0, 1) := by decide +kernel
theorem dX6_readingOf_9 : decode cX6_readingOf 9 = .ok (.getfield 18, 3) := by decide +kernel
theorem dX6_readingOf_12 : decode cX6_readingOf 12 = .ok (.iload_n 1, 1) := by decide +kernel
theorem dX6_readingOf_13 : decode cX6_readingOf 13 = .ok (.iaload, 1) := by decide +kernel
theorem dX6_readingOf_14 : decode cX6_readingOf 14 = .ok (.goto 4, 3) := by decide +kernel
theorem dX6_readingOf_17 : decode cX6_readingOf 17 = .ok (.iconst 0, 1) := by decide +kernel
theorem dX6_readingOf_18 : decode cX6_readingOf 18 = .ok (.ireturn, 1) := by decide +kernel
set_option maxRecDepth 20000 in
theorem ggX6_markOf_X6_has : GoodIn wsX6_markOf wsX6_has := goodIn_r _ [6, 7, 8, 9, 10, 11, 12, 13, 14, 15, 16, 17] (by decide +kernel) (by decide +kernel)
set_option maxRecDepth 20000 in
theorem gX6_markOf_X6_has : GoodIn wsX6_markOf (wsV RX6 45 RX6 yX6_has wsX6_has) := goodIn_app (goodIn_of _ (by decide +kernel)) ggX6_markOf_X6_has
theorem dX6_markOf_0 : decode cX6_markOf 0 = .ok (.aload_n 0, 1) := by decide +kernel
theorem dX6_markOf_1 : decode cX6_markOf 1 = .ok (.iload_n 1, 1) := by decide +kernel
theorem dX6_markOf_2 : decode cX6_markOf 2 = .ok (.invokevirtual 45, 3) := by decide +kernel
theorem dX6_markOf_5 : decode cX6_markOf 5 = .ok (.ifCond .eq 12, 3) := by decide +kernel
theorem dX6_markOf_8 : decode cX6_markOf 8 = .ok (.aload_n 0, 1) := by decide +kernel
theorem dX6_markOf_9 : decode cX6_markOf 9 = .ok (.getfield 21, 3) := by decide +kernel
theorem dX6_markOf_12 : decode cX6_markOf 12 = .ok (.iload_n 1, 1) := by decide +kernel
theorem dX6_markOf_13 : decode cX6_markOf 13 = .ok (.iaload, 1) := by decide +kernel
theorem dX6_markOf_14 : decode cX6_markOf 14 = .ok (.goto 4, 3) := by decide +kernel
theorem dX6_markOf_17 : decode cX6_markOf 17 = .ok (.iconst 0, 1) := by decide +kernel
theorem dX6_markOf_18 : decode cX6_markOf 18 = .ok (.ireturn, 1) := by decide +kernel
theorem dX6_marksThere_0 : decode cX6_marksThere 0 = .ok (.aload_n 0, 1) := by decide +kernel
theorem dX6_marksThere_1 : decode cX6_marksThere 1 = .ok (.getfield 28, 3) := by decide +kernel
theorem dX6_marksThere_4 : decode cX6_marksThere 4 = .ok (.ireturn, 1) := by decide +kernel
theorem dX6_marksToExplain_0 : decode cX6_marksToExplain 0 = .ok (.aload_n 0, 1) := by decide +kernel
theorem dX6_marksToExplain_1 : decode cX6_marksToExplain 1 = .ok (.getfield 31, 3) := by decide +kernel
theorem dX6_marksToExplain_4 : decode cX6_marksToExplain 4 = .ok (.ireturn, 1) := by decide +kernel
theorem dX6_noteMarks_0 : decode cX6_noteMarks 0 = .ok (.aload_n 0, 1) := by decide +kernel
theorem dX6_noteMarks_1 : decode cX6_noteMarks 1 = .ok (.iconst 0, 1) := by decide +kernel
theorem dX6_noteMarks_2 : decode cX6_noteMarks 2 = .ok (.putfield 28, 3) := by decide +kernel
theorem dX6_noteMarks_5 : decode cX6_noteMarks 5 = .ok (.aload_n 0, 1) := by decide +kernel
theorem dX6_noteMarks_6 : decode cX6_noteMarks 6 = .ok (.iconst 0, 1) := by decide +kernel
theorem dX6_noteMarks_7 : decode cX6_noteMarks 7 = .ok (.putfield 31, 3) := by decide +kernel
theorem dX6_noteMarks_10 : decode cX6_noteMarks 10 = .ok (.iconst 0, 1) := by decide +kernel
theorem dX6_noteMarks_11 : decode cX6_noteMarks 11 = .ok (.istore_n 1, 1) := by decide +kernel
theorem dX6_noteMarks_12 : decode cX6_noteMarks 12 = .ok (.iload_n 1, 1) := by decide +kernel
theorem dX6_noteMarks_13 : decode cX6_noteMarks 13 = .ok (.aload_n 0, 1) := by decide +kernel
theorem dX6_noteMarks_14 : decode cX6_noteMarks 14 = .ok (.getfield 24, 3) := by decide +kernel
theorem dX6_noteMarks_17 : decode cX6_noteMarks 17 = .ok (.if_icmp .ge 53, 3) := by decide +kernel
theorem dX6_noteMarks_20 : decode cX6_noteMarks 20 = .ok (.aload_n 0, 1) := by decide +kernel
theorem dX6_noteMarks_21 : decode cX6_noteMarks 21 = .ok (.dup, 1) := by decide +kernel
theorem dX6_noteMarks_22 : decode cX6_noteMarks 22 = .ok (.getfield 28, 3) := by decide +kernel
theorem dX6_noteMarks_25 : decode cX6_noteMarks 25 = .ok (.iconst 1, 1) := by decide +kernel
theorem dX6_noteMarks_26 : decode cX6_noteMarks 26 = .ok (.aload_n 0, 1) := by decide +kernel
theorem dX6_noteMarks_27 : decode cX6_noteMarks 27 = .ok (.getfield 21, 3) := by decide +kernel
theorem dX6_noteMarks_30 : decode cX6_noteMarks 30 = .ok (.iload_n 1, 1) := by decide +kernel
theorem dX6_noteMarks_31 : decode cX6_noteMarks 31 = .ok (.iaload, 1) := by decide +kernel
theorem dX6_noteMarks_32 : decode cX6_noteMarks 32 = .ok (.ishl, 1) := by decide +kernel
theorem dX6_noteMarks_33 : decode cX6_noteMarks 33 = .ok (.ior, 1) := by decide +kernel
theorem dX6_noteMarks_34 : decode cX6_noteMarks 34 = .ok (.putfield 28, 3) := by decide +kernel
theorem dX6_noteMarks_37 : decode cX6_noteMarks 37 = .ok (.aload_n 0, 1) := by decide +kernel
theorem dX6_noteMarks_38 : decode cX6_noteMarks 38 = .ok (.getfield 9, 3) := by decide +kernel
theorem dX6_noteMarks_41 : decode cX6_noteMarks 41 = .ok (.iload_n 1, 1) := by decide +kernel
theorem dX6_noteMarks_42 : decode cX6_noteMarks 42 = .ok (.iaload, 1) := by decide +kernel
theorem dX6_noteMarks_43 : decode cX6_noteMarks 43 = .ok (.iconst 2, 1) := by decide +kernel
theorem dX6_noteMarks_44 : decode cX6_noteMarks 44 = .ok (.if_icmp .eq 20, 3) := by decide +kernel
theorem dX6_noteMarks_47 : decode cX6_noteMarks 47 = .ok (.aload_n 0, 1) := by decide +kernel
theorem dX6_noteMarks_48 : decode cX6_noteMarks 48 = .ok (.dup, 1) := by decide +kernel
theorem dX6_noteMarks_49 : decode cX6_noteMarks 49 = .ok (.getfield 31, 3) := by decide +kernel
theorem dX6_noteMarks_52 : decode cX6_noteMarks 52 = .ok (.iconst 1, 1) := by decide +kernel
theorem dX6_noteMarks_53 : decode cX6_noteMarks 53 = .ok (.aload_n 0, 1) := by decide +kernel
theorem dX6_noteMarks_54 : decode cX6_noteMarks 54 = .ok (.getfield 21, 3) := by decide +kernel
theorem dX6_noteMarks_57 : decode cX6_noteMarks 57 = .ok (.iload_n 1, 1) := by decide +kernel
theorem dX6_noteMarks_58 : decode cX6_noteMarks 58 = .ok (.iaload, 1) := by decide +kernel
theorem dX6_noteMarks_59 : decode cX6_noteMarks 59 = .ok (.ishl, 1) := by decide +kernel
theorem dX6_noteMarks_60 : decode cX6_noteMarks 60 = .ok (.ior, 1) := by decide +kernel
theorem dX6_noteMarks_61 : decode cX6_noteMarks 61 = .ok (.putfield 31, 3) := by decide +kernel
theorem dX6_noteMarks_64 : decode cX6_noteMarks 64 = .ok (.iinc 1 1, 3) := by decide +kernel
theorem dX6_noteMarks_67 : decode cX6_noteMarks 67 = .ok (.goto (-55), 3) := by decide +kernel
theorem dX6_noteMarks_70 : decode cX6_noteMarks 70 = .ok (.return_, 1) := by decide +kernel
theorem dX6_howManyNotOf_0 : decode cX6_howManyNotOf 0 = .ok (.iconst 0, 1) := by decide +kernel
theorem dX6_howManyNotOf_1 : decode cX6_howManyNotOf 1 = .ok (.istore_n 2, 1) := by decide +kernel
theorem dX6_howManyNotOf_2 : decode cX6_howManyNotOf 2 = .ok (.iconst 0, 1) := by decide +kernel
theorem dX6_howManyNotOf_3 : decode cX6_howManyNotOf 3 = .ok (.istore_n 3, 1) := by decide +kernel
theorem dX6_howManyNotOf_4 : decode cX6_howManyNotOf 4 = .ok (.iload_n 3, 1) := by decide +kernel
theorem dX6_howManyNotOf_5 : decode cX6_howManyNotOf 5 = .ok (.aload_n 0, 1) := by decide +kernel
theorem dX6_howManyNotOf_6 : decode cX6_howManyNotOf 6 = .ok (.getfield 24, 3) := by decide +kernel
theorem dX6_howManyNotOf_9 : decode cX6_howManyNotOf 9 = .ok (.if_icmp .ge 25, 3) := by decide +kernel
theorem dX6_howManyNotOf_12 : decode cX6_howManyNotOf 12 = .ok (.iload_n 1, 1) := by decide +kernel
theorem dX6_howManyNotOf_13 : decode cX6_howManyNotOf 13 = .ok (.aload_n 0, 1) := by decide +kernel
theorem dX6_howManyNotOf_14 : decode cX6_howManyNotOf 14 = .ok (.getfield 21, 3) := by decide +kernel
theorem dX6_howManyNotOf_17 : decode cX6_howManyNotOf 17 = .ok (.iload_n 3, 1) := by decide +kernel
theorem dX6_howManyNotOf_18 : decode cX6_howManyNotOf 18 = .ok (.iaload, 1) := by decide +kernel
theorem dX6_howManyNotOf_19 : decode cX6_howManyNotOf 19 = .ok (.ishr, 1) := by decide +kernel
theorem dX6_howManyNotOf_20 : decode cX6_howManyNotOf 20 = .ok (.iconst 1, 1) := by decide +kernel
theorem dX6_howManyNotOf_21 : decode cX6_howManyNotOf 21 = .ok (.iand, 1) := by decide +kernel
theorem dX6_howManyNotOf_22 : decode cX6_howManyNotOf 22 = .ok (.ifCond .ne 6, 3) := by decide +kernel
theorem dX6_howManyNotOf_25 : decode cX6_howManyNotOf 25 = .ok (.iinc 2 1, 3) := by decide +kernel
theorem dX6_howManyNotOf_28 : decode cX6_howManyNotOf 28 = .ok (.iinc 3 1, 3) := by decide +kernel
theorem dX6_howManyNotOf_31 : decode cX6_howManyNotOf 31 = .ok (.goto (-27), 3) := by decide +kernel
theorem dX6_howManyNotOf_34 : decode cX6_howManyNotOf 34 = .ok (.iload_n 2, 1) := by decide +kernel
theorem dX6_howManyNotOf_35 : decode cX6_howManyNotOf 35 = .ok (.ireturn, 1) := by decide +kernel
set_option maxRecDepth 20000 in
theorem ggX7_init_X1_init : GoodIn wsX7_init wsX1_init := goodIn_r _ [37, 38, 2, 3, 32, 39, 40, 41, 42, 107, 108, 109, 110] (by decide +kernel) (by decide +kernel)
set_option maxRecDepth 20000 in
theorem gX7_init_X1_init_n15 : GoodIn wsX7_init (wsX1_init) := ggX7_init_X1_init
set_option maxRecDepth 20000 in
theorem ggX7_init_X6_init : GoodIn wsX7_init wsX6_init := goodIn_r _ [44, 45, 2, 3, 32, 46, 47, 48, 49, 50, 51, 52, 111, 112, 113, 114, 115, 116, 117] (by decide +kernel) (by decide +kernel)
set_option maxRecDepth 20000 in
theorem gX7_init_X6_init_n18 : GoodIn wsX7_init (wsX6_init) := ggX7_init_X6_init
set_option maxRecDepth 20000 in
theorem ggX7_init_X5_init : GoodIn wsX7_init wsX5_init := goodIn_r _ [54, 55, 2, 3, 32, 56, 57, 58, 59, 118, 119, 120, 121] (by decide +kernel) (by decide +kernel)
set_option maxRecDepth 20000 in
theorem gX7_init_X5_init_n25 : GoodIn wsX7_init (wsX5_init) := ggX7_init_X5_init
set_option maxRecDepth 20000 in
theorem ggX7_init_X0_init : GoodIn wsX7_init wsX0_init := goodIn_r _ [61, 62, 2, 3, 63, 64, 65, 122, 123] (by decide +kernel) (by decide +kernel)
set_option maxRecDepth 20000 in
theorem gX7_init_X0_init_n32 : GoodIn wsX7_init (wsX0_init) := ggX7_init_X0_init
set_option maxRecDepth 20000 in
theorem ggX7_init_X4_init : GoodIn wsX7_init wsX4_init := goodIn_r _ [67, 68, 2, 3, 63, 69, 70, 71, 72, 124, 125, 126, 127] (by decide +kernel) (by decide +kernel)
set_option maxRecDepth 20000 in
theorem gX7_init_X4_init_n39 : GoodIn wsX7_init (wsX4_init) := ggX7_init_X4_init
set_option maxRecDepth 20000 in
theorem ggX7_init_X2_init : GoodIn wsX7_init wsX2_init := goodIn_r _ [74, 75, 2, 3, 32, 76, 77, 78, 79, 80, 81, 82, 83, 84, 128, 129, 130, 131, 132, 133, 134, 135, 136] (by decide +kernel) (by decide +kernel)
set_option maxRecDepth 20000 in
theorem gX7_init_X2_init_n46 : GoodIn wsX7_init (wsX2_init) := ggX7_init_X2_init
set_option maxRecDepth 20000 in
theorem ggX7_init_X3_init : GoodIn wsX7_init wsX3_init := goodIn_r _ [86, 87, 2, 3, 32, 88, 89, 90, 91, 92, 93, 94, 95, 96, 137, 138, 139, 140, 141, 142, 143, 144, 145] (by decide +kernel) (by decide +kernel)
set_option maxRecDepth 20000 in
theorem gX7_init_X3_init_n53 : GoodIn wsX7_init (wsX3_init) := ggX7_init_X3_init
theorem dX7_init_0 : decode cX7_init 0 = .ok (.aload_n 0, 1) := by decide +kernel
theorem dX7_init_1 : decode cX7_init 1 = .ok (.invokespecial 3, 3) := by decide +kernel
theorem dX7_init_4 : decode cX7_init 4 = .ok (.aload_n 0, 1) := by decide +kernel
theorem dX7_init_5 : decode cX7_init 5 = .ok (.iconst 4, 1) := by decide +kernel
theorem dX7_init_6 : decode cX7_init 6 = .ok (.anewarray 9, 3) := by decide +kernel
theorem dX7_init_9 : decode cX7_init 9 = .ok (.putfield 11, 3) := by decide +kernel
theorem dX7_init_12 : decode cX7_init 12 = .ok (.iconst 0, 1) := by decide +kernel
theorem dX7_init_13 : decode cX7_init 13 = .ok (.istore_n 1, 1) := by decide +kernel
theorem dX7_init_14 : decode cX7_init 14 = .ok (.iload_n 1, 1) := by decide +kernel
theorem dX7_init_15 : decode cX7_init 15 = .ok (.iconst 4, 1) := by decide +kernel
