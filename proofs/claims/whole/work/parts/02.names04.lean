set_option maxRecDepth 20000 in
theorem gX7_parts_X3_partedBy : GoodIn wsX7_parts (wsV RX7 230 RX3 yX3_partedBy wsX3_partedBy) := goodIn_app (goodIn_of _ (by decide +kernel)) ggX7_parts_X3_partedBy
theorem dX7_parts_0 : decode cX7_parts 0 = .ok (.iload_n 1, 1) := by decide +kernel
theorem dX7_parts_1 : decode cX7_parts 1 = .ok (.iconst 0, 1) := by decide +kernel
theorem dX7_parts_2 : decode cX7_parts 2 = .ok (.bipush 15, 2) := by decide +kernel
theorem dX7_parts_4 : decode cX7_parts 4 = .ok (.invokestatic 69, 3) := by decide +kernel
theorem dX7_parts_7 : decode cX7_parts 7 = .ok (.ifCond .ne 9, 3) := by decide +kernel
theorem dX7_parts_10 : decode cX7_parts 10 = .ok (.aload_n 0, 1) := by decide +kernel
theorem dX7_parts_11 : decode cX7_parts 11 = .ok (.iconst 1, 1) := by decide +kernel
theorem dX7_parts_12 : decode cX7_parts 12 = .ok (.invokevirtual 80, 3) := by decide +kernel
theorem dX7_parts_15 : decode cX7_parts 15 = .ok (.lreturn, 1) := by decide +kernel
theorem dX7_parts_16 : decode cX7_parts 16 = .ok (.aload_n 0, 1) := by decide +kernel
theorem dX7_parts_17 : decode cX7_parts 17 = .ok (.iload_n 1, 1) := by decide +kernel
theorem dX7_parts_18 : decode cX7_parts 18 = .ok (.invokevirtual 227, 3) := by decide +kernel
theorem dX7_parts_21 : decode cX7_parts 21 = .ok (.ifCond .eq 9, 3) := by decide +kernel
theorem dX7_parts_24 : decode cX7_parts 24 = .ok (.aload_n 0, 1) := by decide +kernel
theorem dX7_parts_25 : decode cX7_parts 25 = .ok (.iconst 5, 1) := by decide +kernel
theorem dX7_parts_26 : decode cX7_parts 26 = .ok (.invokevirtual 80, 3) := by decide +kernel
theorem dX7_parts_29 : decode cX7_parts 29 = .ok (.lreturn, 1) := by decide +kernel
theorem dX7_parts_30 : decode cX7_parts 30 = .ok (.aload_n 0, 1) := by decide +kernel
theorem dX7_parts_31 : decode cX7_parts 31 = .ok (.getfield 54, 3) := by decide +kernel
theorem dX7_parts_34 : decode cX7_parts 34 = .ok (.aload_n 0, 1) := by decide +kernel
theorem dX7_parts_35 : decode cX7_parts 35 = .ok (.getfield 47, 3) := by decide +kernel
theorem dX7_parts_38 : decode cX7_parts 38 = .ok (.aload_n 0, 1) := by decide +kernel
theorem dX7_parts_39 : decode cX7_parts 39 = .ok (.getfield 19, 3) := by decide +kernel
theorem dX7_parts_42 : decode cX7_parts 42 = .ok (.invokevirtual 208, 3) := by decide +kernel
theorem dX7_parts_45 : decode cX7_parts 45 = .ok (.aload_n 0, 1) := by decide +kernel
theorem dX7_parts_46 : decode cX7_parts 46 = .ok (.getfield 54, 3) := by decide +kernel
theorem dX7_parts_49 : decode cX7_parts 49 = .ok (.invokevirtual 212, 3) := by decide +kernel
theorem dX7_parts_52 : decode cX7_parts 52 = .ok (.ifCond .ne 11, 3) := by decide +kernel
theorem dX7_parts_55 : decode cX7_parts 55 = .ok (.aload_n 0, 1) := by decide +kernel
theorem dX7_parts_56 : decode cX7_parts 56 = .ok (.iconst 2, 1) := by decide +kernel
theorem dX7_parts_57 : decode cX7_parts 57 = .ok (.invokevirtual 80, 3) := by decide +kernel
theorem dX7_parts_60 : decode cX7_parts 60 = .ok (.goto 12, 3) := by decide +kernel
theorem dX7_parts_63 : decode cX7_parts 63 = .ok (.aload_n 0, 1) := by decide +kernel
theorem dX7_parts_64 : decode cX7_parts 64 = .ok (.getfield 54, 3) := by decide +kernel
theorem dX7_parts_67 : decode cX7_parts 67 = .ok (.iload_n 1, 1) := by decide +kernel
theorem dX7_parts_68 : decode cX7_parts 68 = .ok (.invokevirtual 230, 3) := by decide +kernel
theorem dX7_parts_71 : decode cX7_parts 71 = .ok (.i2l, 1) := by decide +kernel
theorem dX7_parts_72 : decode cX7_parts 72 = .ok (.lreturn, 1) := by decide +kernel
set_option maxRecDepth 20000 in
theorem ggX7_ask_X3_update : GoodIn wsX7_ask wsX3_update := goodIn_r _ [8, 9, 10, 11, 12, 7, 13, 14, 15, 16, 17, 18, 19, 20, 21, 22, 23, 24, 25, 26, 27, 28, 29, 30, 31, 32, 33, 34, 35, 36, 37, 38, 39, 40, 41, 42, 43, 44, 45, 46, 47, 48, 49, 50, 51, 52, 53, 54, 55, 56, 57, 58, 59, 60, 61, 62, 63, 64, 65, 66, 67, 68, 69, 70, 71, 72, 73, 74, 75, 76, 77, 78, 79, 80, 81, 82, 83, 84, 85, 86, 87, 88, 89, 90, 91, 92, 93, 94, 95, 96, 97, 98, 99, 100, 101, 102, 103, 141, 142, 143, 144, 145, 146, 147, 148, 149, 150, 151, 152, 153, 154, 155, 156, 157, 158, 159, 160, 161, 162, 163, 164, 165] (by decide +kernel) (by decide +kernel)
set_option maxRecDepth 20000 in
theorem gX7_ask_X3_update : GoodIn wsX7_ask (wsV RX7 208 RX3 yX3_update wsX3_update) := goodIn_app (goodIn_of _ (by decide +kernel)) ggX7_ask_X3_update
set_option maxRecDepth 20000 in
theorem ggX7_ask_X3_size : GoodIn wsX7_ask wsX3_size := goodIn_r _ [107, 14, 141, 142, 143, 144, 145, 146, 147, 148, 149] (by decide +kernel) (by decide +kernel)
set_option maxRecDepth 20000 in
theorem gX7_ask_X3_size : GoodIn wsX7_ask (wsV RX7 212 RX3 yX3_size wsX3_size) := goodIn_app (goodIn_of _ (by decide +kernel)) ggX7_ask_X3_size
set_option maxRecDepth 20000 in
theorem ggX7_ask_X7_finding : GoodIn wsX7_ask wsX7_finding := goodIn_r _ [112, 113, 114, 115, 116, 111, 117, 131, 132, 133, 134, 135, 136, 137, 138, 139, 140] (by decide +kernel) (by decide +kernel)
set_option maxRecDepth 20000 in
theorem gX7_ask_X7_finding : GoodIn wsX7_ask (wsV RX7 80 RX7 yX7_finding wsX7_finding) := goodIn_app (goodIn_of _ (by decide +kernel)) ggX7_ask_X7_finding
set_option maxRecDepth 20000 in
theorem ggX7_ask_X7_isThere : GoodIn wsX7_ask wsX7_isThere := goodIn_r _ [121, 3, 122, 42, 43, 44, 45, 46, 131, 132, 133, 134, 135, 136, 137, 138, 139, 140, 159, 160, 161, 162, 163, 164, 165] (by decide +kernel) (by decide +kernel)
set_option maxRecDepth 20000 in
theorem gX7_ask_X7_isThere : GoodIn wsX7_ask (wsV RX7 227 RX7 yX7_isThere wsX7_isThere) := goodIn_app (goodIn_of _ (by decide +kernel)) ggX7_ask_X7_isThere
set_option maxRecDepth 20000 in
theorem ggX7_ask_X3_partedBy : GoodIn wsX7_ask wsX3_partedBy := goodIn_r _ [126, 99, 14, 127, 128, 129, 130, 116, 111, 117, 141, 142, 143, 144, 145, 146, 147, 148, 149] (by decide +kernel) (by decide +kernel)
set_option maxRecDepth 20000 in
theorem gX7_ask_X3_partedBy : GoodIn wsX7_ask (wsV RX7 230 RX3 yX3_partedBy wsX3_partedBy) := goodIn_app (goodIn_of _ (by decide +kernel)) ggX7_ask_X3_partedBy
theorem dX7_ask_0 : decode cX7_ask 0 = .ok (.aload_n 0, 1) := by decide +kernel
theorem dX7_ask_1 : decode cX7_ask 1 = .ok (.getfield 54, 3) := by decide +kernel
theorem dX7_ask_4 : decode cX7_ask 4 = .ok (.aload_n 0, 1) := by decide +kernel
theorem dX7_ask_5 : decode cX7_ask 5 = .ok (.getfield 47, 3) := by decide +kernel
theorem dX7_ask_8 : decode cX7_ask 8 = .ok (.aload_n 0, 1) := by decide +kernel
theorem dX7_ask_9 : decode cX7_ask 9 = .ok (.getfield 19, 3) := by decide +kernel
theorem dX7_ask_12 : decode cX7_ask 12 = .ok (.invokevirtual 208, 3) := by decide +kernel
theorem dX7_ask_15 : decode cX7_ask 15 = .ok (.aload_n 0, 1) := by decide +kernel
theorem dX7_ask_16 : decode cX7_ask 16 = .ok (.getfield 54, 3) := by decide +kernel
theorem dX7_ask_19 : decode cX7_ask 19 = .ok (.invokevirtual 212, 3) := by decide +kernel
theorem dX7_ask_22 : decode cX7_ask 22 = .ok (.ifCond .ne 9, 3) := by decide +kernel
theorem dX7_ask_25 : decode cX7_ask 25 = .ok (.aload_n 0, 1) := by decide +kernel
theorem dX7_ask_26 : decode cX7_ask 26 = .ok (.iconst 2, 1) := by decide +kernel
theorem dX7_ask_27 : decode cX7_ask 27 = .ok (.invokevirtual 80, 3) := by decide +kernel
theorem dX7_ask_30 : decode cX7_ask 30 = .ok (.lreturn, 1) := by decide +kernel
theorem dX7_ask_31 : decode cX7_ask 31 = .ok (.iconst (-1), 1) := by decide +kernel
theorem dX7_ask_32 : decode cX7_ask 32 = .ok (.istore_n 1, 1) := by decide +kernel
theorem dX7_ask_33 : decode cX7_ask 33 = .ok (.iconst (-1), 1) := by decide +kernel
theorem dX7_ask_34 : decode cX7_ask 34 = .ok (.istore_n 2, 1) := by decide +kernel
theorem dX7_ask_35 : decode cX7_ask 35 = .ok (.iconst 0, 1) := by decide +kernel
theorem dX7_ask_36 : decode cX7_ask 36 = .ok (.istore_n 3, 1) := by decide +kernel
theorem dX7_ask_37 : decode cX7_ask 37 = .ok (.iload_n 3, 1) := by decide +kernel
theorem dX7_ask_38 : decode cX7_ask 38 = .ok (.bipush 16, 2) := by decide +kernel
theorem dX7_ask_40 : decode cX7_ask 40 = .ok (.if_icmp .ge 40, 3) := by decide +kernel
theorem dX7_ask_43 : decode cX7_ask 43 = .ok (.aload_n 0, 1) := by decide +kernel
theorem dX7_ask_44 : decode cX7_ask 44 = .ok (.iload_n 3, 1) := by decide +kernel
theorem dX7_ask_45 : decode cX7_ask 45 = .ok (.invokevirtual 227, 3) := by decide +kernel
theorem dX7_ask_48 : decode cX7_ask 48 = .ok (.ifCond .ne 26, 3) := by decide +kernel
theorem dX7_ask_51 : decode cX7_ask 51 = .ok (.aload_n 0, 1) := by decide +kernel
theorem dX7_ask_52 : decode cX7_ask 52 = .ok (.getfield 54, 3) := by decide +kernel
theorem dX7_ask_55 : decode cX7_ask 55 = .ok (.iload_n 3, 1) := by decide +kernel
theorem dX7_ask_56 : decode cX7_ask 56 = .ok (.invokevirtual 230, 3) := by decide +kernel
theorem dX7_ask_59 : decode cX7_ask 59 = .ok (.iload_n 2, 1) := by decide +kernel
theorem dX7_ask_60 : decode cX7_ask 60 = .ok (.if_icmp .le 14, 3) := by decide +kernel
theorem dX7_ask_63 : decode cX7_ask 63 = .ok (.iload_n 3, 1) := by decide +kernel
theorem dX7_ask_64 : decode cX7_ask 64 = .ok (.istore_n 1, 1) := by decide +kernel
theorem dX7_ask_65 : decode cX7_ask 65 = .ok (.aload_n 0, 1) := by decide +kernel
theorem dX7_ask_66 : decode cX7_ask 66 = .ok (.getfield 54, 3) := by decide +kernel
theorem dX7_ask_69 : decode cX7_ask 69 = .ok (.iload_n 3, 1) := by decide +kernel
theorem dX7_ask_70 : decode cX7_ask 70 = .ok (.invokevirtual 230, 3) := by decide +kernel
theorem dX7_ask_73 : decode cX7_ask 73 = .ok (.istore_n 2, 1) := by decide +kernel
theorem dX7_ask_74 : decode cX7_ask 74 = .ok (.iinc 3 1, 3) := by decide +kernel
theorem dX7_ask_77 : decode cX7_ask 77 = .ok (.goto (-40), 3) := by decide +kernel
theorem dX7_ask_80 : decode cX7_ask 80 = .ok (.iload_n 1, 1) := by decide +kernel
theorem dX7_ask_81 : decode cX7_ask 81 = .ok (.iconst (-1), 1) := by decide +kernel
theorem dX7_ask_82 : decode cX7_ask 82 = .ok (.if_icmp .ne 11, 3) := by decide +kernel
theorem dX7_ask_85 : decode cX7_ask 85 = .ok (.aload_n 0, 1) := by decide +kernel
theorem dX7_ask_86 : decode cX7_ask 86 = .ok (.iconst 2, 1) := by decide +kernel
theorem dX7_ask_87 : decode cX7_ask 87 = .ok (.invokevirtual 80, 3) := by decide +kernel
theorem dX7_ask_90 : decode cX7_ask 90 = .ok (.goto 5, 3) := by decide +kernel
theorem dX7_ask_93 : decode cX7_ask 93 = .ok (.iload_n 1, 1) := by decide +kernel
theorem dX7_ask_94 : decode cX7_ask 94 = .ok (.i2l, 1) := by decide +kernel
theorem dX7_ask_95 : decode cX7_ask 95 = .ok (.lreturn, 1) := by decide +kernel
set_option maxRecDepth 20000 in
theorem ggX7_tell_X7_finding : GoodIn wsX7_tell wsX7_finding := goodIn_r _ [7, 8, 9, 10, 11, 6, 12, 13, 14, 15, 16, 17, 18, 19, 20, 21, 22] (by decide +kernel) (by decide +kernel)
set_option maxRecDepth 20000 in
theorem gX7_tell_X7_finding : GoodIn wsX7_tell (wsV RX7 80 RX7 yX7_finding wsX7_finding) := goodIn_app (goodIn_of _ (by decide +kernel)) ggX7_tell_X7_finding
theorem dX7_tell_0 : decode cX7_tell 0 = .ok (.aload_n 0, 1) := by decide +kernel
theorem dX7_tell_1 : decode cX7_tell 1 = .ok (.getfield 62, 3) := by decide +kernel
theorem dX7_tell_4 : decode cX7_tell 4 = .ok (.bipush 30, 2) := by decide +kernel
theorem dX7_tell_6 : decode cX7_tell 6 = .ok (.if_icmp .lt 9, 3) := by decide +kernel
theorem dX7_tell_9 : decode cX7_tell 9 = .ok (.aload_n 0, 1) := by decide +kernel
theorem dX7_tell_10 : decode cX7_tell 10 = .ok (.iconst 4, 1) := by decide +kernel
theorem dX7_tell_11 : decode cX7_tell 11 = .ok (.invokevirtual 80, 3) := by decide +kernel
theorem dX7_tell_14 : decode cX7_tell 14 = .ok (.lreturn, 1) := by decide +kernel
theorem dX7_tell_15 : decode cX7_tell 15 = .ok (.aload_n 0, 1) := by decide +kernel
theorem dX7_tell_16 : decode cX7_tell 16 = .ok (.getfield 58, 3) := by decide +kernel
theorem dX7_tell_19 : decode cX7_tell 19 = .ok (.aload_n 0, 1) := by decide +kernel
theorem dX7_tell_20 : decode cX7_tell 20 = .ok (.getfield 62, 3) := by decide +kernel
theorem dX7_tell_23 : decode cX7_tell 23 = .ok (.iload_n 1, 1) := by decide +kernel
theorem dX7_tell_24 : decode cX7_tell 24 = .ok (.iastore, 1) := by decide +kernel
theorem dX7_tell_25 : decode cX7_tell 25 = .ok (.aload_n 0, 1) := by decide +kernel
theorem dX7_tell_26 : decode cX7_tell 26 = .ok (.dup, 1) := by decide +kernel
theorem dX7_tell_27 : decode cX7_tell 27 = .ok (.getfield 62, 3) := by decide +kernel
theorem dX7_tell_30 : decode cX7_tell 30 = .ok (.iconst 1, 1) := by decide +kernel
theorem dX7_tell_31 : decode cX7_tell 31 = .ok (.iadd, 1) := by decide +kernel
theorem dX7_tell_32 : decode cX7_tell 32 = .ok (.putfield 62, 3) := by decide +kernel
theorem dX7_tell_35 : decode cX7_tell 35 = .ok (.aload_n 0, 1) := by decide +kernel
theorem dX7_tell_36 : decode cX7_tell 36 = .ok (.getfield 62, 3) := by decide +kernel
theorem dX7_tell_39 : decode cX7_tell 39 = .ok (.i2l, 1) := by decide +kernel
theorem dX7_tell_40 : decode cX7_tell 40 = .ok (.lreturn, 1) := by decide +kernel
set_option maxRecDepth 20000 in
theorem ggX7_check_X7_settleTimes : GoodIn wsX7_check wsX7_settleTimes := goodIn_r _ [8, 9, 10, 11, 12, 7, 13, 2, 14, 15, 16, 17, 18, 19, 20, 21, 22, 23, 24, 25, 26, 27, 28, 29, 30, 31, 32, 33, 34, 35, 36, 37, 38, 39, 40, 41, 42, 43, 44, 45, 46, 47, 48, 49, 50, 51, 52, 53, 54, 55, 56, 57, 58, 59, 60, 61, 62, 63, 64, 65, 66, 67, 68, 69, 70, 71, 72, 73, 74, 75, 76, 77, 78, 79, 80, 81, 82, 83, 84, 85, 86, 87, 88, 89, 90, 91, 92, 93, 94, 95, 96, 97, 98, 99, 100, 101, 102, 103, 104, 105, 106, 107, 108, 109, 110, 111, 112, 113, 114, 115, 116, 117, 118, 119, 120, 121, 145, 146, 147, 148, 149, 150, 151, 152, 153, 154, 155, 156, 157, 158, 159, 160, 161, 162, 163, 164, 165, 166, 167, 168, 169, 170, 171] (by decide +kernel) (by decide +kernel)
set_option maxRecDepth 20000 in
theorem gX7_check_X7_settleTimes : GoodIn wsX7_check (wsV RX7 157 RX7 yX7_settleTimes wsX7_settleTimes) := goodIn_app (goodIn_of _ (by decide +kernel)) ggX7_check_X7_settleTimes
set_option maxRecDepth 20000 in
theorem ggX7_check_X7_finding : GoodIn wsX7_check wsX7_finding := goodIn_r _ [125, 126, 127, 128, 56, 7, 57, 145, 146, 147, 148, 149, 150, 151, 152, 153, 154] (by decide +kernel) (by decide +kernel)
set_option maxRecDepth 20000 in
theorem gX7_check_X7_finding : GoodIn wsX7_check (wsV RX7 80 RX7 yX7_finding wsX7_finding) := goodIn_app (goodIn_of _ (by decide +kernel)) ggX7_check_X7_finding
set_option maxRecDepth 20000 in
theorem ggX7_check_X6_size : GoodIn wsX7_check wsX6_size := goodIn_r _ [19, 20, 155, 156, 157, 158, 159, 160, 161] (by decide +kernel) (by decide +kernel)
set_option maxRecDepth 20000 in
theorem gX7_check_X6_size : GoodIn wsX7_check (wsV RX7 114 RX6 yX6_size wsX6_size) := goodIn_app (goodIn_of _ (by decide +kernel)) ggX7_check_X6_size
set_option maxRecDepth 20000 in
theorem ggX7_check_X7_isToldRight : GoodIn wsX7_check wsX7_isToldRight := goodIn_r _ [132, 133, 134, 135, 136, 7, 137, 9, 138, 139, 140, 24, 141, 34, 35, 85, 86, 87, 88, 33, 56, 57, 142, 143, 144, 46, 45, 145, 146, 147, 148, 149, 150, 151, 152, 153, 154, 162, 163] (by decide +kernel) (by decide +kernel)
set_option maxRecDepth 20000 in
theorem gX7_check_X7_isToldRight : GoodIn wsX7_check (wsV RX7 233 RX7 yX7_isToldRight wsX7_isToldRight) := goodIn_app (goodIn_of _ (by decide +kernel)) ggX7_check_X7_isToldRight
theorem dX7_check_0 : decode cX7_check 0 = .ok (.aload_n 0, 1) := by decide +kernel
theorem dX7_check_1 : decode cX7_check 1 = .ok (.getfield 62, 3) := by decide +kernel
theorem dX7_check_4 : decode cX7_check 4 = .ok (.istore_n 1, 1) := by decide +kernel
theorem dX7_check_5 : decode cX7_check 5 = .ok (.aload_n 0, 1) := by decide +kernel
theorem dX7_check_6 : decode cX7_check 6 = .ok (.iconst 0, 1) := by decide +kernel
theorem dX7_check_7 : decode cX7_check 7 = .ok (.putfield 62, 3) := by decide +kernel
theorem dX7_check_10 : decode cX7_check 10 = .ok (.aload_n 0, 1) := by decide +kernel
theorem dX7_check_11 : decode cX7_check 11 = .ok (.iconst (-1), 1) := by decide +kernel
theorem dX7_check_12 : decode cX7_check 12 = .ok (.invokevirtual 157, 3) := by decide +kernel
theorem dX7_check_15 : decode cX7_check 15 = .ok (.ifCond .ne 9, 3) := by decide +kernel
theorem dX7_check_18 : decode cX7_check 18 = .ok (.aload_n 0, 1) := by decide +kernel
theorem dX7_check_19 : decode cX7_check 19 = .ok (.iconst 5, 1) := by decide +kernel
theorem dX7_check_20 : decode cX7_check 20 = .ok (.invokevirtual 80, 3) := by decide +kernel
theorem dX7_check_23 : decode cX7_check 23 = .ok (.lreturn, 1) := by decide +kernel
theorem dX7_check_24 : decode cX7_check 24 = .ok (.iconst 0, 1) := by decide +kernel
theorem dX7_check_25 : decode cX7_check 25 = .ok (.istore_n 2, 1) := by decide +kernel
theorem dX7_check_26 : decode cX7_check 26 = .ok (.iload_n 2, 1) := by decide +kernel
theorem dX7_check_27 : decode cX7_check 27 = .ok (.aload_n 0, 1) := by decide +kernel
theorem dX7_check_28 : decode cX7_check 28 = .ok (.getfield 19, 3) := by decide +kernel
theorem dX7_check_31 : decode cX7_check 31 = .ok (.invokevirtual 114, 3) := by decide +kernel
theorem dX7_check_34 : decode cX7_check 34 = .ok (.if_icmp .ge 23, 3) := by decide +kernel
theorem dX7_check_37 : decode cX7_check 37 = .ok (.aload_n 0, 1) := by decide +kernel
theorem dX7_check_38 : decode cX7_check 38 = .ok (.iload_n 2, 1) := by decide +kernel
theorem dX7_check_39 : decode cX7_check 39 = .ok (.iload_n 1, 1) := by decide +kernel
theorem dX7_check_40 : decode cX7_check 40 = .ok (.invokevirtual 233, 3) := by decide +kernel
theorem dX7_check_43 : decode cX7_check 43 = .ok (.ifCond .ne 8, 3) := by decide +kernel
theorem dX7_check_46 : decode cX7_check 46 = .ok (.iconst 1, 1) := by decide +kernel
theorem dX7_check_47 : decode cX7_check 47 = .ok (.iload_n 2, 1) := by decide +kernel
theorem dX7_check_48 : decode cX7_check 48 = .ok (.iadd, 1) := by decide +kernel
theorem dX7_check_49 : decode cX7_check 49 = .ok (.i2l, 1) := by decide +kernel
theorem dX7_check_50 : decode cX7_check 50 = .ok (.lreturn, 1) := by decide +kernel
theorem dX7_check_51 : decode cX7_check 51 = .ok (.iinc 2 1, 3) := by decide +kernel
theorem dX7_check_54 : decode cX7_check 54 = .ok (.goto (-28), 3) := by decide +kernel
theorem dX7_check_57 : decode cX7_check 57 = .ok (.iload_n 1, 1) := by decide +kernel
theorem dX7_check_58 : decode cX7_check 58 = .ok (.iconst 2, 1) := by decide +kernel
theorem dX7_check_59 : decode cX7_check 59 = .ok (.aload_n 0, 1) := by decide +kernel
theorem dX7_check_60 : decode cX7_check 60 = .ok (.getfield 19, 3) := by decide +kernel
theorem dX7_check_63 : decode cX7_check 63 = .ok (.invokevirtual 114, 3) := by decide +kernel
theorem dX7_check_66 : decode cX7_check 66 = .ok (.imul, 1) := by decide +kernel
theorem dX7_check_67 : decode cX7_check 67 = .ok (.if_icmp .le 9, 3) := by decide +kernel
theorem dX7_check_70 : decode cX7_check 70 = .ok (.ldc2_w 236, 3) := by decide +kernel
theorem dX7_check_73 : decode cX7_check 73 = .ok (.goto 4, 3) := by decide +kernel
theorem dX7_check_76 : decode cX7_check 76 = .ok (.lconst 0, 1) := by decide +kernel
theorem dX7_check_77 : decode cX7_check 77 = .ok (.lreturn, 1) := by decide +kernel
set_option maxRecDepth 20000 in
theorem ggX7_count_X6_size : GoodIn wsX7_count wsX6_size := goodIn_r _ [9, 10, 56, 57, 58, 59, 60, 61, 62] (by decide +kernel) (by decide +kernel)
set_option maxRecDepth 20000 in
theorem gX7_count_X6_size : GoodIn wsX7_count (wsV RX7 114 RX6 yX6_size wsX6_size) := goodIn_app (goodIn_of _ (by decide +kernel)) ggX7_count_X6_size
set_option maxRecDepth 20000 in
theorem ggX7_count_X5_size : GoodIn wsX7_count wsX5_size := goodIn_r _ [15, 16, 63, 64, 65, 66] (by decide +kernel) (by decide +kernel)
set_option maxRecDepth 20000 in
theorem gX7_count_X5_size : GoodIn wsX7_count (wsV RX7 153 RX5 yX5_size wsX5_size) := goodIn_app (goodIn_of _ (by decide +kernel)) ggX7_count_X5_size
set_option maxRecDepth 20000 in
theorem ggX7_count_X2_knownSize : GoodIn wsX7_count wsX2_knownSize := goodIn_r _ [21, 22, 23, 24, 25, 26, 27, 28, 29, 67, 68, 69, 70, 71, 72, 73, 74, 75] (by decide +kernel) (by decide +kernel)
set_option maxRecDepth 20000 in
theorem gX7_count_X2_knownSize : GoodIn wsX7_count (wsV RX7 238 RX2 yX2_knownSize wsX2_knownSize) := goodIn_app (goodIn_of _ (by decide +kernel)) ggX7_count_X2_knownSize
set_option maxRecDepth 20000 in
theorem ggX7_count_X6_marksThere : GoodIn wsX7_count wsX6_marksThere := goodIn_r _ [33, 34, 56, 57, 58, 59, 60, 61, 62] (by decide +kernel) (by decide +kernel)
set_option maxRecDepth 20000 in
theorem gX7_count_X6_marksThere : GoodIn wsX7_count (wsV RX7 241 RX6 yX6_marksThere wsX6_marksThere) := goodIn_app (goodIn_of _ (by decide +kernel)) ggX7_count_X6_marksThere
set_option maxRecDepth 20000 in
theorem ggX7_count_J6_bitCount_0f7a4 : GoodIn wsX7_count wsJ6_bitCount_0f7a4 := goodIn_r _ [26, 27, 28, 29] (by decide +kernel) (by decide +kernel)
set_option maxRecDepth 20000 in
theorem gX7_count_J6_bitCount_0f7a4 : GoodIn wsX7_count (va_wsS RX7 244 yJ6_bitCount_0f7a4 wsJ6_bitCount_0f7a4) := goodIn_app (goodIn_of _ (by decide +kernel)) ggX7_count_J6_bitCount_0f7a4
set_option maxRecDepth 20000 in
theorem ggX7_count_X7_finding : GoodIn wsX7_count wsX7_finding := goodIn_r _ [40, 41, 42, 43, 44, 39, 45, 46, 47, 48, 49, 50, 51, 52, 53, 54, 55] (by decide +kernel) (by decide +kernel)
set_option maxRecDepth 20000 in
theorem gX7_count_X7_finding : GoodIn wsX7_count (wsV RX7 80 RX7 yX7_finding wsX7_finding) := goodIn_app (goodIn_of _ (by decide +kernel)) ggX7_count_X7_finding
theorem dX7_count_0 : decode cX7_count 0 = .ok (.iload_n 1, 1) := by decide +kernel
theorem dX7_count_1 : decode cX7_count 1 = .ok (.tableswitch 80 0 4 #[35, 44, 53, 62, 68], 35) := by decide +kernel
theorem dX7_count_36 : decode cX7_count 36 = .ok (.aload_n 0, 1) := by decide +kernel
theorem dX7_count_37 : decode cX7_count 37 = .ok (.getfield 19, 3) := by decide +kernel
theorem dX7_count_40 : decode cX7_count 40 = .ok (.invokevirtual 114, 3) := by decide +kernel
theorem dX7_count_43 : decode cX7_count 43 = .ok (.i2l, 1) := by decide +kernel
theorem dX7_count_44 : decode cX7_count 44 = .ok (.lreturn, 1) := by decide +kernel
theorem dX7_count_45 : decode cX7_count 45 = .ok (.aload_n 0, 1) := by decide +kernel
theorem dX7_count_46 : decode cX7_count 46 = .ok (.getfield 26, 3) := by decide +kernel
theorem dX7_count_49 : decode cX7_count 49 = .ok (.invokevirtual 153, 3) := by decide +kernel
theorem dX7_count_52 : decode cX7_count 52 = .ok (.i2l, 1) := by decide +kernel
theorem dX7_count_53 : decode cX7_count 53 = .ok (.lreturn, 1) := by decide +kernel
theorem dX7_count_54 : decode cX7_count 54 = .ok (.aload_n 0, 1) := by decide +kernel
theorem dX7_count_55 : decode cX7_count 55 = .ok (.getfield 47, 3) := by decide +kernel
theorem dX7_count_58 : decode cX7_count 58 = .ok (.invokevirtual 238, 3) := by decide +kernel
theorem dX7_count_61 : decode cX7_count 61 = .ok (.i2l, 1) := by decide +kernel
theorem dX7_count_62 : decode cX7_count 62 = .ok (.lreturn, 1) := by decide +kernel
theorem dX7_count_63 : decode cX7_count 63 = .ok (.aload_n 0, 1) := by decide +kernel
theorem dX7_count_64 : decode cX7_count 64 = .ok (.getfield 62, 3) := by decide +kernel
theorem dX7_count_67 : decode cX7_count 67 = .ok (.i2l, 1) := by decide +kernel
theorem dX7_count_68 : decode cX7_count 68 = .ok (.lreturn, 1) := by decide +kernel
theorem dX7_count_69 : decode cX7_count 69 = .ok (.aload_n 0, 1) := by decide +kernel
theorem dX7_count_70 : decode cX7_count 70 = .ok (.getfield 19, 3) := by decide +kernel
theorem dX7_count_73 : decode cX7_count 73 = .ok (.invokevirtual 241, 3) := by decide +kernel
theorem dX7_count_76 : decode cX7_count 76 = .ok (.invokestatic 244, 3) := by decide +kernel
theorem dX7_count_79 : decode cX7_count 79 = .ok (.i2l, 1) := by decide +kernel
theorem dX7_count_80 : decode cX7_count 80 = .ok (.lreturn, 1) := by decide +kernel
theorem dX7_count_81 : decode cX7_count 81 = .ok (.aload_n 0, 1) := by decide +kernel
theorem dX7_count_82 : decode cX7_count 82 = .ok (.iconst 1, 1) := by decide +kernel
theorem dX7_count_83 : decode cX7_count 83 = .ok (.invokevirtual 80, 3) := by decide +kernel
theorem dX7_count_86 : decode cX7_count 86 = .ok (.lreturn, 1) := by decide +kernel
set_option maxRecDepth 20000 in
theorem ggX7_found_X7_isWithin : GoodIn wsX7_found wsX7_isWithin := goodIn_r _ [5] (by decide +kernel) (by decide +kernel)
set_option maxRecDepth 20000 in
theorem gX7_found_X7_isWithin : GoodIn wsX7_found (va_wsS RX7 69 yX7_isWithin wsX7_isWithin) := goodIn_app (goodIn_of _ (by decide +kernel)) ggX7_found_X7_isWithin
set_option maxRecDepth 20000 in
theorem ggX7_found_X7_finding : GoodIn wsX7_found wsX7_finding := goodIn_r _ [9, 1, 10, 2, 3, 4, 5, 11, 12, 13, 14, 15, 16, 17, 18, 19, 20] (by decide +kernel) (by decide +kernel)
set_option maxRecDepth 20000 in
theorem gX7_found_X7_finding : GoodIn wsX7_found (wsV RX7 80 RX7 yX7_finding wsX7_finding) := goodIn_app (goodIn_of _ (by decide +kernel)) ggX7_found_X7_finding
theorem dX7_found_0 : decode cX7_found 0 = .ok (.iload_n 1, 1) := by decide +kernel
theorem dX7_found_1 : decode cX7_found 1 = .ok (.iconst 1, 1) := by decide +kernel
theorem dX7_found_2 : decode cX7_found 2 = .ok (.iconst 5, 1) := by decide +kernel
theorem dX7_found_3 : decode cX7_found 3 = .ok (.invokestatic 69, 3) := by decide +kernel
theorem dX7_found_6 : decode cX7_found 6 = .ok (.ifCond .ne 9, 3) := by decide +kernel
theorem dX7_found_9 : decode cX7_found 9 = .ok (.aload_n 0, 1) := by decide +kernel
theorem dX7_found_10 : decode cX7_found 10 = .ok (.iconst 1, 1) := by decide +kernel
theorem dX7_found_11 : decode cX7_found 11 = .ok (.invokevirtual 80, 3) := by decide +kernel
theorem dX7_found_14 : decode cX7_found 14 = .ok (.lreturn, 1) := by decide +kernel
theorem dX7_found_15 : decode cX7_found 15 = .ok (.aload_n 0, 1) := by decide +kernel
theorem dX7_found_16 : decode cX7_found 16 = .ok (.getfield 66, 3) := by decide +kernel
theorem dX7_found_19 : decode cX7_found 19 = .ok (.iload_n 1, 1) := by decide +kernel
theorem dX7_found_20 : decode cX7_found 20 = .ok (.iaload, 1) := by decide +kernel
theorem dX7_found_21 : decode cX7_found 21 = .ok (.i2l, 1) := by decide +kernel
theorem dX7_found_22 : decode cX7_found 22 = .ok (.lreturn, 1) := by decide +kernel
set_option maxRecDepth 20000 in
theorem ggX7_finding_X7_isWithin : GoodIn wsX7_finding wsX7_isWithin := goodIn_r _ [6] (by decide +kernel) (by decide +kernel)
set_option maxRecDepth 20000 in
theorem gX7_finding_X7_isWithin : GoodIn wsX7_finding (va_wsS RX7 69 yX7_isWithin wsX7_isWithin) := goodIn_app (goodIn_of _ (by decide +kernel)) ggX7_finding_X7_isWithin
theorem dX7_finding_0 : decode cX7_finding 0 = .ok (.iload_n 1, 1) := by decide +kernel
theorem dX7_finding_1 : decode cX7_finding 1 = .ok (.iconst 1, 1) := by decide +kernel
theorem dX7_finding_2 : decode cX7_finding 2 = .ok (.iconst 5, 1) := by decide +kernel
theorem dX7_finding_3 : decode cX7_finding 3 = .ok (.invokestatic 69, 3) := by decide +kernel
theorem dX7_finding_6 : decode cX7_finding 6 = .ok (.ifCond .eq 13, 3) := by decide +kernel
theorem dX7_finding_9 : decode cX7_finding 9 = .ok (.aload_n 0, 1) := by decide +kernel
theorem dX7_finding_10 : decode cX7_finding 10 = .ok (.getfield 66, 3) := by decide +kernel
theorem dX7_finding_13 : decode cX7_finding 13 = .ok (.iload_n 1, 1) := by decide +kernel
theorem dX7_finding_14 : decode cX7_finding 14 = .ok (.dup2, 1) := by decide +kernel
theorem dX7_finding_15 : decode cX7_finding 15 = .ok (.iaload, 1) := by decide +kernel
theorem dX7_finding_16 : decode cX7_finding 16 = .ok (.iconst 1, 1) := by decide +kernel
theorem dX7_finding_17 : decode cX7_finding 17 = .ok (.iadd, 1) := by decide +kernel
theorem dX7_finding_18 : decode cX7_finding 18 = .ok (.iastore, 1) := by decide +kernel
theorem dX7_finding_19 : decode cX7_finding 19 = .ok (.ldc2_w 249, 3) := by decide +kernel
theorem dX7_finding_22 : decode cX7_finding 22 = .ok (.iload_n 1, 1) := by decide +kernel
theorem dX7_finding_23 : decode cX7_finding 23 = .ok (.i2l, 1) := by decide +kernel
theorem dX7_finding_24 : decode cX7_finding 24 = .ok (.lsub, 1) := by decide +kernel
theorem dX7_finding_25 : decode cX7_finding 25 = .ok (.lreturn, 1) := by decide +kernel
set_option maxRecDepth 20000 in
theorem ggX7_endOrNone_X7_isEnd : GoodIn wsX7_endOrNone wsX7_isEnd := goodIn_r _ [4, 5, 6] (by decide +kernel) (by decide +kernel)
set_option maxRecDepth 20000 in
theorem gX7_endOrNone_X7_isEnd : GoodIn wsX7_endOrNone (va_wsS RX7 251 yX7_isEnd wsX7_isEnd) := goodIn_app (goodIn_of _ (by decide +kernel)) ggX7_endOrNone_X7_isEnd
set_option maxRecDepth 20000 in
theorem ggX7_endOrNone_X7_finding : GoodIn wsX7_endOrNone wsX7_finding := goodIn_r _ [10, 11, 12, 13, 14, 3, 15, 16, 17, 18, 19, 20, 21, 22, 23, 24, 25] (by decide +kernel) (by decide +kernel)
set_option maxRecDepth 20000 in
theorem gX7_endOrNone_X7_finding : GoodIn wsX7_endOrNone (wsV RX7 80 RX7 yX7_finding wsX7_finding) := goodIn_app (goodIn_of _ (by decide +kernel)) ggX7_endOrNone_X7_finding
theorem dX7_endOrNone_0 : decode cX7_endOrNone 0 = .ok (.lload_n 1, 1) := by decide +kernel
theorem dX7_endOrNone_1 : decode cX7_endOrNone 1 = .ok (.invokestatic 251, 3) := by decide +kernel
theorem dX7_endOrNone_4 : decode cX7_endOrNone 4 = .ok (.ifCond .eq 7, 3) := by decide +kernel
theorem dX7_endOrNone_7 : decode cX7_endOrNone 7 = .ok (.lload_n 1, 1) := by decide +kernel
theorem dX7_endOrNone_8 : decode cX7_endOrNone 8 = .ok (.goto 8, 3) := by decide +kernel
theorem dX7_endOrNone_11 : decode cX7_endOrNone 11 = .ok (.aload_n 0, 1) := by decide +kernel
theorem dX7_endOrNone_12 : decode cX7_endOrNone 12 = .ok (.iconst 2, 1) := by decide +kernel
theorem dX7_endOrNone_13 : decode cX7_endOrNone 13 = .ok (.invokevirtual 80, 3) := by decide +kernel
theorem dX7_endOrNone_16 : decode cX7_endOrNone 16 = .ok (.lreturn, 1) := by decide +kernel
set_option maxRecDepth 20000 in
theorem ggX7_areTwoTraces_X6_has : GoodIn wsX7_areTwoTraces wsX6_has := goodIn_r _ [6, 7, 8, 9, 10, 21, 22, 23, 24, 25, 26, 27] (by decide +kernel) (by decide +kernel)
set_option maxRecDepth 20000 in
theorem gX7_areTwoTraces_X6_has : GoodIn wsX7_areTwoTraces (wsV RX7 124 RX6 yX6_has wsX6_has) := goodIn_app (goodIn_of _ (by decide +kernel)) ggX7_areTwoTraces_X6_has
theorem dX7_areTwoTraces_0 : decode cX7_areTwoTraces 0 = .ok (.aload_n 0, 1) := by decide +kernel
theorem dX7_areTwoTraces_1 : decode cX7_areTwoTraces 1 = .ok (.getfield 19, 3) := by decide +kernel
theorem dX7_areTwoTraces_4 : decode cX7_areTwoTraces 4 = .ok (.iload_n 1, 1) := by decide +kernel
theorem dX7_areTwoTraces_5 : decode cX7_areTwoTraces 5 = .ok (.invokevirtual 124, 3) := by decide +kernel
theorem dX7_areTwoTraces_8 : decode cX7_areTwoTraces 8 = .ok (.ifCond .eq 23, 3) := by decide +kernel
theorem dX7_areTwoTraces_11 : decode cX7_areTwoTraces 11 = .ok (.aload_n 0, 1) := by decide +kernel
theorem dX7_areTwoTraces_12 : decode cX7_areTwoTraces 12 = .ok (.getfield 19, 3) := by decide +kernel
theorem dX7_areTwoTraces_15 : decode cX7_areTwoTraces 15 = .ok (.iload_n 2, 1) := by decide +kernel
theorem dX7_areTwoTraces_16 : decode cX7_areTwoTraces 16 = .ok (.invokevirtual 124, 3) := by decide +kernel
theorem dX7_areTwoTraces_19 : decode cX7_areTwoTraces 19 = .ok (.ifCond .eq 12, 3) := by decide +kernel
theorem dX7_areTwoTraces_22 : decode cX7_areTwoTraces 22 = .ok (.iload_n 1, 1) := by decide +kernel
theorem dX7_areTwoTraces_23 : decode cX7_areTwoTraces 23 = .ok (.iload_n 2, 1) := by decide +kernel
theorem dX7_areTwoTraces_24 : decode cX7_areTwoTraces 24 = .ok (.if_icmp .eq 7, 3) := by decide +kernel
theorem dX7_areTwoTraces_27 : decode cX7_areTwoTraces 27 = .ok (.iconst 1, 1) := by decide +kernel
theorem dX7_areTwoTraces_28 : decode cX7_areTwoTraces 28 = .ok (.goto 4, 3) := by decide +kernel
theorem dX7_areTwoTraces_31 : decode cX7_areTwoTraces 31 = .ok (.iconst 0, 1) := by decide +kernel
theorem dX7_areTwoTraces_32 : decode cX7_areTwoTraces 32 = .ok (.ireturn, 1) := by decide +kernel
set_option maxRecDepth 20000 in
theorem ggX7_isThere_X6_marksThere : GoodIn wsX7_isThere wsX6_marksThere := goodIn_r _ [6, 7, 18, 19, 20, 21, 22, 23, 24] (by decide +kernel) (by decide +kernel)
set_option maxRecDepth 20000 in
theorem gX7_isThere_X6_marksThere : GoodIn wsX7_isThere (wsV RX7 241 RX6 yX6_marksThere wsX6_marksThere) := goodIn_app (goodIn_of _ (by decide +kernel)) ggX7_isThere_X6_marksThere
theorem dX7_isThere_0 : decode cX7_isThere 0 = .ok (.aload_n 0, 1) := by decide +kernel
theorem dX7_isThere_1 : decode cX7_isThere 1 = .ok (.getfield 19, 3) := by decide +kernel
theorem dX7_isThere_4 : decode cX7_isThere 4 = .ok (.invokevirtual 241, 3) := by decide +kernel
theorem dX7_isThere_7 : decode cX7_isThere 7 = .ok (.iload_n 1, 1) := by decide +kernel
theorem dX7_isThere_8 : decode cX7_isThere 8 = .ok (.ishr, 1) := by decide +kernel
theorem dX7_isThere_9 : decode cX7_isThere 9 = .ok (.iconst 1, 1) := by decide +kernel
theorem dX7_isThere_10 : decode cX7_isThere 10 = .ok (.iand, 1) := by decide +kernel
theorem dX7_isThere_11 : decode cX7_isThere 11 = .ok (.ifCond .eq 7, 3) := by decide +kernel
theorem dX7_isThere_14 : decode cX7_isThere 14 = .ok (.iconst 1, 1) := by decide +kernel
theorem dX7_isThere_15 : decode cX7_isThere 15 = .ok (.goto 4, 3) := by decide +kernel
theorem dX7_isThere_18 : decode cX7_isThere 18 = .ok (.iconst 0, 1) := by decide +kernel
theorem dX7_isThere_19 : decode cX7_isThere 19 = .ok (.ireturn, 1) := by decide +kernel
set_option maxRecDepth 20000 in
theorem ggX7_spanEnd_X6_clockOf : GoodIn wsX7_spanEnd wsX6_clockOf := goodIn_r _ [9, 10, 11, 12, 13, 8, 14, 15, 16, 17, 18, 52, 53, 54, 55, 56, 57, 58] (by decide +kernel) (by decide +kernel)
set_option maxRecDepth 20000 in
theorem gX7_spanEnd_X6_clockOf : GoodIn wsX7_spanEnd (wsV RX7 130 RX6 yX6_clockOf wsX6_clockOf) := goodIn_app (goodIn_of _ (by decide +kernel)) ggX7_spanEnd_X6_clockOf
set_option maxRecDepth 20000 in
theorem ggX7_spanEnd_X6_readingOf : GoodIn wsX7_spanEnd wsX6_readingOf := goodIn_r _ [22, 23, 11, 12, 13, 8, 14, 15, 16, 17, 18, 52, 53, 54, 55, 56, 57, 58] (by decide +kernel) (by decide +kernel)
set_option maxRecDepth 20000 in
theorem gX7_spanEnd_X6_readingOf : GoodIn wsX7_spanEnd (wsV RX7 133 RX6 yX6_readingOf wsX6_readingOf) := goodIn_app (goodIn_of _ (by decide +kernel)) ggX7_spanEnd_X6_readingOf
set_option maxRecDepth 20000 in
theorem ggX7_spanEnd_X1_placeOf : GoodIn wsX7_spanEnd wsX1_placeOf := goodIn_r _ [28, 29, 30, 59, 60, 61, 62] (by decide +kernel) (by decide +kernel)
set_option maxRecDepth 20000 in
theorem gX7_spanEnd_X1_placeOf : GoodIn wsX7_spanEnd (wsV RX7 99 RX1 yX1_placeOf wsX1_placeOf) := goodIn_app (goodIn_of _ (by decide +kernel)) ggX7_spanEnd_X1_placeOf
set_option maxRecDepth 20000 in
theorem ggX7_spanEnd_X6_kindOf : GoodIn wsX7_spanEnd wsX6_kindOf := goodIn_r _ [34, 35, 11, 12, 13, 8, 14, 15, 16, 17, 18, 52, 53, 54, 55, 56, 57, 58] (by decide +kernel) (by decide +kernel)
set_option maxRecDepth 20000 in
theorem gX7_spanEnd_X6_kindOf : GoodIn wsX7_spanEnd (wsV RX7 127 RX6 yX6_kindOf wsX6_kindOf) := goodIn_app (goodIn_of _ (by decide +kernel)) ggX7_spanEnd_X6_kindOf
set_option maxRecDepth 20000 in
theorem ggX7_spanEnd_X1_shiftAt : GoodIn wsX7_spanEnd wsX1_shiftAt := goodIn_r _ [39, 29, 40, 41, 16, 17, 18, 59, 60, 61, 62] (by decide +kernel) (by decide +kernel)
set_option maxRecDepth 20000 in
theorem gX7_spanEnd_X1_shiftAt : GoodIn wsX7_spanEnd (wsV RX7 103 RX1 yX1_shiftAt wsX1_shiftAt) := goodIn_app (goodIn_of _ (by decide +kernel)) ggX7_spanEnd_X1_shiftAt
theorem dX7_spanEnd_0 : decode cX7_spanEnd 0 = .ok (.aload_n 0, 1) := by decide +kernel
theorem dX7_spanEnd_1 : decode cX7_spanEnd 1 = .ok (.getfield 11, 3) := by decide +kernel
theorem dX7_spanEnd_4 : decode cX7_spanEnd 4 = .ok (.aload_n 0, 1) := by decide +kernel
theorem dX7_spanEnd_5 : decode cX7_spanEnd 5 = .ok (.getfield 19, 3) := by decide +kernel
theorem dX7_spanEnd_8 : decode cX7_spanEnd 8 = .ok (.iload_n 1, 1) := by decide +kernel
theorem dX7_spanEnd_9 : decode cX7_spanEnd 9 = .ok (.invokevirtual 130, 3) := by decide +kernel
theorem dX7_spanEnd_12 : decode cX7_spanEnd 12 = .ok (.aaload, 1) := by decide +kernel
theorem dX7_spanEnd_13 : decode cX7_spanEnd 13 = .ok (.astore_n 3, 1) := by decide +kernel
theorem dX7_spanEnd_14 : decode cX7_spanEnd 14 = .ok (.aload_n 3, 1) := by decide +kernel
theorem dX7_spanEnd_15 : decode cX7_spanEnd 15 = .ok (.aload_n 0, 1) := by decide +kernel
theorem dX7_spanEnd_16 : decode cX7_spanEnd 16 = .ok (.getfield 19, 3) := by decide +kernel
theorem dX7_spanEnd_19 : decode cX7_spanEnd 19 = .ok (.iload_n 1, 1) := by decide +kernel
theorem dX7_spanEnd_20 : decode cX7_spanEnd 20 = .ok (.invokevirtual 133, 3) := by decide +kernel
theorem dX7_spanEnd_23 : decode cX7_spanEnd 23 = .ok (.invokevirtual 99, 3) := by decide +kernel
theorem dX7_spanEnd_26 : decode cX7_spanEnd 26 = .ok (.istore 4, 2) := by decide +kernel
theorem dX7_spanEnd_28 : decode cX7_spanEnd 28 = .ok (.iload 4, 2) := by decide +kernel
theorem dX7_spanEnd_30 : decode cX7_spanEnd 30 = .ok (.iconst (-1), 1) := by decide +kernel
theorem dX7_spanEnd_31 : decode cX7_spanEnd 31 = .ok (.if_icmp .eq 19, 3) := by decide +kernel
theorem dX7_spanEnd_34 : decode cX7_spanEnd 34 = .ok (.iload_n 2, 1) := by decide +kernel
theorem dX7_spanEnd_35 : decode cX7_spanEnd 35 = .ok (.ifCond .eq 29, 3) := by decide +kernel
theorem dX7_spanEnd_38 : decode cX7_spanEnd 38 = .ok (.aload_n 0, 1) := by decide +kernel
theorem dX7_spanEnd_39 : decode cX7_spanEnd 39 = .ok (.getfield 19, 3) := by decide +kernel
theorem dX7_spanEnd_42 : decode cX7_spanEnd 42 = .ok (.iload_n 1, 1) := by decide +kernel
theorem dX7_spanEnd_43 : decode cX7_spanEnd 43 = .ok (.invokevirtual 127, 3) := by decide +kernel
theorem dX7_spanEnd_46 : decode cX7_spanEnd 46 = .ok (.iconst 1, 1) := by decide +kernel
theorem dX7_spanEnd_47 : decode cX7_spanEnd 47 = .ok (.if_icmp .ne 17, 3) := by decide +kernel
theorem dX7_spanEnd_50 : decode cX7_spanEnd 50 = .ok (.iload_n 2, 1) := by decide +kernel
theorem dX7_spanEnd_51 : decode cX7_spanEnd 51 = .ok (.ifCond .eq 9, 3) := by decide +kernel
theorem dX7_spanEnd_54 : decode cX7_spanEnd 54 = .ok (.ldc2_w 255, 3) := by decide +kernel
theorem dX7_spanEnd_57 : decode cX7_spanEnd 57 = .ok (.goto 6, 3) := by decide +kernel
theorem dX7_spanEnd_60 : decode cX7_spanEnd 60 = .ok (.ldc2_w 257, 3) := by decide +kernel
theorem dX7_spanEnd_63 : decode cX7_spanEnd 63 = .ok (.lreturn, 1) := by decide +kernel
theorem dX7_spanEnd_64 : decode cX7_spanEnd 64 = .ok (.aload_n 0, 1) := by decide +kernel
theorem dX7_spanEnd_65 : decode cX7_spanEnd 65 = .ok (.getfield 19, 3) := by decide +kernel
theorem dX7_spanEnd_68 : decode cX7_spanEnd 68 = .ok (.iload_n 1, 1) := by decide +kernel
theorem dX7_spanEnd_69 : decode cX7_spanEnd 69 = .ok (.invokevirtual 133, 3) := by decide +kernel
theorem dX7_spanEnd_72 : decode cX7_spanEnd 72 = .ok (.i2l, 1) := by decide +kernel
theorem dX7_spanEnd_73 : decode cX7_spanEnd 73 = .ok (.aload_n 3, 1) := by decide +kernel
theorem dX7_spanEnd_74 : decode cX7_spanEnd 74 = .ok (.iload 4, 2) := by decide +kernel
theorem dX7_spanEnd_76 : decode cX7_spanEnd 76 = .ok (.iload_n 2, 1) := by decide +kernel
theorem dX7_spanEnd_77 : decode cX7_spanEnd 77 = .ok (.invokevirtual 103, 3) := by decide +kernel
theorem dX7_spanEnd_80 : decode cX7_spanEnd 80 = .ok (.i2l, 1) := by decide +kernel
theorem dX7_spanEnd_81 : decode cX7_spanEnd 81 = .ok (.ladd, 1) := by decide +kernel
theorem dX7_spanEnd_82 : decode cX7_spanEnd 82 = .ok (.lreturn, 1) := by decide +kernel
set_option maxRecDepth 20000 in
theorem ggX7_timeEnd_X0_between : GoodIn wsX7_timeEnd wsX0_between := goodIn_r _ [6, 7, 8, 9, 10, 11, 5, 12, 13, 14, 15, 16, 27, 28] (by decide +kernel) (by decide +kernel)
set_option maxRecDepth 20000 in
theorem gX7_timeEnd_X0_between : GoodIn wsX7_timeEnd (wsV RX7 163 RX0 yX0_between wsX0_between) := goodIn_app (goodIn_of _ (by decide +kernel)) ggX7_timeEnd_X0_between
theorem dX7_timeEnd_0 : decode cX7_timeEnd 0 = .ok (.iload_n 2, 1) := by decide +kernel
theorem dX7_timeEnd_1 : decode cX7_timeEnd 1 = .ok (.ifCond .eq 17, 3) := by decide +kernel
theorem dX7_timeEnd_4 : decode cX7_timeEnd 4 = .ok (.aload_n 0, 1) := by decide +kernel
theorem dX7_timeEnd_5 : decode cX7_timeEnd 5 = .ok (.getfield 33, 3) := by decide +kernel
theorem dX7_timeEnd_8 : decode cX7_timeEnd 8 = .ok (.iconst 0, 1) := by decide +kernel
theorem dX7_timeEnd_9 : decode cX7_timeEnd 9 = .ok (.iload_n 1, 1) := by decide +kernel
theorem dX7_timeEnd_10 : decode cX7_timeEnd 10 = .ok (.iconst 1, 1) := by decide +kernel
theorem dX7_timeEnd_11 : decode cX7_timeEnd 11 = .ok (.iadd, 1) := by decide +kernel
theorem dX7_timeEnd_12 : decode cX7_timeEnd 12 = .ok (.invokevirtual 163, 3) := by decide +kernel
theorem dX7_timeEnd_15 : decode cX7_timeEnd 15 = .ok (.goto 15, 3) := by decide +kernel
theorem dX7_timeEnd_18 : decode cX7_timeEnd 18 = .ok (.aload_n 0, 1) := by decide +kernel
theorem dX7_timeEnd_19 : decode cX7_timeEnd 19 = .ok (.getfield 33, 3) := by decide +kernel
theorem dX7_timeEnd_22 : decode cX7_timeEnd 22 = .ok (.iload_n 1, 1) := by decide +kernel
theorem dX7_timeEnd_23 : decode cX7_timeEnd 23 = .ok (.iconst 1, 1) := by decide +kernel
theorem dX7_timeEnd_24 : decode cX7_timeEnd 24 = .ok (.iadd, 1) := by decide +kernel
theorem dX7_timeEnd_25 : decode cX7_timeEnd 25 = .ok (.iconst 0, 1) := by decide +kernel
theorem dX7_timeEnd_26 : decode cX7_timeEnd 26 = .ok (.invokevirtual 163, 3) := by decide +kernel
theorem dX7_timeEnd_29 : decode cX7_timeEnd 29 = .ok (.lneg, 1) := by decide +kernel
theorem dX7_timeEnd_30 : decode cX7_timeEnd 30 = .ok (.lreturn, 1) := by decide +kernel
set_option maxRecDepth 20000 in
theorem ggX7_isToldRight_X7_timeEnd : GoodIn wsX7_isToldRight wsX7_timeEnd := goodIn_r _ [6, 7, 8, 9, 10, 11, 12, 13, 14, 15, 16, 17, 18, 19, 20, 5, 21, 27, 28, 29, 30, 31, 32, 33, 34, 35, 36, 37, 38] (by decide +kernel) (by decide +kernel)
set_option maxRecDepth 20000 in
theorem gX7_isToldRight_X7_timeEnd : GoodIn wsX7_isToldRight (wsV RX7 160 RX7 yX7_timeEnd wsX7_timeEnd) := goodIn_app (goodIn_of _ (by decide +kernel)) ggX7_isToldRight_X7_timeEnd
set_option maxRecDepth 20000 in
theorem ggX7_isToldRight_X7_isEnd : GoodIn wsX7_isToldRight wsX7_isEnd := goodIn_r _ [24, 25, 26] (by decide +kernel) (by decide +kernel)
set_option maxRecDepth 20000 in
theorem gX7_isToldRight_X7_isEnd : GoodIn wsX7_isToldRight (va_wsS RX7 251 yX7_isEnd wsX7_isEnd) := goodIn_app (goodIn_of _ (by decide +kernel)) ggX7_isToldRight_X7_isEnd
theorem dX7_isToldRight_0 : decode cX7_isToldRight 0 = .ok (.iconst 2, 1) := by decide +kernel
theorem dX7_isToldRight_1 : decode cX7_isToldRight 1 = .ok (.iload_n 1, 1) := by decide +kernel
theorem dX7_isToldRight_2 : decode cX7_isToldRight 2 = .ok (.imul, 1) := by decide +kernel
theorem dX7_isToldRight_3 : decode cX7_isToldRight 3 = .ok (.istore_n 3, 1) := by decide +kernel
theorem dX7_isToldRight_4 : decode cX7_isToldRight 4 = .ok (.iload_n 3, 1) := by decide +kernel
theorem dX7_isToldRight_5 : decode cX7_isToldRight 5 = .ok (.iconst 1, 1) := by decide +kernel
theorem dX7_isToldRight_6 : decode cX7_isToldRight 6 = .ok (.iadd, 1) := by decide +kernel
theorem dX7_isToldRight_7 : decode cX7_isToldRight 7 = .ok (.iload_n 2, 1) := by decide +kernel
theorem dX7_isToldRight_8 : decode cX7_isToldRight 8 = .ok (.if_icmp .ge 11, 3) := by decide +kernel
theorem dX7_isToldRight_11 : decode cX7_isToldRight 11 = .ok (.iload_n 3, 1) := by decide +kernel
theorem dX7_isToldRight_12 : decode cX7_isToldRight 12 = .ok (.iconst 1, 1) := by decide +kernel
theorem dX7_isToldRight_13 : decode cX7_isToldRight 13 = .ok (.iadd, 1) := by decide +kernel
theorem dX7_isToldRight_14 : decode cX7_isToldRight 14 = .ok (.bipush 30, 2) := by decide +kernel
theorem dX7_isToldRight_16 : decode cX7_isToldRight 16 = .ok (.if_icmp .lt 5, 3) := by decide +kernel
theorem dX7_isToldRight_19 : decode cX7_isToldRight 19 = .ok (.iconst 0, 1) := by decide +kernel
theorem dX7_isToldRight_20 : decode cX7_isToldRight 20 = .ok (.ireturn, 1) := by decide +kernel
theorem dX7_isToldRight_21 : decode cX7_isToldRight 21 = .ok (.aload_n 0, 1) := by decide +kernel
theorem dX7_isToldRight_22 : decode cX7_isToldRight 22 = .ok (.iload_n 1, 1) := by decide +kernel
theorem dX7_isToldRight_23 : decode cX7_isToldRight 23 = .ok (.iconst 0, 1) := by decide +kernel
theorem dX7_isToldRight_24 : decode cX7_isToldRight 24 = .ok (.invokevirtual 160, 3) := by decide +kernel
theorem dX7_isToldRight_27 : decode cX7_isToldRight 27 = .ok (.lstore 4, 2) := by decide +kernel
theorem dX7_isToldRight_29 : decode cX7_isToldRight 29 = .ok (.aload_n 0, 1) := by decide +kernel
theorem dX7_isToldRight_30 : decode cX7_isToldRight 30 = .ok (.iload_n 1, 1) := by decide +kernel
theorem dX7_isToldRight_31 : decode cX7_isToldRight 31 = .ok (.iconst 1, 1) := by decide +kernel
theorem dX7_isToldRight_32 : decode cX7_isToldRight 32 = .ok (.invokevirtual 160, 3) := by decide +kernel
theorem dX7_isToldRight_35 : decode cX7_isToldRight 35 = .ok (.lstore 6, 2) := by decide +kernel
theorem dX7_isToldRight_37 : decode cX7_isToldRight 37 = .ok (.lload 4, 2) := by decide +kernel
theorem dX7_isToldRight_39 : decode cX7_isToldRight 39 = .ok (.invokestatic 251, 3) := by decide +kernel
theorem dX7_isToldRight_42 : decode cX7_isToldRight 42 = .ok (.ifCond .eq 43, 3) := by decide +kernel
theorem dX7_isToldRight_45 : decode cX7_isToldRight 45 = .ok (.lload 6, 2) := by decide +kernel
theorem dX7_isToldRight_47 : decode cX7_isToldRight 47 = .ok (.invokestatic 251, 3) := by decide +kernel
theorem dX7_isToldRight_50 : decode cX7_isToldRight 50 = .ok (.ifCond .eq 35, 3) := by decide +kernel
theorem dX7_isToldRight_53 : decode cX7_isToldRight 53 = .ok (.aload_n 0, 1) := by decide +kernel
theorem dX7_isToldRight_54 : decode cX7_isToldRight 54 = .ok (.getfield 58, 3) := by decide +kernel
theorem dX7_isToldRight_57 : decode cX7_isToldRight 57 = .ok (.iload_n 3, 1) := by decide +kernel
theorem dX7_isToldRight_58 : decode cX7_isToldRight 58 = .ok (.iaload, 1) := by decide +kernel
theorem dX7_isToldRight_59 : decode cX7_isToldRight 59 = .ok (.i2l, 1) := by decide +kernel
theorem dX7_isToldRight_60 : decode cX7_isToldRight 60 = .ok (.lload 4, 2) := by decide +kernel
theorem dX7_isToldRight_62 : decode cX7_isToldRight 62 = .ok (.lcmp, 1) := by decide +kernel
theorem dX7_isToldRight_63 : decode cX7_isToldRight 63 = .ok (.ifCond .ne 22, 3) := by decide +kernel
theorem dX7_isToldRight_66 : decode cX7_isToldRight 66 = .ok (.aload_n 0, 1) := by decide +kernel
theorem dX7_isToldRight_67 : decode cX7_isToldRight 67 = .ok (.getfield 58, 3) := by decide +kernel
theorem dX7_isToldRight_70 : decode cX7_isToldRight 70 = .ok (.iload_n 3, 1) := by decide +kernel
theorem dX7_isToldRight_71 : decode cX7_isToldRight 71 = .ok (.iconst 1, 1) := by decide +kernel
theorem dX7_isToldRight_72 : decode cX7_isToldRight 72 = .ok (.iadd, 1) := by decide +kernel
theorem dX7_isToldRight_73 : decode cX7_isToldRight 73 = .ok (.iaload, 1) := by decide +kernel
theorem dX7_isToldRight_74 : decode cX7_isToldRight 74 = .ok (.i2l, 1) := by decide +kernel
theorem dX7_isToldRight_75 : decode cX7_isToldRight 75 = .ok (.lload 6, 2) := by decide +kernel
theorem dX7_isToldRight_77 : decode cX7_isToldRight 77 = .ok (.lcmp, 1) := by decide +kernel
theorem dX7_isToldRight_78 : decode cX7_isToldRight 78 = .ok (.ifCond .ne 7, 3) := by decide +kernel
theorem dX7_isToldRight_81 : decode cX7_isToldRight 81 = .ok (.iconst 1, 1) := by decide +kernel
theorem dX7_isToldRight_82 : decode cX7_isToldRight 82 = .ok (.goto 4, 3) := by decide +kernel
theorem dX7_isToldRight_85 : decode cX7_isToldRight 85 = .ok (.iconst 0, 1) := by decide +kernel
theorem dX7_isToldRight_86 : decode cX7_isToldRight 86 = .ok (.ireturn, 1) := by decide +kernel
set_option maxRecDepth 20000 in
theorem ggX7_settleTimes_X7_gatherBounds : GoodIn wsX7_settleTimes wsX7_gatherBounds := goodIn_r _ [6, 1, 7, 8, 9, 10, 11, 12, 13, 14, 15, 16, 17, 18, 19, 20, 21, 22, 23, 24, 25, 26, 27, 28, 29, 30, 31, 32, 33, 34, 35, 36, 5, 37, 38, 39, 40, 41, 42, 43, 44, 45, 46, 47, 48, 49, 50, 51, 52, 53, 54, 55, 56, 57, 58, 59, 60, 61, 62, 63, 64, 65, 66, 67, 68, 69, 70, 71, 72, 73, 74, 75, 76, 77, 78, 79, 80, 81, 82, 83, 84, 85, 86, 87, 88, 89, 90, 91, 92, 93, 94, 95, 96, 97, 98, 99, 100, 101, 102, 103, 116, 117, 118, 119, 120, 121, 122, 123, 124, 125, 126, 127, 128, 129, 130, 131, 132, 133, 134, 135, 136, 137, 138, 139, 140, 141, 142] (by decide +kernel) (by decide +kernel)
set_option maxRecDepth 20000 in
theorem gX7_settleTimes_X7_gatherBounds : GoodIn wsX7_settleTimes (wsV RX7 167 RX7 yX7_gatherBounds wsX7_gatherBounds) := goodIn_app (goodIn_of _ (by decide +kernel)) ggX7_settleTimes_X7_gatherBounds
set_option maxRecDepth 20000 in
theorem ggX7_settleTimes_X0_tighten : GoodIn wsX7_settleTimes wsX0_tighten := goodIn_r _ [107, 27, 108, 109, 110, 18, 111, 28, 29, 112, 113, 114, 115, 133, 134] (by decide +kernel) (by decide +kernel)
set_option maxRecDepth 20000 in
theorem gX7_settleTimes_X0_tighten : GoodIn wsX7_settleTimes (wsV RX7 259 RX0 yX0_tighten wsX0_tighten) := goodIn_app (goodIn_of _ (by decide +kernel)) ggX7_settleTimes_X0_tighten
theorem dX7_settleTimes_0 : decode cX7_settleTimes 0 = .ok (.aload_n 0, 1) := by decide +kernel
theorem dX7_settleTimes_1 : decode cX7_settleTimes 1 = .ok (.iload_n 1, 1) := by decide +kernel
theorem dX7_settleTimes_2 : decode cX7_settleTimes 2 = .ok (.invokevirtual 167, 3) := by decide +kernel
theorem dX7_settleTimes_5 : decode cX7_settleTimes 5 = .ok (.aload_n 0, 1) := by decide +kernel
theorem dX7_settleTimes_6 : decode cX7_settleTimes 6 = .ok (.getfield 33, 3) := by decide +kernel
theorem dX7_settleTimes_9 : decode cX7_settleTimes 9 = .ok (.invokevirtual 259, 3) := by decide +kernel
theorem dX7_settleTimes_12 : decode cX7_settleTimes 12 = .ok (.ireturn, 1) := by decide +kernel
set_option maxRecDepth 20000 in
theorem ggX7_gatherBounds_X6_size : GoodIn wsX7_gatherBounds wsX6_size := goodIn_r _ [8, 9, 110, 111, 112, 113, 114, 115, 116] (by decide +kernel) (by decide +kernel)
set_option maxRecDepth 20000 in
theorem gX7_gatherBounds_X6_size : GoodIn wsX7_gatherBounds (wsV RX7 114 RX6 yX6_size wsX6_size) := goodIn_app (goodIn_of _ (by decide +kernel)) ggX7_gatherBounds_X6_size
set_option maxRecDepth 20000 in
theorem ggX7_gatherBounds_X0_loosen : GoodIn wsX7_gatherBounds wsX0_loosen := goodIn_r _ [14, 15, 16, 17, 18, 19, 20, 21, 22, 23, 24, 25, 26, 27, 28, 117, 118] (by decide +kernel) (by decide +kernel)
set_option maxRecDepth 20000 in
theorem gX7_gatherBounds_X0_loosen : GoodIn wsX7_gatherBounds (wsV RX7 262 RX0 yX0_loosen wsX0_loosen) := goodIn_app (goodIn_of _ (by decide +kernel)) ggX7_gatherBounds_X0_loosen
set_option maxRecDepth 20000 in
theorem ggX7_gatherBounds_X7_spanEnd : GoodIn wsX7_gatherBounds wsX7_spanEnd := goodIn_r _ [33, 34, 2, 35, 36, 37, 38, 39, 7, 40, 41, 42, 43, 44, 45, 9, 46, 32, 47, 48, 49, 50, 51, 52, 53, 54, 55, 56, 57, 58, 59, 60, 61, 62, 63, 64, 65, 66, 67, 68, 69, 70, 100, 101, 102, 103, 104, 105, 106, 107, 108, 109, 110, 111, 112, 113, 114, 115, 116, 119, 120, 121, 122] (by decide +kernel) (by decide +kernel)
set_option maxRecDepth 20000 in
theorem gX7_gatherBounds_X7_spanEnd : GoodIn wsX7_gatherBounds (wsV RX7 139 RX7 yX7_spanEnd wsX7_spanEnd) := goodIn_app (goodIn_of _ (by decide +kernel)) ggX7_gatherBounds_X7_spanEnd
set_option maxRecDepth 20000 in
theorem ggX7_gatherBounds_X0_atMost : GoodIn wsX7_gatherBounds wsX0_atMost := goodIn_r _ [74, 23, 75, 76, 77, 13, 78, 22, 46, 32, 47, 117, 118] (by decide +kernel) (by decide +kernel)
set_option maxRecDepth 20000 in
theorem gX7_gatherBounds_X0_atMost : GoodIn wsX7_gatherBounds (wsV RX7 265 RX0 yX0_atMost wsX0_atMost) := goodIn_app (goodIn_of _ (by decide +kernel)) ggX7_gatherBounds_X0_atMost
set_option maxRecDepth 20000 in
theorem ggX7_gatherBounds_X5_size : GoodIn wsX7_gatherBounds wsX5_size := goodIn_r _ [83, 84, 123, 124, 125, 126] (by decide +kernel) (by decide +kernel)
set_option maxRecDepth 20000 in
theorem gX7_gatherBounds_X5_size : GoodIn wsX7_gatherBounds (wsV RX7 153 RX5 yX5_size wsX5_size) := goodIn_app (goodIn_of _ (by decide +kernel)) ggX7_gatherBounds_X5_size
set_option maxRecDepth 20000 in
theorem ggX7_gatherBounds_X5_aheadOf : GoodIn wsX7_gatherBounds wsX5_aheadOf := goodIn_r _ [88, 84, 89, 46, 32, 47, 123, 124, 125, 126] (by decide +kernel) (by decide +kernel)
set_option maxRecDepth 20000 in
theorem gX7_gatherBounds_X5_aheadOf : GoodIn wsX7_gatherBounds (wsV RX7 269 RX5 yX5_aheadOf wsX5_aheadOf) := goodIn_app (goodIn_of _ (by decide +kernel)) ggX7_gatherBounds_X5_aheadOf
set_option maxRecDepth 20000 in
theorem ggX7_gatherBounds_X5_behindOf : GoodIn wsX7_gatherBounds wsX5_behindOf := goodIn_r _ [93, 84, 94, 46, 32, 47, 123, 124, 125, 126] (by decide +kernel) (by decide +kernel)
set_option maxRecDepth 20000 in
theorem gX7_gatherBounds_X5_behindOf : GoodIn wsX7_gatherBounds (wsV RX7 272 RX5 yX5_behindOf wsX5_behindOf) := goodIn_app (goodIn_of _ (by decide +kernel)) ggX7_gatherBounds_X5_behindOf
set_option maxRecDepth 20000 in
theorem ggX7_gatherBounds_X5_distanceOf : GoodIn wsX7_gatherBounds wsX5_distanceOf := goodIn_r _ [98, 84, 99, 46, 32, 47, 123, 124, 125, 126] (by decide +kernel) (by decide +kernel)
set_option maxRecDepth 20000 in
theorem gX7_gatherBounds_X5_distanceOf : GoodIn wsX7_gatherBounds (wsV RX7 275 RX5 yX5_distanceOf wsX5_distanceOf) := goodIn_app (goodIn_of _ (by decide +kernel)) ggX7_gatherBounds_X5_distanceOf
theorem dX7_gatherBounds_0 : decode cX7_gatherBounds 0 = .ok (.aload_n 0, 1) := by decide +kernel
theorem dX7_gatherBounds_1 : decode cX7_gatherBounds 1 = .ok (.getfield 33, 3) := by decide +kernel
theorem dX7_gatherBounds_4 : decode cX7_gatherBounds 4 = .ok (.aload_n 0, 1) := by decide +kernel
theorem dX7_gatherBounds_5 : decode cX7_gatherBounds 5 = .ok (.getfield 19, 3) := by decide +kernel
theorem dX7_gatherBounds_8 : decode cX7_gatherBounds 8 = .ok (.invokevirtual 114, 3) := by decide +kernel
theorem dX7_gatherBounds_11 : decode cX7_gatherBounds 11 = .ok (.iconst 1, 1) := by decide +kernel
theorem dX7_gatherBounds_12 : decode cX7_gatherBounds 12 = .ok (.iadd, 1) := by decide +kernel
theorem dX7_gatherBounds_13 : decode cX7_gatherBounds 13 = .ok (.invokevirtual 262, 3) := by decide +kernel
theorem dX7_gatherBounds_16 : decode cX7_gatherBounds 16 = .ok (.iconst 0, 1) := by decide +kernel
theorem dX7_gatherBounds_17 : decode cX7_gatherBounds 17 = .ok (.istore_n 2, 1) := by decide +kernel
theorem dX7_gatherBounds_18 : decode cX7_gatherBounds 18 = .ok (.iload_n 2, 1) := by decide +kernel
theorem dX7_gatherBounds_19 : decode cX7_gatherBounds 19 = .ok (.aload_n 0, 1) := by decide +kernel
theorem dX7_gatherBounds_20 : decode cX7_gatherBounds 20 = .ok (.getfield 19, 3) := by decide +kernel
theorem dX7_gatherBounds_23 : decode cX7_gatherBounds 23 = .ok (.invokevirtual 114, 3) := by decide +kernel
theorem dX7_gatherBounds_26 : decode cX7_gatherBounds 26 = .ok (.if_icmp .ge 49, 3) := by decide +kernel
theorem dX7_gatherBounds_29 : decode cX7_gatherBounds 29 = .ok (.iload_n 2, 1) := by decide +kernel
theorem dX7_gatherBounds_30 : decode cX7_gatherBounds 30 = .ok (.iload_n 1, 1) := by decide +kernel
theorem dX7_gatherBounds_31 : decode cX7_gatherBounds 31 = .ok (.if_icmp .eq 38, 3) := by decide +kernel
theorem dX7_gatherBounds_34 : decode cX7_gatherBounds 34 = .ok (.aload_n 0, 1) := by decide +kernel
theorem dX7_gatherBounds_35 : decode cX7_gatherBounds 35 = .ok (.getfield 33, 3) := by decide +kernel
theorem dX7_gatherBounds_38 : decode cX7_gatherBounds 38 = .ok (.iconst 0, 1) := by decide +kernel
theorem dX7_gatherBounds_39 : decode cX7_gatherBounds 39 = .ok (.iload_n 2, 1) := by decide +kernel
theorem dX7_gatherBounds_40 : decode cX7_gatherBounds 40 = .ok (.iconst 1, 1) := by decide +kernel
theorem dX7_gatherBounds_41 : decode cX7_gatherBounds 41 = .ok (.iadd, 1) := by decide +kernel
theorem dX7_gatherBounds_42 : decode cX7_gatherBounds 42 = .ok (.aload_n 0, 1) := by decide +kernel
theorem dX7_gatherBounds_43 : decode cX7_gatherBounds 43 = .ok (.iload_n 2, 1) := by decide +kernel
theorem dX7_gatherBounds_44 : decode cX7_gatherBounds 44 = .ok (.iconst 1, 1) := by decide +kernel
theorem dX7_gatherBounds_45 : decode cX7_gatherBounds 45 = .ok (.invokevirtual 139, 3) := by decide +kernel
theorem dX7_gatherBounds_48 : decode cX7_gatherBounds 48 = .ok (.invokevirtual 265, 3) := by decide +kernel
theorem dX7_gatherBounds_51 : decode cX7_gatherBounds 51 = .ok (.aload_n 0, 1) := by decide +kernel
theorem dX7_gatherBounds_52 : decode cX7_gatherBounds 52 = .ok (.getfield 33, 3) := by decide +kernel
theorem dX7_gatherBounds_55 : decode cX7_gatherBounds 55 = .ok (.iload_n 2, 1) := by decide +kernel
theorem dX7_gatherBounds_56 : decode cX7_gatherBounds 56 = .ok (.iconst 1, 1) := by decide +kernel
theorem dX7_gatherBounds_57 : decode cX7_gatherBounds 57 = .ok (.iadd, 1) := by decide +kernel
theorem dX7_gatherBounds_58 : decode cX7_gatherBounds 58 = .ok (.iconst 0, 1) := by decide +kernel
theorem dX7_gatherBounds_59 : decode cX7_gatherBounds 59 = .ok (.aload_n 0, 1) := by decide +kernel
theorem dX7_gatherBounds_60 : decode cX7_gatherBounds 60 = .ok (.iload_n 2, 1) := by decide +kernel
theorem dX7_gatherBounds_61 : decode cX7_gatherBounds 61 = .ok (.iconst 0, 1) := by decide +kernel
theorem dX7_gatherBounds_62 : decode cX7_gatherBounds 62 = .ok (.invokevirtual 139, 3) := by decide +kernel
theorem dX7_gatherBounds_65 : decode cX7_gatherBounds 65 = .ok (.lneg, 1) := by decide +kernel
theorem dX7_gatherBounds_66 : decode cX7_gatherBounds 66 = .ok (.invokevirtual 265, 3) := by decide +kernel
theorem dX7_gatherBounds_69 : decode cX7_gatherBounds 69 = .ok (.iinc 2 1, 3) := by decide +kernel
theorem dX7_gatherBounds_72 : decode cX7_gatherBounds 72 = .ok (.goto (-54), 3) := by decide +kernel
theorem dX7_gatherBounds_75 : decode cX7_gatherBounds 75 = .ok (.iconst 0, 1) := by decide +kernel
theorem dX7_gatherBounds_76 : decode cX7_gatherBounds 76 = .ok (.istore_n 2, 1) := by decide +kernel
theorem dX7_gatherBounds_77 : decode cX7_gatherBounds 77 = .ok (.iload_n 2, 1) := by decide +kernel
theorem dX7_gatherBounds_78 : decode cX7_gatherBounds 78 = .ok (.aload_n 0, 1) := by decide +kernel
theorem dX7_gatherBounds_79 : decode cX7_gatherBounds 79 = .ok (.getfield 26, 3) := by decide +kernel
theorem dX7_gatherBounds_82 : decode cX7_gatherBounds 82 = .ok (.invokevirtual 153, 3) := by decide +kernel
theorem dX7_gatherBounds_85 : decode cX7_gatherBounds 85 = .ok (.if_icmp .ge 63, 3) := by decide +kernel
theorem dX7_gatherBounds_88 : decode cX7_gatherBounds 88 = .ok (.aload_n 0, 1) := by decide +kernel
theorem dX7_gatherBounds_89 : decode cX7_gatherBounds 89 = .ok (.getfield 26, 3) := by decide +kernel
theorem dX7_gatherBounds_92 : decode cX7_gatherBounds 92 = .ok (.iload_n 2, 1) := by decide +kernel
theorem dX7_gatherBounds_93 : decode cX7_gatherBounds 93 = .ok (.invokevirtual 269, 3) := by decide +kernel
theorem dX7_gatherBounds_96 : decode cX7_gatherBounds 96 = .ok (.istore_n 3, 1) := by decide +kernel
theorem dX7_gatherBounds_97 : decode cX7_gatherBounds 97 = .ok (.aload_n 0, 1) := by decide +kernel
theorem dX7_gatherBounds_98 : decode cX7_gatherBounds 98 = .ok (.getfield 26, 3) := by decide +kernel
theorem dX7_gatherBounds_101 : decode cX7_gatherBounds 101 = .ok (.iload_n 2, 1) := by decide +kernel
theorem dX7_gatherBounds_102 : decode cX7_gatherBounds 102 = .ok (.invokevirtual 272, 3) := by decide +kernel
theorem dX7_gatherBounds_105 : decode cX7_gatherBounds 105 = .ok (.istore 4, 2) := by decide +kernel
theorem dX7_gatherBounds_107 : decode cX7_gatherBounds 107 = .ok (.iload_n 3, 1) := by decide +kernel
theorem dX7_gatherBounds_108 : decode cX7_gatherBounds 108 = .ok (.iload_n 1, 1) := by decide +kernel
theorem dX7_gatherBounds_109 : decode cX7_gatherBounds 109 = .ok (.if_icmp .eq 33, 3) := by decide +kernel
theorem dX7_gatherBounds_112 : decode cX7_gatherBounds 112 = .ok (.iload 4, 2) := by decide +kernel
theorem dX7_gatherBounds_114 : decode cX7_gatherBounds 114 = .ok (.iload_n 1, 1) := by decide +kernel
theorem dX7_gatherBounds_115 : decode cX7_gatherBounds 115 = .ok (.if_icmp .eq 27, 3) := by decide +kernel
theorem dX7_gatherBounds_118 : decode cX7_gatherBounds 118 = .ok (.aload_n 0, 1) := by decide +kernel
theorem dX7_gatherBounds_119 : decode cX7_gatherBounds 119 = .ok (.getfield 33, 3) := by decide +kernel
theorem dX7_gatherBounds_122 : decode cX7_gatherBounds 122 = .ok (.iload 4, 2) := by decide +kernel
theorem dX7_gatherBounds_124 : decode cX7_gatherBounds 124 = .ok (.iconst 1, 1) := by decide +kernel
theorem dX7_gatherBounds_125 : decode cX7_gatherBounds 125 = .ok (.iadd, 1) := by decide +kernel
theorem dX7_gatherBounds_126 : decode cX7_gatherBounds 126 = .ok (.iload_n 3, 1) := by decide +kernel
theorem dX7_gatherBounds_127 : decode cX7_gatherBounds 127 = .ok (.iconst 1, 1) := by decide +kernel
theorem dX7_gatherBounds_128 : decode cX7_gatherBounds 128 = .ok (.iadd, 1) := by decide +kernel
theorem dX7_gatherBounds_129 : decode cX7_gatherBounds 129 = .ok (.aload_n 0, 1) := by decide +kernel
theorem dX7_gatherBounds_130 : decode cX7_gatherBounds 130 = .ok (.getfield 26, 3) := by decide +kernel
theorem dX7_gatherBounds_133 : decode cX7_gatherBounds 133 = .ok (.iload_n 2, 1) := by decide +kernel
theorem dX7_gatherBounds_134 : decode cX7_gatherBounds 134 = .ok (.invokevirtual 275, 3) := by decide +kernel
theorem dX7_gatherBounds_137 : decode cX7_gatherBounds 137 = .ok (.ineg, 1) := by decide +kernel
theorem dX7_gatherBounds_138 : decode cX7_gatherBounds 138 = .ok (.i2l, 1) := by decide +kernel
theorem dX7_gatherBounds_139 : decode cX7_gatherBounds 139 = .ok (.invokevirtual 265, 3) := by decide +kernel
theorem dX7_gatherBounds_142 : decode cX7_gatherBounds 142 = .ok (.iinc 2 1, 3) := by decide +kernel
theorem dX7_gatherBounds_145 : decode cX7_gatherBounds 145 = .ok (.goto (-68), 3) := by decide +kernel
theorem dX7_gatherBounds_148 : decode cX7_gatherBounds 148 = .ok (.return_, 1) := by decide +kernel
theorem dX7_isEnd_0 : decode cX7_isEnd 0 = .ok (.lload_n 0, 1) := by decide +kernel
theorem dX7_isEnd_1 : decode cX7_isEnd 1 = .ok (.ldc2_w 257, 3) := by decide +kernel
theorem dX7_isEnd_4 : decode cX7_isEnd 4 = .ok (.lcmp, 1) := by decide +kernel
theorem dX7_isEnd_5 : decode cX7_isEnd 5 = .ok (.ifCond .le 15, 3) := by decide +kernel
theorem dX7_isEnd_8 : decode cX7_isEnd 8 = .ok (.lload_n 0, 1) := by decide +kernel
theorem dX7_isEnd_9 : decode cX7_isEnd 9 = .ok (.ldc2_w 255, 3) := by decide +kernel
theorem dX7_isEnd_12 : decode cX7_isEnd 12 = .ok (.lcmp, 1) := by decide +kernel
theorem dX7_isEnd_13 : decode cX7_isEnd 13 = .ok (.ifCond .ge 7, 3) := by decide +kernel
theorem dX7_isEnd_16 : decode cX7_isEnd 16 = .ok (.iconst 1, 1) := by decide +kernel
theorem dX7_isEnd_17 : decode cX7_isEnd 17 = .ok (.goto 4, 3) := by decide +kernel
theorem dX7_isEnd_20 : decode cX7_isEnd 20 = .ok (.iconst 0, 1) := by decide +kernel
theorem dX7_isEnd_21 : decode cX7_isEnd 21 = .ok (.ireturn, 1) := by decide +kernel
theorem dX7_isWithin_0 : decode cX7_isWithin 0 = .ok (.iload_n 0, 1) := by decide +kernel
theorem dX7_isWithin_1 : decode cX7_isWithin 1 = .ok (.iload_n 1, 1) := by decide +kernel
theorem dX7_isWithin_2 : decode cX7_isWithin 2 = .ok (.if_icmp .lt 12, 3) := by decide +kernel
theorem dX7_isWithin_5 : decode cX7_isWithin 5 = .ok (.iload_n 0, 1) := by decide +kernel
theorem dX7_isWithin_6 : decode cX7_isWithin 6 = .ok (.iload_n 2, 1) := by decide +kernel
theorem dX7_isWithin_7 : decode cX7_isWithin 7 = .ok (.if_icmp .gt 7, 3) := by decide +kernel
theorem dX7_isWithin_10 : decode cX7_isWithin 10 = .ok (.iconst 1, 1) := by decide +kernel
theorem dX7_isWithin_11 : decode cX7_isWithin 11 = .ok (.goto 4, 3) := by decide +kernel
theorem dX7_isWithin_14 : decode cX7_isWithin 14 = .ok (.iconst 0, 1) := by decide +kernel
theorem dX7_isWithin_15 : decode cX7_isWithin 15 = .ok (.ireturn, 1) := by decide +kernel
set_option maxRecDepth 20000 in
theorem ggX7_isReading_X7_isWithin : GoodIn wsX7_isReading wsX7_isWithin := goodIn_r _ [5] (by decide +kernel) (by decide +kernel)
set_option maxRecDepth 20000 in
theorem gX7_isReading_X7_isWithin : GoodIn wsX7_isReading (va_wsS RX7 69 yX7_isWithin wsX7_isWithin) := goodIn_app (goodIn_of _ (by decide +kernel)) ggX7_isReading_X7_isWithin
theorem dX7_isReading_0 : decode cX7_isReading 0 = .ok (.iload_n 0, 1) := by decide +kernel
theorem dX7_isReading_1 : decode cX7_isReading 1 = .ok (.iconst 0, 1) := by decide +kernel
theorem dX7_isReading_2 : decode cX7_isReading 2 = .ok (.ldc_w 278, 3) := by decide +kernel
theorem dX7_isReading_5 : decode cX7_isReading 5 = .ok (.invokestatic 69, 3) := by decide +kernel
theorem dX7_isReading_8 : decode cX7_isReading 8 = .ok (.ireturn, 1) := by decide +kernel
set_option maxRecDepth 20000 in
theorem ggX7_isShift_X7_isWithin : GoodIn wsX7_isShift wsX7_isWithin := goodIn_r _ [6] (by decide +kernel) (by decide +kernel)
set_option maxRecDepth 20000 in
theorem gX7_isShift_X7_isWithin : GoodIn wsX7_isShift (va_wsS RX7 69 yX7_isWithin wsX7_isWithin) := goodIn_app (goodIn_of _ (by decide +kernel)) ggX7_isShift_X7_isWithin
theorem dX7_isShift_0 : decode cX7_isShift 0 = .ok (.iload_n 0, 1) := by decide +kernel
theorem dX7_isShift_1 : decode cX7_isShift 1 = .ok (.ldc_w 279, 3) := by decide +kernel
theorem dX7_isShift_4 : decode cX7_isShift 4 = .ok (.ldc_w 280, 3) := by decide +kernel
theorem dX7_isShift_7 : decode cX7_isShift 7 = .ok (.invokestatic 69, 3) := by decide +kernel
theorem dX7_isShift_10 : decode cX7_isShift 10 = .ok (.ireturn, 1) := by decide +kernel
set_option maxRecDepth 20000 in
theorem ggX7_isPrice_X7_isWithin : GoodIn wsX7_isPrice wsX7_isWithin := goodIn_r _ [4] (by decide +kernel) (by decide +kernel)
set_option maxRecDepth 20000 in
theorem gX7_isPrice_X7_isWithin : GoodIn wsX7_isPrice (va_wsS RX7 69 yX7_isWithin wsX7_isWithin) := goodIn_app (goodIn_of _ (by decide +kernel)) ggX7_isPrice_X7_isWithin
theorem dX7_isPrice_0 : decode cX7_isPrice 0 = .ok (.iload_n 0, 1) := by decide +kernel
theorem dX7_isPrice_1 : decode cX7_isPrice 1 = .ok (.iconst 0, 1) := by decide +kernel
theorem dX7_isPrice_2 : decode cX7_isPrice 2 = .ok (.sipush 1000, 3) := by decide +kernel
theorem dX7_isPrice_5 : decode cX7_isPrice 5 = .ok (.invokestatic 69, 3) := by decide +kernel
theorem dX7_isPrice_8 : decode cX7_isPrice 8 = .ok (.ireturn, 1) := by decide +kernel
set_option maxRecDepth 20000 in
theorem ggX7_isRowOfMarks_X7_isWithin : GoodIn wsX7_isRowOfMarks wsX7_isWithin := goodIn_r _ [5] (by decide +kernel) (by decide +kernel)
set_option maxRecDepth 20000 in
theorem gX7_isRowOfMarks_X7_isWithin : GoodIn wsX7_isRowOfMarks (va_wsS RX7 69 yX7_isWithin wsX7_isWithin) := goodIn_app (goodIn_of _ (by decide +kernel)) ggX7_isRowOfMarks_X7_isWithin
theorem dX7_isRowOfMarks_0 : decode cX7_isRowOfMarks 0 = .ok (.iload_n 0, 1) := by decide +kernel
theorem dX7_isRowOfMarks_1 : decode cX7_isRowOfMarks 1 = .ok (.iconst 0, 1) := by decide +kernel
theorem dX7_isRowOfMarks_2 : decode cX7_isRowOfMarks 2 = .ok (.ldc_w 281, 3) := by decide +kernel
theorem dX7_isRowOfMarks_5 : decode cX7_isRowOfMarks 5 = .ok (.invokestatic 69, 3) := by decide +kernel
theorem dX7_isRowOfMarks_8 : decode cX7_isRowOfMarks 8 = .ok (.ireturn, 1) := by decide +kernel
theorem dX8_init_0 : decode cX8_init 0 = .ok (.aload_n 0, 1) := by decide +kernel
theorem dX8_init_1 : decode cX8_init 1 = .ok (.invokespecial 1, 3) := by decide +kernel
theorem dX8_init_4 : decode cX8_init 4 = .ok (.aload_n 0, 1) := by decide +kernel
theorem dX8_init_5 : decode cX8_init 5 = .ok (.iconst 4, 1) := by decide +kernel
theorem dX8_init_6 : decode cX8_init 6 = .ok (.newarray .int, 2) := by decide +kernel
theorem dX8_init_8 : decode cX8_init 8 = .ok (.putfield 7, 3) := by decide +kernel
theorem dX8_init_11 : decode cX8_init 11 = .ok (.aload_n 0, 1) := by decide +kernel
theorem dX8_init_12 : decode cX8_init 12 = .ok (.bipush 20, 2) := by decide +kernel
theorem dX8_init_14 : decode cX8_init 14 = .ok (.newarray .int, 2) := by decide +kernel
theorem dX8_init_16 : decode cX8_init 16 = .ok (.putfield 13, 3) := by decide +kernel
theorem dX8_init_19 : decode cX8_init 19 = .ok (.aload_n 0, 1) := by decide +kernel
theorem dX8_init_20 : decode cX8_init 20 = .ok (.bipush 20, 2) := by decide +kernel
theorem dX8_init_22 : decode cX8_init 22 = .ok (.newarray .int, 2) := by decide +kernel
theorem dX8_init_24 : decode cX8_init 24 = .ok (.putfield 16, 3) := by decide +kernel
theorem dX8_init_27 : decode cX8_init 27 = .ok (.aload_n 0, 1) := by decide +kernel
theorem dX8_init_28 : decode cX8_init 28 = .ok (.bipush 20, 2) := by decide +kernel
theorem dX8_init_30 : decode cX8_init 30 = .ok (.newarray .int, 2) := by decide +kernel
theorem dX8_init_32 : decode cX8_init 32 = .ok (.putfield 19, 3) := by decide +kernel
theorem dX8_init_35 : decode cX8_init 35 = .ok (.aload_n 0, 1) := by decide +kernel
theorem dX8_init_36 : decode cX8_init 36 = .ok (.bipush 12, 2) := by decide +kernel
theorem dX8_init_38 : decode cX8_init 38 = .ok (.newarray .int, 2) := by decide +kernel
theorem dX8_init_40 : decode cX8_init 40 = .ok (.putfield 22, 3) := by decide +kernel
theorem dX8_init_43 : decode cX8_init 43 = .ok (.aload_n 0, 1) := by decide +kernel
theorem dX8_init_44 : decode cX8_init 44 = .ok (.bipush 12, 2) := by decide +kernel
theorem dX8_init_46 : decode cX8_init 46 = .ok (.newarray .int, 2) := by decide +kernel
theorem dX8_init_48 : decode cX8_init 48 = .ok (.putfield 25, 3) := by decide +kernel
theorem dX8_init_51 : decode cX8_init 51 = .ok (.aload_n 0, 1) := by decide +kernel
theorem dX8_init_52 : decode cX8_init 52 = .ok (.bipush 12, 2) := by decide +kernel
theorem dX8_init_54 : decode cX8_init 54 = .ok (.newarray .int, 2) := by decide +kernel
theorem dX8_init_56 : decode cX8_init 56 = .ok (.putfield 28, 3) := by decide +kernel
theorem dX8_init_59 : decode cX8_init 59 = .ok (.aload_n 0, 1) := by decide +kernel
theorem dX8_init_60 : decode cX8_init 60 = .ok (.bipush 12, 2) := by decide +kernel
theorem dX8_init_62 : decode cX8_init 62 = .ok (.newarray .int, 2) := by decide +kernel
theorem dX8_init_64 : decode cX8_init 64 = .ok (.putfield 31, 3) := by decide +kernel
theorem dX8_init_67 : decode cX8_init 67 = .ok (.aload_n 0, 1) := by decide +kernel
theorem dX8_init_68 : decode cX8_init 68 = .ok (.bipush 24, 2) := by decide +kernel
theorem dX8_init_70 : decode cX8_init 70 = .ok (.newarray .int, 2) := by decide +kernel
theorem dX8_init_72 : decode cX8_init 72 = .ok (.putfield 34, 3) := by decide +kernel
theorem dX8_init_75 : decode cX8_init 75 = .ok (.aload_n 0, 1) := by decide +kernel
theorem dX8_init_76 : decode cX8_init 76 = .ok (.bipush 24, 2) := by decide +kernel
theorem dX8_init_78 : decode cX8_init 78 = .ok (.newarray .int, 2) := by decide +kernel
theorem dX8_init_80 : decode cX8_init 80 = .ok (.putfield 37, 3) := by decide +kernel
theorem dX8_init_83 : decode cX8_init 83 = .ok (.aload_n 0, 1) := by decide +kernel
theorem dX8_init_84 : decode cX8_init 84 = .ok (.bipush 24, 2) := by decide +kernel
theorem dX8_init_86 : decode cX8_init 86 = .ok (.newarray .int, 2) := by decide +kernel
theorem dX8_init_88 : decode cX8_init 88 = .ok (.putfield 40, 3) := by decide +kernel
theorem dX8_init_91 : decode cX8_init 91 = .ok (.aload_n 0, 1) := by decide +kernel
theorem dX8_init_92 : decode cX8_init 92 = .ok (.bipush 10, 2) := by decide +kernel
theorem dX8_init_94 : decode cX8_init 94 = .ok (.newarray .boolean, 2) := by decide +kernel
theorem dX8_init_96 : decode cX8_init 96 = .ok (.putfield 43, 3) := by decide +kernel
theorem dX8_init_99 : decode cX8_init 99 = .ok (.aload_n 0, 1) := by decide +kernel
theorem dX8_init_100 : decode cX8_init 100 = .ok (.bipush 10, 2) := by decide +kernel
theorem dX8_init_102 : decode cX8_init 102 = .ok (.newarray .int, 2) := by decide +kernel
theorem dX8_init_104 : decode cX8_init 104 = .ok (.putfield 47, 3) := by decide +kernel
theorem dX8_init_107 : decode cX8_init 107 = .ok (.aload_n 0, 1) := by decide +kernel
theorem dX8_init_108 : decode cX8_init 108 = .ok (.bipush 10, 2) := by decide +kernel
theorem dX8_init_110 : decode cX8_init 110 = .ok (.newarray .int, 2) := by decide +kernel
theorem dX8_init_112 : decode cX8_init 112 = .ok (.putfield 50, 3) := by decide +kernel
theorem dX8_init_115 : decode cX8_init 115 = .ok (.aload_n 0, 1) := by decide +kernel
theorem dX8_init_116 : decode cX8_init 116 = .ok (.bipush 10, 2) := by decide +kernel
theorem dX8_init_118 : decode cX8_init 118 = .ok (.newarray .int, 2) := by decide +kernel
theorem dX8_init_120 : decode cX8_init 120 = .ok (.putfield 53, 3) := by decide +kernel
theorem dX8_init_123 : decode cX8_init 123 = .ok (.aload_n 0, 1) := by decide +kernel
theorem dX8_init_124 : decode cX8_init 124 = .ok (.bipush 10, 2) := by decide +kernel
theorem dX8_init_126 : decode cX8_init 126 = .ok (.newarray .int, 2) := by decide +kernel
theorem dX8_init_128 : decode cX8_init 128 = .ok (.putfield 56, 3) := by decide +kernel
theorem dX8_init_131 : decode cX8_init 131 = .ok (.aload_n 0, 1) := by decide +kernel
theorem dX8_init_132 : decode cX8_init 132 = .ok (.bipush 10, 2) := by decide +kernel
theorem dX8_init_134 : decode cX8_init 134 = .ok (.putfield 59, 3) := by decide +kernel
theorem dX8_init_137 : decode cX8_init 137 = .ok (.aload_n 0, 1) := by decide +kernel
theorem dX8_init_138 : decode cX8_init 138 = .ok (.bipush 25, 2) := by decide +kernel
theorem dX8_init_140 : decode cX8_init 140 = .ok (.putfield 63, 3) := by decide +kernel
theorem dX8_init_143 : decode cX8_init 143 = .ok (.aload_n 0, 1) := by decide +kernel
theorem dX8_init_144 : decode cX8_init 144 = .ok (.bipush 30, 2) := by decide +kernel
theorem dX8_init_146 : decode cX8_init 146 = .ok (.newarray .int, 2) := by decide +kernel
theorem dX8_init_148 : decode cX8_init 148 = .ok (.putfield 66, 3) := by decide +kernel
theorem dX8_init_151 : decode cX8_init 151 = .ok (.aload_n 0, 1) := by decide +kernel
theorem dX8_init_152 : decode cX8_init 152 = .ok (.bipush 6, 2) := by decide +kernel
theorem dX8_init_154 : decode cX8_init 154 = .ok (.newarray .int, 2) := by decide +kernel
theorem dX8_init_156 : decode cX8_init 156 = .ok (.putfield 69, 3) := by decide +kernel
theorem dX8_init_159 : decode cX8_init 159 = .ok (.aload_n 0, 1) := by decide +kernel
theorem dX8_init_160 : decode cX8_init 160 = .ok (.sipush 169, 3) := by decide +kernel
theorem dX8_init_163 : decode cX8_init 163 = .ok (.newarray .long, 2) := by decide +kernel
theorem dX8_init_165 : decode cX8_init 165 = .ok (.putfield 72, 3) := by decide +kernel
theorem dX8_init_168 : decode cX8_init 168 = .ok (.aload_n 0, 1) := by decide +kernel
theorem dX8_init_169 : decode cX8_init 169 = .ok (.sipush 1024, 3) := by decide +kernel
theorem dX8_init_172 : decode cX8_init 172 = .ok (.newarray .int, 2) := by decide +kernel
theorem dX8_init_174 : decode cX8_init 174 = .ok (.putfield 76, 3) := by decide +kernel
theorem dX8_init_177 : decode cX8_init 177 = .ok (.return_, 1) := by decide +kernel
theorem dX8_finding_0 : decode cX8_finding 0 = .ok (.aload_n 0, 1) := by decide +kernel
theorem dX8_finding_1 : decode cX8_finding 1 = .ok (.getfield 69, 3) := by decide +kernel
theorem dX8_finding_4 : decode cX8_finding 4 = .ok (.iload_n 1, 1) := by decide +kernel
theorem dX8_finding_5 : decode cX8_finding 5 = .ok (.dup2, 1) := by decide +kernel
theorem dX8_finding_6 : decode cX8_finding 6 = .ok (.iaload, 1) := by decide +kernel
theorem dX8_finding_7 : decode cX8_finding 7 = .ok (.iconst 1, 1) := by decide +kernel
theorem dX8_finding_8 : decode cX8_finding 8 = .ok (.iadd, 1) := by decide +kernel
theorem dX8_finding_9 : decode cX8_finding 9 = .ok (.iastore, 1) := by decide +kernel
theorem dX8_finding_10 : decode cX8_finding 10 = .ok (.ldc2_w 79, 3) := by decide +kernel
theorem dX8_finding_13 : decode cX8_finding 13 = .ok (.iload_n 1, 1) := by decide +kernel
theorem dX8_finding_14 : decode cX8_finding 14 = .ok (.i2l, 1) := by decide +kernel
theorem dX8_finding_15 : decode cX8_finding 15 = .ok (.lsub, 1) := by decide +kernel
theorem dX8_finding_16 : decode cX8_finding 16 = .ok (.lreturn, 1) := by decide +kernel
theorem dX8_isIn_0 : decode cX8_isIn 0 = .ok (.iload_n 0, 1) := by decide +kernel
theorem dX8_isIn_1 : decode cX8_isIn 1 = .ok (.iload_n 1, 1) := by decide +kernel
theorem dX8_isIn_2 : decode cX8_isIn 2 = .ok (.if_icmp .lt 12, 3) := by decide +kernel
theorem dX8_isIn_5 : decode cX8_isIn 5 = .ok (.iload_n 0, 1) := by decide +kernel
theorem dX8_isIn_6 : decode cX8_isIn 6 = .ok (.iload_n 2, 1) := by decide +kernel
theorem dX8_isIn_7 : decode cX8_isIn 7 = .ok (.if_icmp .gt 7, 3) := by decide +kernel
theorem dX8_isIn_10 : decode cX8_isIn 10 = .ok (.iconst 1, 1) := by decide +kernel
theorem dX8_isIn_11 : decode cX8_isIn 11 = .ok (.goto 4, 3) := by decide +kernel
theorem dX8_isIn_14 : decode cX8_isIn 14 = .ok (.iconst 0, 1) := by decide +kernel
theorem dX8_isIn_15 : decode cX8_isIn 15 = .ok (.ireturn, 1) := by decide +kernel
set_option maxRecDepth 20000 in
theorem ggX8_isClock_X8_isIn : GoodIn wsX8_isClock wsX8_isIn := goodIn_r _ [4] (by decide +kernel) (by decide +kernel)
set_option maxRecDepth 20000 in
theorem gX8_isClock_X8_isIn : GoodIn wsX8_isClock (va_wsS RX8 81 yX8_isIn wsX8_isIn) := goodIn_app (goodIn_of _ (by decide +kernel)) ggX8_isClock_X8_isIn
theorem dX8_isClock_0 : decode cX8_isClock 0 = .ok (.iload_n 0, 1) := by decide +kernel
theorem dX8_isClock_1 : decode cX8_isClock 1 = .ok (.iconst 0, 1) := by decide +kernel
theorem dX8_isClock_2 : decode cX8_isClock 2 = .ok (.iconst 3, 1) := by decide +kernel
theorem dX8_isClock_3 : decode cX8_isClock 3 = .ok (.invokestatic 81, 3) := by decide +kernel
theorem dX8_isClock_6 : decode cX8_isClock 6 = .ok (.ireturn, 1) := by decide +kernel
theorem dX8_isTrace_0 : decode cX8_isTrace 0 = .ok (.iload_n 1, 1) := by decide +kernel
theorem dX8_isTrace_1 : decode cX8_isTrace 1 = .ok (.ifCond .lt 15, 3) := by decide +kernel
theorem dX8_isTrace_4 : decode cX8_isTrace 4 = .ok (.iload_n 1, 1) := by decide +kernel
theorem dX8_isTrace_5 : decode cX8_isTrace 5 = .ok (.aload_n 0, 1) := by decide +kernel
theorem dX8_isTrace_6 : decode cX8_isTrace 6 = .ok (.getfield 85, 3) := by decide +kernel
theorem dX8_isTrace_9 : decode cX8_isTrace 9 = .ok (.if_icmp .ge 7, 3) := by decide +kernel
theorem dX8_isTrace_12 : decode cX8_isTrace 12 = .ok (.iconst 1, 1) := by decide +kernel
theorem dX8_isTrace_13 : decode cX8_isTrace 13 = .ok (.goto 4, 3) := by decide +kernel
theorem dX8_isTrace_16 : decode cX8_isTrace 16 = .ok (.iconst 0, 1) := by decide +kernel
theorem dX8_isTrace_17 : decode cX8_isTrace 17 = .ok (.ireturn, 1) := by decide +kernel
set_option maxRecDepth 20000 in
theorem ggX8_piece_X8_isClock : GoodIn wsX8_piece wsX8_isClock := goodIn_r _ [11, 12, 13, 10, 14] (by decide +kernel) (by decide +kernel)
set_option maxRecDepth 20000 in
theorem gX8_piece_X8_isClock : GoodIn wsX8_piece (va_wsS RX8 88 yX8_isClock wsX8_isClock) := goodIn_app (goodIn_of _ (by decide +kernel)) ggX8_piece_X8_isClock
set_option maxRecDepth 20000 in
theorem ggX8_piece_X8_isIn : GoodIn wsX8_piece wsX8_isIn := goodIn_r _ [14] (by decide +kernel) (by decide +kernel)
set_option maxRecDepth 20000 in
theorem gX8_piece_X8_isIn : GoodIn wsX8_piece (va_wsS RX8 81 yX8_isIn wsX8_isIn) := goodIn_app (goodIn_of _ (by decide +kernel)) ggX8_piece_X8_isIn
set_option maxRecDepth 20000 in
theorem ggX8_piece_X8_finding : GoodIn wsX8_piece wsX8_finding := goodIn_r _ [18, 19, 20, 21, 22, 23, 24, 25, 26, 27, 28, 29, 30, 31, 32, 33, 34, 35, 36, 37, 38, 39, 40, 41, 42, 43, 44, 45, 46, 47] (by decide +kernel) (by decide +kernel)
set_option maxRecDepth 20000 in
theorem gX8_piece_X8_finding : GoodIn wsX8_piece (wsV RX8 95 RX8 yX8_finding wsX8_finding) := goodIn_app (goodIn_of _ (by decide +kernel)) ggX8_piece_X8_finding
theorem dX8_piece_0 : decode cX8_piece 0 = .ok (.iload_n 1, 1) := by decide +kernel
theorem dX8_piece_1 : decode cX8_piece 1 = .ok (.invokestatic 88, 3) := by decide +kernel
theorem dX8_piece_4 : decode cX8_piece 4 = .ok (.ifCond .eq 46, 3) := by decide +kernel
theorem dX8_piece_7 : decode cX8_piece 7 = .ok (.iload_n 2, 1) := by decide +kernel
theorem dX8_piece_8 : decode cX8_piece 8 = .ok (.iconst 0, 1) := by decide +kernel
theorem dX8_piece_9 : decode cX8_piece 9 = .ok (.ldc 92, 2) := by decide +kernel
theorem dX8_piece_11 : decode cX8_piece 11 = .ok (.invokestatic 81, 3) := by decide +kernel
theorem dX8_piece_14 : decode cX8_piece 14 = .ok (.ifCond .eq 36, 3) := by decide +kernel
theorem dX8_piece_17 : decode cX8_piece 17 = .ok (.iload_n 3, 1) := by decide +kernel
theorem dX8_piece_18 : decode cX8_piece 18 = .ok (.ldc 93, 2) := by decide +kernel
theorem dX8_piece_20 : decode cX8_piece 20 = .ok (.ldc 94, 2) := by decide +kernel
theorem dX8_piece_22 : decode cX8_piece 22 = .ok (.invokestatic 81, 3) := by decide +kernel
theorem dX8_piece_25 : decode cX8_piece 25 = .ok (.ifCond .eq 25, 3) := by decide +kernel
theorem dX8_piece_28 : decode cX8_piece 28 = .ok (.iload 4, 2) := by decide +kernel
theorem dX8_piece_30 : decode cX8_piece 30 = .ok (.ldc 93, 2) := by decide +kernel
theorem dX8_piece_32 : decode cX8_piece 32 = .ok (.ldc 94, 2) := by decide +kernel
theorem dX8_piece_34 : decode cX8_piece 34 = .ok (.invokestatic 81, 3) := by decide +kernel
theorem dX8_piece_37 : decode cX8_piece 37 = .ok (.ifCond .eq 13, 3) := by decide +kernel
theorem dX8_piece_40 : decode cX8_piece 40 = .ok (.iload_n 3, 1) := by decide +kernel
theorem dX8_piece_41 : decode cX8_piece 41 = .ok (.iload 4, 2) := by decide +kernel
theorem dX8_piece_43 : decode cX8_piece 43 = .ok (.if_icmp .gt 7, 3) := by decide +kernel
theorem dX8_piece_46 : decode cX8_piece 46 = .ok (.iconst 1, 1) := by decide +kernel
theorem dX8_piece_47 : decode cX8_piece 47 = .ok (.goto 4, 3) := by decide +kernel
theorem dX8_piece_50 : decode cX8_piece 50 = .ok (.iconst 0, 1) := by decide +kernel
theorem dX8_piece_51 : decode cX8_piece 51 = .ok (.istore 5, 2) := by decide +kernel
theorem dX8_piece_53 : decode cX8_piece 53 = .ok (.iload 5, 2) := by decide +kernel
theorem dX8_piece_55 : decode cX8_piece 55 = .ok (.ifCond .eq 33, 3) := by decide +kernel
theorem dX8_piece_58 : decode cX8_piece 58 = .ok (.aload_n 0, 1) := by decide +kernel
theorem dX8_piece_59 : decode cX8_piece 59 = .ok (.getfield 7, 3) := by decide +kernel
theorem dX8_piece_62 : decode cX8_piece 62 = .ok (.iload_n 1, 1) := by decide +kernel
theorem dX8_piece_63 : decode cX8_piece 63 = .ok (.iaload, 1) := by decide +kernel
theorem dX8_piece_64 : decode cX8_piece 64 = .ok (.ifCond .le 30, 3) := by decide +kernel
theorem dX8_piece_67 : decode cX8_piece 67 = .ok (.iload_n 2, 1) := by decide +kernel
theorem dX8_piece_68 : decode cX8_piece 68 = .ok (.aload_n 0, 1) := by decide +kernel
theorem dX8_piece_69 : decode cX8_piece 69 = .ok (.getfield 13, 3) := by decide +kernel
theorem dX8_piece_72 : decode cX8_piece 72 = .ok (.iconst 5, 1) := by decide +kernel
theorem dX8_piece_73 : decode cX8_piece 73 = .ok (.iload_n 1, 1) := by decide +kernel
theorem dX8_piece_74 : decode cX8_piece 74 = .ok (.imul, 1) := by decide +kernel
theorem dX8_piece_75 : decode cX8_piece 75 = .ok (.aload_n 0, 1) := by decide +kernel
theorem dX8_piece_76 : decode cX8_piece 76 = .ok (.getfield 7, 3) := by decide +kernel
theorem dX8_piece_79 : decode cX8_piece 79 = .ok (.iload_n 1, 1) := by decide +kernel
theorem dX8_piece_80 : decode cX8_piece 80 = .ok (.iaload, 1) := by decide +kernel
theorem dX8_piece_81 : decode cX8_piece 81 = .ok (.iadd, 1) := by decide +kernel
theorem dX8_piece_82 : decode cX8_piece 82 = .ok (.iconst 1, 1) := by decide +kernel
theorem dX8_piece_83 : decode cX8_piece 83 = .ok (.isub, 1) := by decide +kernel
theorem dX8_piece_84 : decode cX8_piece 84 = .ok (.iaload, 1) := by decide +kernel
theorem dX8_piece_85 : decode cX8_piece 85 = .ok (.if_icmp .gt 9, 3) := by decide +kernel
theorem dX8_piece_88 : decode cX8_piece 88 = .ok (.aload_n 0, 1) := by decide +kernel
theorem dX8_piece_89 : decode cX8_piece 89 = .ok (.iconst 1, 1) := by decide +kernel
theorem dX8_piece_90 : decode cX8_piece 90 = .ok (.invokevirtual 95, 3) := by decide +kernel
theorem dX8_piece_93 : decode cX8_piece 93 = .ok (.lreturn, 1) := by decide +kernel
theorem dX8_piece_94 : decode cX8_piece 94 = .ok (.aload_n 0, 1) := by decide +kernel
theorem dX8_piece_95 : decode cX8_piece 95 = .ok (.getfield 7, 3) := by decide +kernel
theorem dX8_piece_98 : decode cX8_piece 98 = .ok (.iload_n 1, 1) := by decide +kernel
theorem dX8_piece_99 : decode cX8_piece 99 = .ok (.iaload, 1) := by decide +kernel
theorem dX8_piece_100 : decode cX8_piece 100 = .ok (.iconst 5, 1) := by decide +kernel
theorem dX8_piece_101 : decode cX8_piece 101 = .ok (.if_icmp .ne 9, 3) := by decide +kernel
theorem dX8_piece_104 : decode cX8_piece 104 = .ok (.aload_n 0, 1) := by decide +kernel
theorem dX8_piece_105 : decode cX8_piece 105 = .ok (.iconst 4, 1) := by decide +kernel
theorem dX8_piece_106 : decode cX8_piece 106 = .ok (.invokevirtual 95, 3) := by decide +kernel
theorem dX8_piece_109 : decode cX8_piece 109 = .ok (.lreturn, 1) := by decide +kernel
theorem dX8_piece_110 : decode cX8_piece 110 = .ok (.iconst 5, 1) := by decide +kernel
theorem dX8_piece_111 : decode cX8_piece 111 = .ok (.iload_n 1, 1) := by decide +kernel
theorem dX8_piece_112 : decode cX8_piece 112 = .ok (.imul, 1) := by decide +kernel
theorem dX8_piece_113 : decode cX8_piece 113 = .ok (.aload_n 0, 1) := by decide +kernel
theorem dX8_piece_114 : decode cX8_piece 114 = .ok (.getfield 7, 3) := by decide +kernel
theorem dX8_piece_117 : decode cX8_piece 117 = .ok (.iload_n 1, 1) := by decide +kernel
theorem dX8_piece_118 : decode cX8_piece 118 = .ok (.iaload, 1) := by decide +kernel
theorem dX8_piece_119 : decode cX8_piece 119 = .ok (.iadd, 1) := by decide +kernel
theorem dX8_piece_120 : decode cX8_piece 120 = .ok (.istore 6, 2) := by decide +kernel
theorem dX8_piece_122 : decode cX8_piece 122 = .ok (.aload_n 0, 1) := by decide +kernel
theorem dX8_piece_123 : decode cX8_piece 123 = .ok (.getfield 13, 3) := by decide +kernel
theorem dX8_piece_126 : decode cX8_piece 126 = .ok (.iload 6, 2) := by decide +kernel
theorem dX8_piece_128 : decode cX8_piece 128 = .ok (.iload_n 2, 1) := by decide +kernel
theorem dX8_piece_129 : decode cX8_piece 129 = .ok (.iastore, 1) := by decide +kernel
theorem dX8_piece_130 : decode cX8_piece 130 = .ok (.aload_n 0, 1) := by decide +kernel
theorem dX8_piece_131 : decode cX8_piece 131 = .ok (.getfield 16, 3) := by decide +kernel
theorem dX8_piece_134 : decode cX8_piece 134 = .ok (.iload 6, 2) := by decide +kernel
theorem dX8_piece_136 : decode cX8_piece 136 = .ok (.iload_n 3, 1) := by decide +kernel
theorem dX8_piece_137 : decode cX8_piece 137 = .ok (.iastore, 1) := by decide +kernel
theorem dX8_piece_138 : decode cX8_piece 138 = .ok (.aload_n 0, 1) := by decide +kernel
theorem dX8_piece_139 : decode cX8_piece 139 = .ok (.getfield 19, 3) := by decide +kernel
theorem dX8_piece_142 : decode cX8_piece 142 = .ok (.iload 6, 2) := by decide +kernel
theorem dX8_piece_144 : decode cX8_piece 144 = .ok (.iload 4, 2) := by decide +kernel
theorem dX8_piece_146 : decode cX8_piece 146 = .ok (.iastore, 1) := by decide +kernel
theorem dX8_piece_147 : decode cX8_piece 147 = .ok (.aload_n 0, 1) := by decide +kernel
theorem dX8_piece_148 : decode cX8_piece 148 = .ok (.getfield 7, 3) := by decide +kernel
theorem dX8_piece_151 : decode cX8_piece 151 = .ok (.iload_n 1, 1) := by decide +kernel
theorem dX8_piece_152 : decode cX8_piece 152 = .ok (.dup2, 1) := by decide +kernel
theorem dX8_piece_153 : decode cX8_piece 153 = .ok (.iaload, 1) := by decide +kernel
theorem dX8_piece_154 : decode cX8_piece 154 = .ok (.iconst 1, 1) := by decide +kernel
theorem dX8_piece_155 : decode cX8_piece 155 = .ok (.iadd, 1) := by decide +kernel
theorem dX8_piece_156 : decode cX8_piece 156 = .ok (.iastore, 1) := by decide +kernel
theorem dX8_piece_157 : decode cX8_piece 157 = .ok (.aload_n 0, 1) := by decide +kernel
theorem dX8_piece_158 : decode cX8_piece 158 = .ok (.getfield 7, 3) := by decide +kernel
theorem dX8_piece_161 : decode cX8_piece 161 = .ok (.iload_n 1, 1) := by decide +kernel
theorem dX8_piece_162 : decode cX8_piece 162 = .ok (.iaload, 1) := by decide +kernel
theorem dX8_piece_163 : decode cX8_piece 163 = .ok (.i2l, 1) := by decide +kernel
theorem dX8_piece_164 : decode cX8_piece 164 = .ok (.lreturn, 1) := by decide +kernel
set_option maxRecDepth 20000 in
theorem ggX8_reset_X8_isClock : GoodIn wsX8_reset wsX8_isClock := goodIn_r _ [5, 6, 7, 4, 8] (by decide +kernel) (by decide +kernel)
set_option maxRecDepth 20000 in
theorem gX8_reset_X8_isClock : GoodIn wsX8_reset (va_wsS RX8 88 yX8_isClock wsX8_isClock) := goodIn_app (goodIn_of _ (by decide +kernel)) ggX8_reset_X8_isClock
set_option maxRecDepth 20000 in
theorem ggX8_reset_X8_finding : GoodIn wsX8_reset wsX8_finding := goodIn_r _ [12, 13, 14, 15, 16, 17, 18, 19, 20, 21, 22, 23, 24, 25, 26, 27, 28, 29, 30, 31, 32, 33, 34, 35, 36, 37, 38, 39, 40, 41] (by decide +kernel) (by decide +kernel)
set_option maxRecDepth 20000 in
theorem gX8_reset_X8_finding : GoodIn wsX8_reset (wsV RX8 95 RX8 yX8_finding wsX8_finding) := goodIn_app (goodIn_of _ (by decide +kernel)) ggX8_reset_X8_finding
theorem dX8_reset_0 : decode cX8_reset 0 = .ok (.iload_n 1, 1) := by decide +kernel
theorem dX8_reset_1 : decode cX8_reset 1 = .ok (.invokestatic 88, 3) := by decide +kernel
theorem dX8_reset_4 : decode cX8_reset 4 = .ok (.ifCond .ne 9, 3) := by decide +kernel
theorem dX8_reset_7 : decode cX8_reset 7 = .ok (.aload_n 0, 1) := by decide +kernel
theorem dX8_reset_8 : decode cX8_reset 8 = .ok (.iconst 1, 1) := by decide +kernel
theorem dX8_reset_9 : decode cX8_reset 9 = .ok (.invokevirtual 95, 3) := by decide +kernel
theorem dX8_reset_12 : decode cX8_reset 12 = .ok (.lreturn, 1) := by decide +kernel
theorem dX8_reset_13 : decode cX8_reset 13 = .ok (.aload_n 0, 1) := by decide +kernel
theorem dX8_reset_14 : decode cX8_reset 14 = .ok (.getfield 7, 3) := by decide +kernel
theorem dX8_reset_17 : decode cX8_reset 17 = .ok (.iload_n 1, 1) := by decide +kernel
theorem dX8_reset_18 : decode cX8_reset 18 = .ok (.iaload, 1) := by decide +kernel
theorem dX8_reset_19 : decode cX8_reset 19 = .ok (.istore_n 2, 1) := by decide +kernel
theorem dX8_reset_20 : decode cX8_reset 20 = .ok (.aload_n 0, 1) := by decide +kernel
theorem dX8_reset_21 : decode cX8_reset 21 = .ok (.getfield 7, 3) := by decide +kernel
theorem dX8_reset_24 : decode cX8_reset 24 = .ok (.iload_n 1, 1) := by decide +kernel
theorem dX8_reset_25 : decode cX8_reset 25 = .ok (.iconst 0, 1) := by decide +kernel
theorem dX8_reset_26 : decode cX8_reset 26 = .ok (.iastore, 1) := by decide +kernel
theorem dX8_reset_27 : decode cX8_reset 27 = .ok (.iload_n 2, 1) := by decide +kernel
theorem dX8_reset_28 : decode cX8_reset 28 = .ok (.i2l, 1) := by decide +kernel
theorem dX8_reset_29 : decode cX8_reset 29 = .ok (.lreturn, 1) := by decide +kernel
theorem dX8_pieceOf_0 : decode cX8_pieceOf 0 = .ok (.iconst (-1), 1) := by decide +kernel
theorem dX8_pieceOf_1 : decode cX8_pieceOf 1 = .ok (.istore_n 3, 1) := by decide +kernel
theorem dX8_pieceOf_2 : decode cX8_pieceOf 2 = .ok (.iconst 0, 1) := by decide +kernel
theorem dX8_pieceOf_3 : decode cX8_pieceOf 3 = .ok (.istore 4, 2) := by decide +kernel
theorem dX8_pieceOf_5 : decode cX8_pieceOf 5 = .ok (.iload 4, 2) := by decide +kernel
theorem dX8_pieceOf_7 : decode cX8_pieceOf 7 = .ok (.aload_n 0, 1) := by decide +kernel
theorem dX8_pieceOf_8 : decode cX8_pieceOf 8 = .ok (.getfield 7, 3) := by decide +kernel
theorem dX8_pieceOf_11 : decode cX8_pieceOf 11 = .ok (.iload_n 1, 1) := by decide +kernel
theorem dX8_pieceOf_12 : decode cX8_pieceOf 12 = .ok (.iaload, 1) := by decide +kernel
theorem dX8_pieceOf_13 : decode cX8_pieceOf 13 = .ok (.if_icmp .ge 35, 3) := by decide +kernel
theorem dX8_pieceOf_16 : decode cX8_pieceOf 16 = .ok (.aload_n 0, 1) := by decide +kernel
theorem dX8_pieceOf_17 : decode cX8_pieceOf 17 = .ok (.getfield 13, 3) := by decide +kernel
theorem dX8_pieceOf_20 : decode cX8_pieceOf 20 = .ok (.iconst 5, 1) := by decide +kernel
theorem dX8_pieceOf_21 : decode cX8_pieceOf 21 = .ok (.iload_n 1, 1) := by decide +kernel
theorem dX8_pieceOf_22 : decode cX8_pieceOf 22 = .ok (.imul, 1) := by decide +kernel
theorem dX8_pieceOf_23 : decode cX8_pieceOf 23 = .ok (.iload 4, 2) := by decide +kernel
theorem dX8_pieceOf_25 : decode cX8_pieceOf 25 = .ok (.iadd, 1) := by decide +kernel
theorem dX8_pieceOf_26 : decode cX8_pieceOf 26 = .ok (.iaload, 1) := by decide +kernel
theorem dX8_pieceOf_27 : decode cX8_pieceOf 27 = .ok (.iload_n 2, 1) := by decide +kernel
theorem dX8_pieceOf_28 : decode cX8_pieceOf 28 = .ok (.if_icmp .gt 12, 3) := by decide +kernel
theorem dX8_pieceOf_31 : decode cX8_pieceOf 31 = .ok (.iconst 5, 1) := by decide +kernel
theorem dX8_pieceOf_32 : decode cX8_pieceOf 32 = .ok (.iload_n 1, 1) := by decide +kernel
theorem dX8_pieceOf_33 : decode cX8_pieceOf 33 = .ok (.imul, 1) := by decide +kernel
theorem dX8_pieceOf_34 : decode cX8_pieceOf 34 = .ok (.iload 4, 2) := by decide +kernel
theorem dX8_pieceOf_36 : decode cX8_pieceOf 36 = .ok (.iadd, 1) := by decide +kernel
theorem dX8_pieceOf_37 : decode cX8_pieceOf 37 = .ok (.goto 4, 3) := by decide +kernel
theorem dX8_pieceOf_40 : decode cX8_pieceOf 40 = .ok (.iload_n 3, 1) := by decide +kernel
theorem dX8_pieceOf_41 : decode cX8_pieceOf 41 = .ok (.istore_n 3, 1) := by decide +kernel
theorem dX8_pieceOf_42 : decode cX8_pieceOf 42 = .ok (.iinc 4 1, 3) := by decide +kernel
theorem dX8_pieceOf_45 : decode cX8_pieceOf 45 = .ok (.goto (-40), 3) := by decide +kernel
theorem dX8_pieceOf_48 : decode cX8_pieceOf 48 = .ok (.iload_n 3, 1) := by decide +kernel
theorem dX8_pieceOf_49 : decode cX8_pieceOf 49 = .ok (.ireturn, 1) := by decide +kernel
set_option maxRecDepth 20000 in
theorem ggX8_offset_X8_isClock : GoodIn wsX8_offset wsX8_isClock := goodIn_r _ [7, 8, 9, 6, 10] (by decide +kernel) (by decide +kernel)
set_option maxRecDepth 20000 in
theorem gX8_offset_X8_isClock : GoodIn wsX8_offset (va_wsS RX8 88 yX8_isClock wsX8_isClock) := goodIn_app (goodIn_of _ (by decide +kernel)) ggX8_offset_X8_isClock
set_option maxRecDepth 20000 in
theorem ggX8_offset_X8_isIn : GoodIn wsX8_offset wsX8_isIn := goodIn_r _ [10] (by decide +kernel) (by decide +kernel)
set_option maxRecDepth 20000 in
theorem gX8_offset_X8_isIn : GoodIn wsX8_offset (va_wsS RX8 81 yX8_isIn wsX8_isIn) := goodIn_app (goodIn_of _ (by decide +kernel)) ggX8_offset_X8_isIn
set_option maxRecDepth 20000 in
theorem ggX8_offset_X8_finding : GoodIn wsX8_offset wsX8_finding := goodIn_r _ [14, 15, 16, 23, 24, 25, 26, 27, 28, 29, 30, 31, 32, 33, 34, 35, 36, 37, 38, 39, 40, 41, 42, 43, 44, 45, 46, 47, 48, 49] (by decide +kernel) (by decide +kernel)
set_option maxRecDepth 20000 in
theorem gX8_offset_X8_finding : GoodIn wsX8_offset (wsV RX8 95 RX8 yX8_finding wsX8_finding) := goodIn_app (goodIn_of _ (by decide +kernel)) ggX8_offset_X8_finding
set_option maxRecDepth 20000 in
theorem ggX8_offset_X8_pieceOf : GoodIn wsX8_offset wsX8_pieceOf := goodIn_r _ [20, 21, 22, 23, 24, 25, 26, 27, 28, 29, 30, 31, 32, 33, 34, 35, 36, 37, 38, 39, 40, 41, 42, 43, 44, 45, 46, 47, 48, 49] (by decide +kernel) (by decide +kernel)
set_option maxRecDepth 20000 in
theorem gX8_offset_X8_pieceOf : GoodIn wsX8_offset (wsV RX8 99 RX8 yX8_pieceOf wsX8_pieceOf) := goodIn_app (goodIn_of _ (by decide +kernel)) ggX8_offset_X8_pieceOf
