theorem dX0_init_0 : decode cX0_init 0 = .ok (.aload_n 0, 1) := by decide +kernel
theorem dX0_init_1 : decode cX0_init 1 = .ok (.invokespecial 3, 3) := by decide +kernel
theorem dX0_init_4 : decode cX0_init 4 = .ok (.aload_n 0, 1) := by decide +kernel
theorem dX0_init_5 : decode cX0_init 5 = .ok (.sipush 169, 3) := by decide +kernel
theorem dX0_init_8 : decode cX0_init 8 = .ok (.newarray .long, 2) := by decide +kernel
theorem dX0_init_10 : decode cX0_init 10 = .ok (.putfield 11, 3) := by decide +kernel
theorem dX0_init_13 : decode cX0_init 13 = .ok (.aload_n 0, 1) := by decide +kernel
theorem dX0_init_14 : decode cX0_init 14 = .ok (.iconst 1, 1) := by decide +kernel
theorem dX0_init_15 : decode cX0_init 15 = .ok (.putfield 15, 3) := by decide +kernel
theorem dX0_init_18 : decode cX0_init 18 = .ok (.return_, 1) := by decide +kernel
theorem dX0_nodes_0 : decode cX0_nodes 0 = .ok (.aload_n 0, 1) := by decide +kernel
theorem dX0_nodes_1 : decode cX0_nodes 1 = .ok (.getfield 15, 3) := by decide +kernel
theorem dX0_nodes_4 : decode cX0_nodes 4 = .ok (.ireturn, 1) := by decide +kernel
set_option maxRecDepth 20000 in
theorem ggX0_loosen_J7_fill_d0a16 : GoodIn wsX0_loosen wsJ7_fill_d0a16 := goodIn_r _ [14] (by decide +kernel) (by decide +kernel)
set_option maxRecDepth 20000 in
theorem gX0_loosen_J7_fill_d0a16 : GoodIn wsX0_loosen (va_wsS RX0 30 yJ7_fill_d0a16 wsJ7_fill_d0a16) := goodIn_app (goodIn_of _ (by decide +kernel)) ggX0_loosen_J7_fill_d0a16
theorem dX0_loosen_0 : decode cX0_loosen 0 = .ok (.aload_n 0, 1) := by decide +kernel
theorem dX0_loosen_1 : decode cX0_loosen 1 = .ok (.iconst 1, 1) := by decide +kernel
theorem dX0_loosen_2 : decode cX0_loosen 2 = .ok (.iload_n 1, 1) := by decide +kernel
theorem dX0_loosen_3 : decode cX0_loosen 3 = .ok (.bipush 13, 2) := by decide +kernel
theorem dX0_loosen_5 : decode cX0_loosen 5 = .ok (.invokestatic 19, 3) := by decide +kernel
theorem dX0_loosen_8 : decode cX0_loosen 8 = .ok (.invokestatic 25, 3) := by decide +kernel
theorem dX0_loosen_11 : decode cX0_loosen 11 = .ok (.putfield 15, 3) := by decide +kernel
theorem dX0_loosen_14 : decode cX0_loosen 14 = .ok (.aload_n 0, 1) := by decide +kernel
theorem dX0_loosen_15 : decode cX0_loosen 15 = .ok (.getfield 11, 3) := by decide +kernel
theorem dX0_loosen_18 : decode cX0_loosen 18 = .ok (.ldc2_w 28, 3) := by decide +kernel
theorem dX0_loosen_21 : decode cX0_loosen 21 = .ok (.invokestatic 30, 3) := by decide +kernel
theorem dX0_loosen_24 : decode cX0_loosen 24 = .ok (.iconst 0, 1) := by decide +kernel
theorem dX0_loosen_25 : decode cX0_loosen 25 = .ok (.istore_n 2, 1) := by decide +kernel
theorem dX0_loosen_26 : decode cX0_loosen 26 = .ok (.iload_n 2, 1) := by decide +kernel
theorem dX0_loosen_27 : decode cX0_loosen 27 = .ok (.aload_n 0, 1) := by decide +kernel
theorem dX0_loosen_28 : decode cX0_loosen 28 = .ok (.getfield 15, 3) := by decide +kernel
theorem dX0_loosen_31 : decode cX0_loosen 31 = .ok (.if_icmp .ge 21, 3) := by decide +kernel
theorem dX0_loosen_34 : decode cX0_loosen 34 = .ok (.aload_n 0, 1) := by decide +kernel
theorem dX0_loosen_35 : decode cX0_loosen 35 = .ok (.getfield 11, 3) := by decide +kernel
theorem dX0_loosen_38 : decode cX0_loosen 38 = .ok (.iload_n 2, 1) := by decide +kernel
theorem dX0_loosen_39 : decode cX0_loosen 39 = .ok (.bipush 13, 2) := by decide +kernel
theorem dX0_loosen_41 : decode cX0_loosen 41 = .ok (.imul, 1) := by decide +kernel
theorem dX0_loosen_42 : decode cX0_loosen 42 = .ok (.iload_n 2, 1) := by decide +kernel
theorem dX0_loosen_43 : decode cX0_loosen 43 = .ok (.iadd, 1) := by decide +kernel
theorem dX0_loosen_44 : decode cX0_loosen 44 = .ok (.lconst 0, 1) := by decide +kernel
theorem dX0_loosen_45 : decode cX0_loosen 45 = .ok (.lastore, 1) := by decide +kernel
theorem dX0_loosen_46 : decode cX0_loosen 46 = .ok (.iinc 2 1, 3) := by decide +kernel
theorem dX0_loosen_49 : decode cX0_loosen 49 = .ok (.goto (-23), 3) := by decide +kernel
theorem dX0_loosen_52 : decode cX0_loosen 52 = .ok (.return_, 1) := by decide +kernel
set_option maxRecDepth 20000 in
theorem ggX0_atMost_X0_areNodes : GoodIn wsX0_atMost wsX0_areNodes := goodIn_r _ [6, 7, 8, 9, 10, 11, 12] (by decide +kernel) (by decide +kernel)
set_option maxRecDepth 20000 in
theorem gX0_atMost_X0_areNodes : GoodIn wsX0_atMost (wsV RX0 36 RX0 yX0_areNodes wsX0_areNodes) := goodIn_app (goodIn_of _ (by decide +kernel)) ggX0_atMost_X0_areNodes
theorem dX0_atMost_0 : decode cX0_atMost 0 = .ok (.aload_n 0, 1) := by decide +kernel
theorem dX0_atMost_1 : decode cX0_atMost 1 = .ok (.iload_n 1, 1) := by decide +kernel
theorem dX0_atMost_2 : decode cX0_atMost 2 = .ok (.iload_n 2, 1) := by decide +kernel
theorem dX0_atMost_3 : decode cX0_atMost 3 = .ok (.invokevirtual 36, 3) := by decide +kernel
theorem dX0_atMost_6 : decode cX0_atMost 6 = .ok (.ifCond .eq 31, 3) := by decide +kernel
theorem dX0_atMost_9 : decode cX0_atMost 9 = .ok (.lload_n 3, 1) := by decide +kernel
theorem dX0_atMost_10 : decode cX0_atMost 10 = .ok (.aload_n 0, 1) := by decide +kernel
theorem dX0_atMost_11 : decode cX0_atMost 11 = .ok (.getfield 11, 3) := by decide +kernel
theorem dX0_atMost_14 : decode cX0_atMost 14 = .ok (.iload_n 1, 1) := by decide +kernel
theorem dX0_atMost_15 : decode cX0_atMost 15 = .ok (.bipush 13, 2) := by decide +kernel
theorem dX0_atMost_17 : decode cX0_atMost 17 = .ok (.imul, 1) := by decide +kernel
theorem dX0_atMost_18 : decode cX0_atMost 18 = .ok (.iload_n 2, 1) := by decide +kernel
theorem dX0_atMost_19 : decode cX0_atMost 19 = .ok (.iadd, 1) := by decide +kernel
theorem dX0_atMost_20 : decode cX0_atMost 20 = .ok (.laload, 1) := by decide +kernel
theorem dX0_atMost_21 : decode cX0_atMost 21 = .ok (.lcmp, 1) := by decide +kernel
theorem dX0_atMost_22 : decode cX0_atMost 22 = .ok (.ifCond .ge 15, 3) := by decide +kernel
theorem dX0_atMost_25 : decode cX0_atMost 25 = .ok (.aload_n 0, 1) := by decide +kernel
theorem dX0_atMost_26 : decode cX0_atMost 26 = .ok (.getfield 11, 3) := by decide +kernel
theorem dX0_atMost_29 : decode cX0_atMost 29 = .ok (.iload_n 1, 1) := by decide +kernel
theorem dX0_atMost_30 : decode cX0_atMost 30 = .ok (.bipush 13, 2) := by decide +kernel
theorem dX0_atMost_32 : decode cX0_atMost 32 = .ok (.imul, 1) := by decide +kernel
theorem dX0_atMost_33 : decode cX0_atMost 33 = .ok (.iload_n 2, 1) := by decide +kernel
theorem dX0_atMost_34 : decode cX0_atMost 34 = .ok (.iadd, 1) := by decide +kernel
theorem dX0_atMost_35 : decode cX0_atMost 35 = .ok (.lload_n 3, 1) := by decide +kernel
theorem dX0_atMost_36 : decode cX0_atMost 36 = .ok (.lastore, 1) := by decide +kernel
theorem dX0_atMost_37 : decode cX0_atMost 37 = .ok (.return_, 1) := by decide +kernel
set_option maxRecDepth 20000 in
theorem ggX0_between_X0_areNodes : GoodIn wsX0_between wsX0_areNodes := goodIn_r _ [7, 8, 9, 10, 11, 12, 13] (by decide +kernel) (by decide +kernel)
set_option maxRecDepth 20000 in
theorem gX0_between_X0_areNodes : GoodIn wsX0_between (wsV RX0 36 RX0 yX0_areNodes wsX0_areNodes) := goodIn_app (goodIn_of _ (by decide +kernel)) ggX0_between_X0_areNodes
theorem dX0_between_0 : decode cX0_between 0 = .ok (.aload_n 0, 1) := by decide +kernel
theorem dX0_between_1 : decode cX0_between 1 = .ok (.iload_n 1, 1) := by decide +kernel
theorem dX0_between_2 : decode cX0_between 2 = .ok (.iload_n 2, 1) := by decide +kernel
theorem dX0_between_3 : decode cX0_between 3 = .ok (.invokevirtual 36, 3) := by decide +kernel
theorem dX0_between_6 : decode cX0_between 6 = .ok (.ifCond .eq 17, 3) := by decide +kernel
theorem dX0_between_9 : decode cX0_between 9 = .ok (.aload_n 0, 1) := by decide +kernel
theorem dX0_between_10 : decode cX0_between 10 = .ok (.getfield 11, 3) := by decide +kernel
theorem dX0_between_13 : decode cX0_between 13 = .ok (.iload_n 1, 1) := by decide +kernel
theorem dX0_between_14 : decode cX0_between 14 = .ok (.bipush 13, 2) := by decide +kernel
theorem dX0_between_16 : decode cX0_between 16 = .ok (.imul, 1) := by decide +kernel
theorem dX0_between_17 : decode cX0_between 17 = .ok (.iload_n 2, 1) := by decide +kernel
theorem dX0_between_18 : decode cX0_between 18 = .ok (.iadd, 1) := by decide +kernel
theorem dX0_between_19 : decode cX0_between 19 = .ok (.laload, 1) := by decide +kernel
theorem dX0_between_20 : decode cX0_between 20 = .ok (.goto 6, 3) := by decide +kernel
theorem dX0_between_23 : decode cX0_between 23 = .ok (.ldc2_w 28, 3) := by decide +kernel
theorem dX0_between_26 : decode cX0_between 26 = .ok (.lreturn, 1) := by decide +kernel
set_option maxRecDepth 20000 in
theorem ggX0_tighten_X0_tightenRow : GoodIn wsX0_tighten wsX0_tightenRow := goodIn_r _ [6, 7, 8, 1, 13, 14] (by decide +kernel) (by decide +kernel)
set_option maxRecDepth 20000 in
theorem gX0_tighten_X0_tightenRow : GoodIn wsX0_tighten (wsV RX0 40 RX0 yX0_tightenRow wsX0_tightenRow) := goodIn_app (goodIn_of _ (by decide +kernel)) ggX0_tighten_X0_tightenRow
set_option maxRecDepth 20000 in
theorem ggX0_tighten_X0_isAnyBelowItself : GoodIn wsX0_tighten wsX0_isAnyBelowItself := goodIn_r _ [12, 1, 7, 13, 14] (by decide +kernel) (by decide +kernel)
set_option maxRecDepth 20000 in
theorem gX0_tighten_X0_isAnyBelowItself : GoodIn wsX0_tighten (wsV RX0 44 RX0 yX0_isAnyBelowItself wsX0_isAnyBelowItself) := goodIn_app (goodIn_of _ (by decide +kernel)) ggX0_tighten_X0_isAnyBelowItself
theorem dX0_tighten_0 : decode cX0_tighten 0 = .ok (.iconst 0, 1) := by decide +kernel
theorem dX0_tighten_1 : decode cX0_tighten 1 = .ok (.istore_n 1, 1) := by decide +kernel
theorem dX0_tighten_2 : decode cX0_tighten 2 = .ok (.iload_n 1, 1) := by decide +kernel
theorem dX0_tighten_3 : decode cX0_tighten 3 = .ok (.aload_n 0, 1) := by decide +kernel
theorem dX0_tighten_4 : decode cX0_tighten 4 = .ok (.getfield 15, 3) := by decide +kernel
theorem dX0_tighten_7 : decode cX0_tighten 7 = .ok (.if_icmp .ge 40, 3) := by decide +kernel
theorem dX0_tighten_10 : decode cX0_tighten 10 = .ok (.iconst 0, 1) := by decide +kernel
theorem dX0_tighten_11 : decode cX0_tighten 11 = .ok (.istore_n 2, 1) := by decide +kernel
theorem dX0_tighten_12 : decode cX0_tighten 12 = .ok (.iload_n 2, 1) := by decide +kernel
theorem dX0_tighten_13 : decode cX0_tighten 13 = .ok (.aload_n 0, 1) := by decide +kernel
theorem dX0_tighten_14 : decode cX0_tighten 14 = .ok (.getfield 15, 3) := by decide +kernel
theorem dX0_tighten_17 : decode cX0_tighten 17 = .ok (.if_icmp .ge 15, 3) := by decide +kernel
theorem dX0_tighten_20 : decode cX0_tighten 20 = .ok (.aload_n 0, 1) := by decide +kernel
theorem dX0_tighten_21 : decode cX0_tighten 21 = .ok (.iload_n 2, 1) := by decide +kernel
theorem dX0_tighten_22 : decode cX0_tighten 22 = .ok (.iload_n 1, 1) := by decide +kernel
theorem dX0_tighten_23 : decode cX0_tighten 23 = .ok (.invokevirtual 40, 3) := by decide +kernel
theorem dX0_tighten_26 : decode cX0_tighten 26 = .ok (.iinc 2 1, 3) := by decide +kernel
theorem dX0_tighten_29 : decode cX0_tighten 29 = .ok (.goto (-17), 3) := by decide +kernel
theorem dX0_tighten_32 : decode cX0_tighten 32 = .ok (.aload_n 0, 1) := by decide +kernel
theorem dX0_tighten_33 : decode cX0_tighten 33 = .ok (.invokevirtual 44, 3) := by decide +kernel
theorem dX0_tighten_36 : decode cX0_tighten 36 = .ok (.ifCond .eq 5, 3) := by decide +kernel
theorem dX0_tighten_39 : decode cX0_tighten 39 = .ok (.iconst 0, 1) := by decide +kernel
theorem dX0_tighten_40 : decode cX0_tighten 40 = .ok (.ireturn, 1) := by decide +kernel
theorem dX0_tighten_41 : decode cX0_tighten 41 = .ok (.iinc 1 1, 3) := by decide +kernel
theorem dX0_tighten_44 : decode cX0_tighten 44 = .ok (.goto (-42), 3) := by decide +kernel
theorem dX0_tighten_47 : decode cX0_tighten 47 = .ok (.iconst 1, 1) := by decide +kernel
theorem dX0_tighten_48 : decode cX0_tighten 48 = .ok (.ireturn, 1) := by decide +kernel
theorem dX0_tightenRow_0 : decode cX0_tightenRow 0 = .ok (.aload_n 0, 1) := by decide +kernel
theorem dX0_tightenRow_1 : decode cX0_tightenRow 1 = .ok (.getfield 11, 3) := by decide +kernel
theorem dX0_tightenRow_4 : decode cX0_tightenRow 4 = .ok (.iload_n 1, 1) := by decide +kernel
theorem dX0_tightenRow_5 : decode cX0_tightenRow 5 = .ok (.bipush 13, 2) := by decide +kernel
theorem dX0_tightenRow_7 : decode cX0_tightenRow 7 = .ok (.imul, 1) := by decide +kernel
theorem dX0_tightenRow_8 : decode cX0_tightenRow 8 = .ok (.iload_n 2, 1) := by decide +kernel
theorem dX0_tightenRow_9 : decode cX0_tightenRow 9 = .ok (.iadd, 1) := by decide +kernel
theorem dX0_tightenRow_10 : decode cX0_tightenRow 10 = .ok (.laload, 1) := by decide +kernel
theorem dX0_tightenRow_11 : decode cX0_tightenRow 11 = .ok (.lstore_n 3, 1) := by decide +kernel
theorem dX0_tightenRow_12 : decode cX0_tightenRow 12 = .ok (.lload_n 3, 1) := by decide +kernel
theorem dX0_tightenRow_13 : decode cX0_tightenRow 13 = .ok (.ldc2_w 28, 3) := by decide +kernel
theorem dX0_tightenRow_16 : decode cX0_tightenRow 16 = .ok (.lcmp, 1) := by decide +kernel
theorem dX0_tightenRow_17 : decode cX0_tightenRow 17 = .ok (.ifCond .lt 4, 3) := by decide +kernel
theorem dX0_tightenRow_20 : decode cX0_tightenRow 20 = .ok (.return_, 1) := by decide +kernel
theorem dX0_tightenRow_21 : decode cX0_tightenRow 21 = .ok (.iconst 0, 1) := by decide +kernel
theorem dX0_tightenRow_22 : decode cX0_tightenRow 22 = .ok (.istore 5, 2) := by decide +kernel
theorem dX0_tightenRow_24 : decode cX0_tightenRow 24 = .ok (.iload 5, 2) := by decide +kernel
theorem dX0_tightenRow_26 : decode cX0_tightenRow 26 = .ok (.aload_n 0, 1) := by decide +kernel
theorem dX0_tightenRow_27 : decode cX0_tightenRow 27 = .ok (.getfield 15, 3) := by decide +kernel
theorem dX0_tightenRow_30 : decode cX0_tightenRow 30 = .ok (.if_icmp .ge 68, 3) := by decide +kernel
theorem dX0_tightenRow_33 : decode cX0_tightenRow 33 = .ok (.aload_n 0, 1) := by decide +kernel
theorem dX0_tightenRow_34 : decode cX0_tightenRow 34 = .ok (.getfield 11, 3) := by decide +kernel
theorem dX0_tightenRow_37 : decode cX0_tightenRow 37 = .ok (.iload_n 2, 1) := by decide +kernel
theorem dX0_tightenRow_38 : decode cX0_tightenRow 38 = .ok (.bipush 13, 2) := by decide +kernel
theorem dX0_tightenRow_40 : decode cX0_tightenRow 40 = .ok (.imul, 1) := by decide +kernel
theorem dX0_tightenRow_41 : decode cX0_tightenRow 41 = .ok (.iload 5, 2) := by decide +kernel
theorem dX0_tightenRow_43 : decode cX0_tightenRow 43 = .ok (.iadd, 1) := by decide +kernel
theorem dX0_tightenRow_44 : decode cX0_tightenRow 44 = .ok (.laload, 1) := by decide +kernel
theorem dX0_tightenRow_45 : decode cX0_tightenRow 45 = .ok (.lstore 6, 2) := by decide +kernel
theorem dX0_tightenRow_47 : decode cX0_tightenRow 47 = .ok (.lload 6, 2) := by decide +kernel
theorem dX0_tightenRow_49 : decode cX0_tightenRow 49 = .ok (.ldc2_w 28, 3) := by decide +kernel
theorem dX0_tightenRow_52 : decode cX0_tightenRow 52 = .ok (.lcmp, 1) := by decide +kernel
theorem dX0_tightenRow_53 : decode cX0_tightenRow 53 = .ok (.ifCond .ge 39, 3) := by decide +kernel
theorem dX0_tightenRow_56 : decode cX0_tightenRow 56 = .ok (.lload_n 3, 1) := by decide +kernel
theorem dX0_tightenRow_57 : decode cX0_tightenRow 57 = .ok (.lload 6, 2) := by decide +kernel
theorem dX0_tightenRow_59 : decode cX0_tightenRow 59 = .ok (.ladd, 1) := by decide +kernel
theorem dX0_tightenRow_60 : decode cX0_tightenRow 60 = .ok (.aload_n 0, 1) := by decide +kernel
theorem dX0_tightenRow_61 : decode cX0_tightenRow 61 = .ok (.getfield 11, 3) := by decide +kernel
theorem dX0_tightenRow_64 : decode cX0_tightenRow 64 = .ok (.iload_n 1, 1) := by decide +kernel
theorem dX0_tightenRow_65 : decode cX0_tightenRow 65 = .ok (.bipush 13, 2) := by decide +kernel
theorem dX0_tightenRow_67 : decode cX0_tightenRow 67 = .ok (.imul, 1) := by decide +kernel
theorem dX0_tightenRow_68 : decode cX0_tightenRow 68 = .ok (.iload 5, 2) := by decide +kernel
theorem dX0_tightenRow_70 : decode cX0_tightenRow 70 = .ok (.iadd, 1) := by decide +kernel
theorem dX0_tightenRow_71 : decode cX0_tightenRow 71 = .ok (.laload, 1) := by decide +kernel
theorem dX0_tightenRow_72 : decode cX0_tightenRow 72 = .ok (.lcmp, 1) := by decide +kernel
theorem dX0_tightenRow_73 : decode cX0_tightenRow 73 = .ok (.ifCond .ge 19, 3) := by decide +kernel
theorem dX0_tightenRow_76 : decode cX0_tightenRow 76 = .ok (.aload_n 0, 1) := by decide +kernel
theorem dX0_tightenRow_77 : decode cX0_tightenRow 77 = .ok (.getfield 11, 3) := by decide +kernel
theorem dX0_tightenRow_80 : decode cX0_tightenRow 80 = .ok (.iload_n 1, 1) := by decide +kernel
theorem dX0_tightenRow_81 : decode cX0_tightenRow 81 = .ok (.bipush 13, 2) := by decide +kernel
theorem dX0_tightenRow_83 : decode cX0_tightenRow 83 = .ok (.imul, 1) := by decide +kernel
theorem dX0_tightenRow_84 : decode cX0_tightenRow 84 = .ok (.iload 5, 2) := by decide +kernel
theorem dX0_tightenRow_86 : decode cX0_tightenRow 86 = .ok (.iadd, 1) := by decide +kernel
theorem dX0_tightenRow_87 : decode cX0_tightenRow 87 = .ok (.lload_n 3, 1) := by decide +kernel
theorem dX0_tightenRow_88 : decode cX0_tightenRow 88 = .ok (.lload 6, 2) := by decide +kernel
theorem dX0_tightenRow_90 : decode cX0_tightenRow 90 = .ok (.ladd, 1) := by decide +kernel
theorem dX0_tightenRow_91 : decode cX0_tightenRow 91 = .ok (.lastore, 1) := by decide +kernel
theorem dX0_tightenRow_92 : decode cX0_tightenRow 92 = .ok (.iinc 5 1, 3) := by decide +kernel
theorem dX0_tightenRow_95 : decode cX0_tightenRow 95 = .ok (.goto (-71), 3) := by decide +kernel
theorem dX0_tightenRow_98 : decode cX0_tightenRow 98 = .ok (.return_, 1) := by decide +kernel
theorem dX0_isAnyBelowItself_0 : decode cX0_isAnyBelowItself 0 = .ok (.iconst 0, 1) := by decide +kernel
theorem dX0_isAnyBelowItself_1 : decode cX0_isAnyBelowItself 1 = .ok (.istore_n 1, 1) := by decide +kernel
theorem dX0_isAnyBelowItself_2 : decode cX0_isAnyBelowItself 2 = .ok (.iload_n 1, 1) := by decide +kernel
theorem dX0_isAnyBelowItself_3 : decode cX0_isAnyBelowItself 3 = .ok (.aload_n 0, 1) := by decide +kernel
theorem dX0_isAnyBelowItself_4 : decode cX0_isAnyBelowItself 4 = .ok (.getfield 15, 3) := by decide +kernel
theorem dX0_isAnyBelowItself_7 : decode cX0_isAnyBelowItself 7 = .ok (.if_icmp .ge 27, 3) := by decide +kernel
theorem dX0_isAnyBelowItself_10 : decode cX0_isAnyBelowItself 10 = .ok (.aload_n 0, 1) := by decide +kernel
theorem dX0_isAnyBelowItself_11 : decode cX0_isAnyBelowItself 11 = .ok (.getfield 11, 3) := by decide +kernel
theorem dX0_isAnyBelowItself_14 : decode cX0_isAnyBelowItself 14 = .ok (.iload_n 1, 1) := by decide +kernel
theorem dX0_isAnyBelowItself_15 : decode cX0_isAnyBelowItself 15 = .ok (.bipush 13, 2) := by decide +kernel
theorem dX0_isAnyBelowItself_17 : decode cX0_isAnyBelowItself 17 = .ok (.imul, 1) := by decide +kernel
theorem dX0_isAnyBelowItself_18 : decode cX0_isAnyBelowItself 18 = .ok (.iload_n 1, 1) := by decide +kernel
theorem dX0_isAnyBelowItself_19 : decode cX0_isAnyBelowItself 19 = .ok (.iadd, 1) := by decide +kernel
theorem dX0_isAnyBelowItself_20 : decode cX0_isAnyBelowItself 20 = .ok (.laload, 1) := by decide +kernel
theorem dX0_isAnyBelowItself_21 : decode cX0_isAnyBelowItself 21 = .ok (.lconst 0, 1) := by decide +kernel
theorem dX0_isAnyBelowItself_22 : decode cX0_isAnyBelowItself 22 = .ok (.lcmp, 1) := by decide +kernel
theorem dX0_isAnyBelowItself_23 : decode cX0_isAnyBelowItself 23 = .ok (.ifCond .ge 5, 3) := by decide +kernel
theorem dX0_isAnyBelowItself_26 : decode cX0_isAnyBelowItself 26 = .ok (.iconst 1, 1) := by decide +kernel
theorem dX0_isAnyBelowItself_27 : decode cX0_isAnyBelowItself 27 = .ok (.ireturn, 1) := by decide +kernel
theorem dX0_isAnyBelowItself_28 : decode cX0_isAnyBelowItself 28 = .ok (.iinc 1 1, 3) := by decide +kernel
theorem dX0_isAnyBelowItself_31 : decode cX0_isAnyBelowItself 31 = .ok (.goto (-29), 3) := by decide +kernel
theorem dX0_isAnyBelowItself_34 : decode cX0_isAnyBelowItself 34 = .ok (.iconst 0, 1) := by decide +kernel
theorem dX0_isAnyBelowItself_35 : decode cX0_isAnyBelowItself 35 = .ok (.ireturn, 1) := by decide +kernel
set_option maxRecDepth 20000 in
theorem ggX0_areNodes_X7_isWithin : GoodIn wsX0_areNodes wsX7_isWithin := goodIn_r _ [4] (by decide +kernel) (by decide +kernel)
set_option maxRecDepth 20000 in
theorem gX0_areNodes_X7_isWithin_n48 : GoodIn wsX0_areNodes (wsX7_isWithin) := ggX0_areNodes_X7_isWithin
theorem dX0_areNodes_0 : decode cX0_areNodes 0 = .ok (.iload_n 1, 1) := by decide +kernel
theorem dX0_areNodes_1 : decode cX0_areNodes 1 = .ok (.iconst 0, 1) := by decide +kernel
theorem dX0_areNodes_2 : decode cX0_areNodes 2 = .ok (.aload_n 0, 1) := by decide +kernel
theorem dX0_areNodes_3 : decode cX0_areNodes 3 = .ok (.getfield 15, 3) := by decide +kernel
theorem dX0_areNodes_6 : decode cX0_areNodes 6 = .ok (.iconst 1, 1) := by decide +kernel
theorem dX0_areNodes_7 : decode cX0_areNodes 7 = .ok (.isub, 1) := by decide +kernel
theorem dX0_areNodes_8 : decode cX0_areNodes 8 = .ok (.invokestatic 48, 3) := by decide +kernel
theorem dX0_areNodes_11 : decode cX0_areNodes 11 = .ok (.ifCond .eq 21, 3) := by decide +kernel
theorem dX0_areNodes_14 : decode cX0_areNodes 14 = .ok (.iload_n 2, 1) := by decide +kernel
theorem dX0_areNodes_15 : decode cX0_areNodes 15 = .ok (.iconst 0, 1) := by decide +kernel
theorem dX0_areNodes_16 : decode cX0_areNodes 16 = .ok (.aload_n 0, 1) := by decide +kernel
theorem dX0_areNodes_17 : decode cX0_areNodes 17 = .ok (.getfield 15, 3) := by decide +kernel
theorem dX0_areNodes_20 : decode cX0_areNodes 20 = .ok (.iconst 1, 1) := by decide +kernel
theorem dX0_areNodes_21 : decode cX0_areNodes 21 = .ok (.isub, 1) := by decide +kernel
theorem dX0_areNodes_22 : decode cX0_areNodes 22 = .ok (.invokestatic 48, 3) := by decide +kernel
theorem dX0_areNodes_25 : decode cX0_areNodes 25 = .ok (.ifCond .eq 7, 3) := by decide +kernel
theorem dX0_areNodes_28 : decode cX0_areNodes 28 = .ok (.iconst 1, 1) := by decide +kernel
theorem dX0_areNodes_29 : decode cX0_areNodes 29 = .ok (.goto 4, 3) := by decide +kernel
theorem dX0_areNodes_32 : decode cX0_areNodes 32 = .ok (.iconst 0, 1) := by decide +kernel
theorem dX0_areNodes_33 : decode cX0_areNodes 33 = .ok (.ireturn, 1) := by decide +kernel
theorem dX1_init_0 : decode cX1_init 0 = .ok (.aload_n 0, 1) := by decide +kernel
theorem dX1_init_1 : decode cX1_init 1 = .ok (.invokespecial 3, 3) := by decide +kernel
theorem dX1_init_4 : decode cX1_init 4 = .ok (.aload_n 0, 1) := by decide +kernel
theorem dX1_init_5 : decode cX1_init 5 = .ok (.iconst 5, 1) := by decide +kernel
theorem dX1_init_6 : decode cX1_init 6 = .ok (.newarray .int, 2) := by decide +kernel
theorem dX1_init_8 : decode cX1_init 8 = .ok (.putfield 9, 3) := by decide +kernel
theorem dX1_init_11 : decode cX1_init 11 = .ok (.aload_n 0, 1) := by decide +kernel
theorem dX1_init_12 : decode cX1_init 12 = .ok (.iconst 5, 1) := by decide +kernel
theorem dX1_init_13 : decode cX1_init 13 = .ok (.newarray .int, 2) := by decide +kernel
theorem dX1_init_15 : decode cX1_init 15 = .ok (.putfield 15, 3) := by decide +kernel
theorem dX1_init_18 : decode cX1_init 18 = .ok (.aload_n 0, 1) := by decide +kernel
theorem dX1_init_19 : decode cX1_init 19 = .ok (.iconst 5, 1) := by decide +kernel
theorem dX1_init_20 : decode cX1_init 20 = .ok (.newarray .int, 2) := by decide +kernel
theorem dX1_init_22 : decode cX1_init 22 = .ok (.putfield 18, 3) := by decide +kernel
theorem dX1_init_25 : decode cX1_init 25 = .ok (.aload_n 0, 1) := by decide +kernel
theorem dX1_init_26 : decode cX1_init 26 = .ok (.iconst 0, 1) := by decide +kernel
theorem dX1_init_27 : decode cX1_init 27 = .ok (.putfield 21, 3) := by decide +kernel
theorem dX1_init_30 : decode cX1_init 30 = .ok (.return_, 1) := by decide +kernel
theorem dX1_isFull_0 : decode cX1_isFull 0 = .ok (.aload_n 0, 1) := by decide +kernel
theorem dX1_isFull_1 : decode cX1_isFull 1 = .ok (.getfield 21, 3) := by decide +kernel
theorem dX1_isFull_4 : decode cX1_isFull 4 = .ok (.iconst 5, 1) := by decide +kernel
theorem dX1_isFull_5 : decode cX1_isFull 5 = .ok (.if_icmp .lt 7, 3) := by decide +kernel
theorem dX1_isFull_8 : decode cX1_isFull 8 = .ok (.iconst 1, 1) := by decide +kernel
theorem dX1_isFull_9 : decode cX1_isFull 9 = .ok (.goto 4, 3) := by decide +kernel
theorem dX1_isFull_12 : decode cX1_isFull 12 = .ok (.iconst 0, 1) := by decide +kernel
theorem dX1_isFull_13 : decode cX1_isFull 13 = .ok (.ireturn, 1) := by decide +kernel
theorem dX1_isBehindAll_0 : decode cX1_isBehindAll 0 = .ok (.aload_n 0, 1) := by decide +kernel
theorem dX1_isBehindAll_1 : decode cX1_isBehindAll 1 = .ok (.getfield 21, 3) := by decide +kernel
theorem dX1_isBehindAll_4 : decode cX1_isBehindAll 4 = .ok (.ifCond .eq 18, 3) := by decide +kernel
theorem dX1_isBehindAll_7 : decode cX1_isBehindAll 7 = .ok (.iload_n 1, 1) := by decide +kernel
theorem dX1_isBehindAll_8 : decode cX1_isBehindAll 8 = .ok (.aload_n 0, 1) := by decide +kernel
theorem dX1_isBehindAll_9 : decode cX1_isBehindAll 9 = .ok (.getfield 9, 3) := by decide +kernel
theorem dX1_isBehindAll_12 : decode cX1_isBehindAll 12 = .ok (.aload_n 0, 1) := by decide +kernel
theorem dX1_isBehindAll_13 : decode cX1_isBehindAll 13 = .ok (.getfield 21, 3) := by decide +kernel
theorem dX1_isBehindAll_16 : decode cX1_isBehindAll 16 = .ok (.iconst 1, 1) := by decide +kernel
theorem dX1_isBehindAll_17 : decode cX1_isBehindAll 17 = .ok (.isub, 1) := by decide +kernel
theorem dX1_isBehindAll_18 : decode cX1_isBehindAll 18 = .ok (.iaload, 1) := by decide +kernel
theorem dX1_isBehindAll_19 : decode cX1_isBehindAll 19 = .ok (.if_icmp .le 7, 3) := by decide +kernel
theorem dX1_isBehindAll_22 : decode cX1_isBehindAll 22 = .ok (.iconst 1, 1) := by decide +kernel
theorem dX1_isBehindAll_23 : decode cX1_isBehindAll 23 = .ok (.goto 4, 3) := by decide +kernel
theorem dX1_isBehindAll_26 : decode cX1_isBehindAll 26 = .ok (.iconst 0, 1) := by decide +kernel
theorem dX1_isBehindAll_27 : decode cX1_isBehindAll 27 = .ok (.ireturn, 1) := by decide +kernel
set_option maxRecDepth 20000 in
theorem ggX1_append_X1_isFull : GoodIn wsX1_append wsX1_isFull := goodIn_r _ [9, 2, 10, 11, 12, 13] (by decide +kernel) (by decide +kernel)
set_option maxRecDepth 20000 in
theorem gX1_append_X1_isFull : GoodIn wsX1_append (wsV RX1 25 RX1 yX1_isFull wsX1_isFull) := goodIn_app (goodIn_of _ (by decide +kernel)) ggX1_append_X1_isFull
theorem dX1_append_0 : decode cX1_append 0 = .ok (.aload_n 0, 1) := by decide +kernel
theorem dX1_append_1 : decode cX1_append 1 = .ok (.invokevirtual 25, 3) := by decide +kernel
theorem dX1_append_4 : decode cX1_append 4 = .ok (.ifCond .ne 43, 3) := by decide +kernel
theorem dX1_append_7 : decode cX1_append 7 = .ok (.aload_n 0, 1) := by decide +kernel
theorem dX1_append_8 : decode cX1_append 8 = .ok (.getfield 9, 3) := by decide +kernel
theorem dX1_append_11 : decode cX1_append 11 = .ok (.aload_n 0, 1) := by decide +kernel
theorem dX1_append_12 : decode cX1_append 12 = .ok (.getfield 21, 3) := by decide +kernel
theorem dX1_append_15 : decode cX1_append 15 = .ok (.iload_n 1, 1) := by decide +kernel
theorem dX1_append_16 : decode cX1_append 16 = .ok (.iastore, 1) := by decide +kernel
theorem dX1_append_17 : decode cX1_append 17 = .ok (.aload_n 0, 1) := by decide +kernel
theorem dX1_append_18 : decode cX1_append 18 = .ok (.getfield 15, 3) := by decide +kernel
theorem dX1_append_21 : decode cX1_append 21 = .ok (.aload_n 0, 1) := by decide +kernel
theorem dX1_append_22 : decode cX1_append 22 = .ok (.getfield 21, 3) := by decide +kernel
theorem dX1_append_25 : decode cX1_append 25 = .ok (.iload_n 2, 1) := by decide +kernel
theorem dX1_append_26 : decode cX1_append 26 = .ok (.iastore, 1) := by decide +kernel
theorem dX1_append_27 : decode cX1_append 27 = .ok (.aload_n 0, 1) := by decide +kernel
theorem dX1_append_28 : decode cX1_append 28 = .ok (.getfield 18, 3) := by decide +kernel
theorem dX1_append_31 : decode cX1_append 31 = .ok (.aload_n 0, 1) := by decide +kernel
theorem dX1_append_32 : decode cX1_append 32 = .ok (.getfield 21, 3) := by decide +kernel
theorem dX1_append_35 : decode cX1_append 35 = .ok (.iload_n 3, 1) := by decide +kernel
theorem dX1_append_36 : decode cX1_append 36 = .ok (.iastore, 1) := by decide +kernel
theorem dX1_append_37 : decode cX1_append 37 = .ok (.aload_n 0, 1) := by decide +kernel
theorem dX1_append_38 : decode cX1_append 38 = .ok (.dup, 1) := by decide +kernel
theorem dX1_append_39 : decode cX1_append 39 = .ok (.getfield 21, 3) := by decide +kernel
theorem dX1_append_42 : decode cX1_append 42 = .ok (.iconst 1, 1) := by decide +kernel
theorem dX1_append_43 : decode cX1_append 43 = .ok (.iadd, 1) := by decide +kernel
theorem dX1_append_44 : decode cX1_append 44 = .ok (.putfield 21, 3) := by decide +kernel
theorem dX1_append_47 : decode cX1_append 47 = .ok (.aload_n 0, 1) := by decide +kernel
theorem dX1_append_48 : decode cX1_append 48 = .ok (.getfield 21, 3) := by decide +kernel
theorem dX1_append_51 : decode cX1_append 51 = .ok (.ireturn, 1) := by decide +kernel
theorem dX1_removeAll_0 : decode cX1_removeAll 0 = .ok (.aload_n 0, 1) := by decide +kernel
theorem dX1_removeAll_1 : decode cX1_removeAll 1 = .ok (.getfield 21, 3) := by decide +kernel
theorem dX1_removeAll_4 : decode cX1_removeAll 4 = .ok (.istore_n 1, 1) := by decide +kernel
theorem dX1_removeAll_5 : decode cX1_removeAll 5 = .ok (.aload_n 0, 1) := by decide +kernel
theorem dX1_removeAll_6 : decode cX1_removeAll 6 = .ok (.iconst 0, 1) := by decide +kernel
theorem dX1_removeAll_7 : decode cX1_removeAll 7 = .ok (.putfield 21, 3) := by decide +kernel
theorem dX1_removeAll_10 : decode cX1_removeAll 10 = .ok (.iload_n 1, 1) := by decide +kernel
theorem dX1_removeAll_11 : decode cX1_removeAll 11 = .ok (.ireturn, 1) := by decide +kernel
theorem dX1_placeOf_0 : decode cX1_placeOf 0 = .ok (.iconst (-1), 1) := by decide +kernel
theorem dX1_placeOf_1 : decode cX1_placeOf 1 = .ok (.istore_n 2, 1) := by decide +kernel
theorem dX1_placeOf_2 : decode cX1_placeOf 2 = .ok (.iconst 0, 1) := by decide +kernel
theorem dX1_placeOf_3 : decode cX1_placeOf 3 = .ok (.istore_n 3, 1) := by decide +kernel
theorem dX1_placeOf_4 : decode cX1_placeOf 4 = .ok (.iload_n 3, 1) := by decide +kernel
theorem dX1_placeOf_5 : decode cX1_placeOf 5 = .ok (.aload_n 0, 1) := by decide +kernel
theorem dX1_placeOf_6 : decode cX1_placeOf 6 = .ok (.getfield 21, 3) := by decide +kernel
theorem dX1_placeOf_9 : decode cX1_placeOf 9 = .ok (.if_icmp .ge 21, 3) := by decide +kernel
theorem dX1_placeOf_12 : decode cX1_placeOf 12 = .ok (.aload_n 0, 1) := by decide +kernel
theorem dX1_placeOf_13 : decode cX1_placeOf 13 = .ok (.getfield 9, 3) := by decide +kernel
theorem dX1_placeOf_16 : decode cX1_placeOf 16 = .ok (.iload_n 3, 1) := by decide +kernel
theorem dX1_placeOf_17 : decode cX1_placeOf 17 = .ok (.iaload, 1) := by decide +kernel
theorem dX1_placeOf_18 : decode cX1_placeOf 18 = .ok (.iload_n 1, 1) := by decide +kernel
theorem dX1_placeOf_19 : decode cX1_placeOf 19 = .ok (.if_icmp .gt 5, 3) := by decide +kernel
theorem dX1_placeOf_22 : decode cX1_placeOf 22 = .ok (.iload_n 3, 1) := by decide +kernel
theorem dX1_placeOf_23 : decode cX1_placeOf 23 = .ok (.istore_n 2, 1) := by decide +kernel
theorem dX1_placeOf_24 : decode cX1_placeOf 24 = .ok (.iinc 3 1, 3) := by decide +kernel
theorem dX1_placeOf_27 : decode cX1_placeOf 27 = .ok (.goto (-23), 3) := by decide +kernel
theorem dX1_placeOf_30 : decode cX1_placeOf 30 = .ok (.iload_n 2, 1) := by decide +kernel
theorem dX1_placeOf_31 : decode cX1_placeOf 31 = .ok (.ireturn, 1) := by decide +kernel
set_option maxRecDepth 20000 in
theorem ggX1_shiftAt_X7_isWithin : GoodIn wsX1_shiftAt wsX7_isWithin := goodIn_r _ [6] (by decide +kernel) (by decide +kernel)
set_option maxRecDepth 20000 in
theorem gX1_shiftAt_X7_isWithin_n29 : GoodIn wsX1_shiftAt (wsX7_isWithin) := ggX1_shiftAt_X7_isWithin
theorem dX1_shiftAt_0 : decode cX1_shiftAt 0 = .ok (.iload_n 1, 1) := by decide +kernel
theorem dX1_shiftAt_1 : decode cX1_shiftAt 1 = .ok (.iconst 0, 1) := by decide +kernel
theorem dX1_shiftAt_2 : decode cX1_shiftAt 2 = .ok (.aload_n 0, 1) := by decide +kernel
theorem dX1_shiftAt_3 : decode cX1_shiftAt 3 = .ok (.getfield 21, 3) := by decide +kernel
theorem dX1_shiftAt_6 : decode cX1_shiftAt 6 = .ok (.iconst 1, 1) := by decide +kernel
theorem dX1_shiftAt_7 : decode cX1_shiftAt 7 = .ok (.isub, 1) := by decide +kernel
theorem dX1_shiftAt_8 : decode cX1_shiftAt 8 = .ok (.invokestatic 29, 3) := by decide +kernel
theorem dX1_shiftAt_11 : decode cX1_shiftAt 11 = .ok (.ifCond .ne 5, 3) := by decide +kernel
theorem dX1_shiftAt_14 : decode cX1_shiftAt 14 = .ok (.iconst 0, 1) := by decide +kernel
theorem dX1_shiftAt_15 : decode cX1_shiftAt 15 = .ok (.ireturn, 1) := by decide +kernel
theorem dX1_shiftAt_16 : decode cX1_shiftAt 16 = .ok (.iload_n 2, 1) := by decide +kernel
theorem dX1_shiftAt_17 : decode cX1_shiftAt 17 = .ok (.ifCond .eq 12, 3) := by decide +kernel
theorem dX1_shiftAt_20 : decode cX1_shiftAt 20 = .ok (.aload_n 0, 1) := by decide +kernel
theorem dX1_shiftAt_21 : decode cX1_shiftAt 21 = .ok (.getfield 18, 3) := by decide +kernel
theorem dX1_shiftAt_24 : decode cX1_shiftAt 24 = .ok (.iload_n 1, 1) := by decide +kernel
theorem dX1_shiftAt_25 : decode cX1_shiftAt 25 = .ok (.iaload, 1) := by decide +kernel
theorem dX1_shiftAt_26 : decode cX1_shiftAt 26 = .ok (.goto 9, 3) := by decide +kernel
theorem dX1_shiftAt_29 : decode cX1_shiftAt 29 = .ok (.aload_n 0, 1) := by decide +kernel
theorem dX1_shiftAt_30 : decode cX1_shiftAt 30 = .ok (.getfield 15, 3) := by decide +kernel
theorem dX1_shiftAt_33 : decode cX1_shiftAt 33 = .ok (.iload_n 1, 1) := by decide +kernel
theorem dX1_shiftAt_34 : decode cX1_shiftAt 34 = .ok (.iaload, 1) := by decide +kernel
theorem dX1_shiftAt_35 : decode cX1_shiftAt 35 = .ok (.ireturn, 1) := by decide +kernel
theorem dX2_init_0 : decode cX2_init 0 = .ok (.aload_n 0, 1) := by decide +kernel
theorem dX2_init_1 : decode cX2_init 1 = .ok (.invokespecial 3, 3) := by decide +kernel
theorem dX2_init_4 : decode cX2_init 4 = .ok (.aload_n 0, 1) := by decide +kernel
theorem dX2_init_5 : decode cX2_init 5 = .ok (.bipush 10, 2) := by decide +kernel
theorem dX2_init_7 : decode cX2_init 7 = .ok (.newarray .int, 2) := by decide +kernel
theorem dX2_init_9 : decode cX2_init 9 = .ok (.putfield 9, 3) := by decide +kernel
theorem dX2_init_12 : decode cX2_init 12 = .ok (.aload_n 0, 1) := by decide +kernel
theorem dX2_init_13 : decode cX2_init 13 = .ok (.bipush 10, 2) := by decide +kernel
theorem dX2_init_15 : decode cX2_init 15 = .ok (.newarray .int, 2) := by decide +kernel
theorem dX2_init_17 : decode cX2_init 17 = .ok (.putfield 15, 3) := by decide +kernel
theorem dX2_init_20 : decode cX2_init 20 = .ok (.aload_n 0, 1) := by decide +kernel
theorem dX2_init_21 : decode cX2_init 21 = .ok (.bipush 10, 2) := by decide +kernel
theorem dX2_init_23 : decode cX2_init 23 = .ok (.newarray .int, 2) := by decide +kernel
theorem dX2_init_25 : decode cX2_init 25 = .ok (.putfield 18, 3) := by decide +kernel
theorem dX2_init_28 : decode cX2_init 28 = .ok (.aload_n 0, 1) := by decide +kernel
theorem dX2_init_29 : decode cX2_init 29 = .ok (.bipush 10, 2) := by decide +kernel
theorem dX2_init_31 : decode cX2_init 31 = .ok (.newarray .int, 2) := by decide +kernel
theorem dX2_init_33 : decode cX2_init 33 = .ok (.putfield 21, 3) := by decide +kernel
theorem dX2_init_36 : decode cX2_init 36 = .ok (.aload_n 0, 1) := by decide +kernel
theorem dX2_init_37 : decode cX2_init 37 = .ok (.iconst 0, 1) := by decide +kernel
theorem dX2_init_38 : decode cX2_init 38 = .ok (.putfield 24, 3) := by decide +kernel
theorem dX2_init_41 : decode cX2_init 41 = .ok (.aload_n 0, 1) := by decide +kernel
theorem dX2_init_42 : decode cX2_init 42 = .ok (.iconst 0, 1) := by decide +kernel
theorem dX2_init_43 : decode cX2_init 43 = .ok (.putfield 28, 3) := by decide +kernel
theorem dX2_init_46 : decode cX2_init 46 = .ok (.aload_n 0, 1) := by decide +kernel
theorem dX2_init_47 : decode cX2_init 47 = .ok (.iconst 0, 1) := by decide +kernel
theorem dX2_init_48 : decode cX2_init 48 = .ok (.putfield 31, 3) := by decide +kernel
theorem dX2_init_51 : decode cX2_init 51 = .ok (.aload_n 0, 1) := by decide +kernel
theorem dX2_init_52 : decode cX2_init 52 = .ok (.iconst 0, 1) := by decide +kernel
theorem dX2_init_53 : decode cX2_init 53 = .ok (.putfield 34, 3) := by decide +kernel
theorem dX2_init_56 : decode cX2_init 56 = .ok (.aload_n 0, 1) := by decide +kernel
theorem dX2_init_57 : decode cX2_init 57 = .ok (.iconst 0, 1) := by decide +kernel
theorem dX2_init_58 : decode cX2_init 58 = .ok (.putfield 37, 3) := by decide +kernel
theorem dX2_init_61 : decode cX2_init 61 = .ok (.return_, 1) := by decide +kernel
set_option maxRecDepth 20000 in
theorem ggX2_learn_X7_isWithin : GoodIn wsX2_learn wsX7_isWithin := goodIn_r _ [8] (by decide +kernel) (by decide +kernel)
set_option maxRecDepth 20000 in
theorem gX2_learn_X7_isWithin_n40 : GoodIn wsX2_learn (wsX7_isWithin) := ggX2_learn_X7_isWithin
theorem dX2_learn_0 : decode cX2_learn 0 = .ok (.iload_n 1, 1) := by decide +kernel
theorem dX2_learn_1 : decode cX2_learn 1 = .ok (.iconst 0, 1) := by decide +kernel
theorem dX2_learn_2 : decode cX2_learn 2 = .ok (.bipush 9, 2) := by decide +kernel
theorem dX2_learn_4 : decode cX2_learn 4 = .ok (.invokestatic 40, 3) := by decide +kernel
theorem dX2_learn_7 : decode cX2_learn 7 = .ok (.ifCond .eq 45, 3) := by decide +kernel
theorem dX2_learn_10 : decode cX2_learn 10 = .ok (.aload_n 0, 1) := by decide +kernel
theorem dX2_learn_11 : decode cX2_learn 11 = .ok (.getfield 9, 3) := by decide +kernel
theorem dX2_learn_14 : decode cX2_learn 14 = .ok (.iload_n 1, 1) := by decide +kernel
theorem dX2_learn_15 : decode cX2_learn 15 = .ok (.iload_n 2, 1) := by decide +kernel
theorem dX2_learn_16 : decode cX2_learn 16 = .ok (.iastore, 1) := by decide +kernel
theorem dX2_learn_17 : decode cX2_learn 17 = .ok (.aload_n 0, 1) := by decide +kernel
theorem dX2_learn_18 : decode cX2_learn 18 = .ok (.getfield 15, 3) := by decide +kernel
theorem dX2_learn_21 : decode cX2_learn 21 = .ok (.iload_n 1, 1) := by decide +kernel
theorem dX2_learn_22 : decode cX2_learn 22 = .ok (.iload_n 3, 1) := by decide +kernel
theorem dX2_learn_23 : decode cX2_learn 23 = .ok (.iastore, 1) := by decide +kernel
theorem dX2_learn_24 : decode cX2_learn 24 = .ok (.aload_n 0, 1) := by decide +kernel
theorem dX2_learn_25 : decode cX2_learn 25 = .ok (.getfield 18, 3) := by decide +kernel
theorem dX2_learn_28 : decode cX2_learn 28 = .ok (.iload_n 1, 1) := by decide +kernel
theorem dX2_learn_29 : decode cX2_learn 29 = .ok (.iload 4, 2) := by decide +kernel
theorem dX2_learn_31 : decode cX2_learn 31 = .ok (.iastore, 1) := by decide +kernel
theorem dX2_learn_32 : decode cX2_learn 32 = .ok (.aload_n 0, 1) := by decide +kernel
theorem dX2_learn_33 : decode cX2_learn 33 = .ok (.getfield 21, 3) := by decide +kernel
theorem dX2_learn_36 : decode cX2_learn 36 = .ok (.iload_n 1, 1) := by decide +kernel
theorem dX2_learn_37 : decode cX2_learn 37 = .ok (.iload 5, 2) := by decide +kernel
theorem dX2_learn_39 : decode cX2_learn 39 = .ok (.iastore, 1) := by decide +kernel
theorem dX2_learn_40 : decode cX2_learn 40 = .ok (.aload_n 0, 1) := by decide +kernel
theorem dX2_learn_41 : decode cX2_learn 41 = .ok (.dup, 1) := by decide +kernel
theorem dX2_learn_42 : decode cX2_learn 42 = .ok (.getfield 24, 3) := by decide +kernel
theorem dX2_learn_45 : decode cX2_learn 45 = .ok (.iconst 1, 1) := by decide +kernel
theorem dX2_learn_46 : decode cX2_learn 46 = .ok (.iload_n 1, 1) := by decide +kernel
theorem dX2_learn_47 : decode cX2_learn 47 = .ok (.ishl, 1) := by decide +kernel
theorem dX2_learn_48 : decode cX2_learn 48 = .ok (.ior, 1) := by decide +kernel
theorem dX2_learn_49 : decode cX2_learn 49 = .ok (.putfield 24, 3) := by decide +kernel
theorem dX2_learn_52 : decode cX2_learn 52 = .ok (.return_, 1) := by decide +kernel
set_option maxRecDepth 20000 in
theorem ggX2_unlearn_X7_isWithin : GoodIn wsX2_unlearn wsX7_isWithin := goodIn_r _ [4] (by decide +kernel) (by decide +kernel)
set_option maxRecDepth 20000 in
theorem gX2_unlearn_X7_isWithin_n40 : GoodIn wsX2_unlearn (wsX7_isWithin) := ggX2_unlearn_X7_isWithin
theorem dX2_unlearn_0 : decode cX2_unlearn 0 = .ok (.iload_n 1, 1) := by decide +kernel
theorem dX2_unlearn_1 : decode cX2_unlearn 1 = .ok (.iconst 0, 1) := by decide +kernel
theorem dX2_unlearn_2 : decode cX2_unlearn 2 = .ok (.bipush 9, 2) := by decide +kernel
theorem dX2_unlearn_4 : decode cX2_unlearn 4 = .ok (.invokestatic 40, 3) := by decide +kernel
theorem dX2_unlearn_7 : decode cX2_unlearn 7 = .ok (.ifCond .eq 17, 3) := by decide +kernel
theorem dX2_unlearn_10 : decode cX2_unlearn 10 = .ok (.aload_n 0, 1) := by decide +kernel
theorem dX2_unlearn_11 : decode cX2_unlearn 11 = .ok (.dup, 1) := by decide +kernel
theorem dX2_unlearn_12 : decode cX2_unlearn 12 = .ok (.getfield 24, 3) := by decide +kernel
theorem dX2_unlearn_15 : decode cX2_unlearn 15 = .ok (.iconst 1, 1) := by decide +kernel
theorem dX2_unlearn_16 : decode cX2_unlearn 16 = .ok (.iload_n 1, 1) := by decide +kernel
theorem dX2_unlearn_17 : decode cX2_unlearn 17 = .ok (.ishl, 1) := by decide +kernel
theorem dX2_unlearn_18 : decode cX2_unlearn 18 = .ok (.iconst (-1), 1) := by decide +kernel
theorem dX2_unlearn_19 : decode cX2_unlearn 19 = .ok (.ixor, 1) := by decide +kernel
theorem dX2_unlearn_20 : decode cX2_unlearn 20 = .ok (.iand, 1) := by decide +kernel
theorem dX2_unlearn_21 : decode cX2_unlearn 21 = .ok (.putfield 24, 3) := by decide +kernel
theorem dX2_unlearn_24 : decode cX2_unlearn 24 = .ok (.return_, 1) := by decide +kernel
set_option maxRecDepth 20000 in
theorem ggX2_isKnown_X7_isWithin : GoodIn wsX2_isKnown wsX7_isWithin := goodIn_r _ [4] (by decide +kernel) (by decide +kernel)
set_option maxRecDepth 20000 in
theorem gX2_isKnown_X7_isWithin_n40 : GoodIn wsX2_isKnown (wsX7_isWithin) := ggX2_isKnown_X7_isWithin
theorem dX2_isKnown_0 : decode cX2_isKnown 0 = .ok (.iload_n 1, 1) := by decide +kernel
theorem dX2_isKnown_1 : decode cX2_isKnown 1 = .ok (.iconst 0, 1) := by decide +kernel
theorem dX2_isKnown_2 : decode cX2_isKnown 2 = .ok (.bipush 9, 2) := by decide +kernel
theorem dX2_isKnown_4 : decode cX2_isKnown 4 = .ok (.invokestatic 40, 3) := by decide +kernel
theorem dX2_isKnown_7 : decode cX2_isKnown 7 = .ok (.ifCond .eq 18, 3) := by decide +kernel
theorem dX2_isKnown_10 : decode cX2_isKnown 10 = .ok (.aload_n 0, 1) := by decide +kernel
theorem dX2_isKnown_11 : decode cX2_isKnown 11 = .ok (.getfield 24, 3) := by decide +kernel
theorem dX2_isKnown_14 : decode cX2_isKnown 14 = .ok (.iload_n 1, 1) := by decide +kernel
theorem dX2_isKnown_15 : decode cX2_isKnown 15 = .ok (.ishr, 1) := by decide +kernel
theorem dX2_isKnown_16 : decode cX2_isKnown 16 = .ok (.iconst 1, 1) := by decide +kernel
theorem dX2_isKnown_17 : decode cX2_isKnown 17 = .ok (.iand, 1) := by decide +kernel
theorem dX2_isKnown_18 : decode cX2_isKnown 18 = .ok (.ifCond .eq 7, 3) := by decide +kernel
theorem dX2_isKnown_21 : decode cX2_isKnown 21 = .ok (.iconst 1, 1) := by decide +kernel
theorem dX2_isKnown_22 : decode cX2_isKnown 22 = .ok (.goto 4, 3) := by decide +kernel
theorem dX2_isKnown_25 : decode cX2_isKnown 25 = .ok (.iconst 0, 1) := by decide +kernel
theorem dX2_isKnown_26 : decode cX2_isKnown 26 = .ok (.ireturn, 1) := by decide +kernel
theorem dX2_areAllKnown_0 : decode cX2_areAllKnown 0 = .ok (.iload_n 1, 1) := by decide +kernel
theorem dX2_areAllKnown_1 : decode cX2_areAllKnown 1 = .ok (.aload_n 0, 1) := by decide +kernel
theorem dX2_areAllKnown_2 : decode cX2_areAllKnown 2 = .ok (.getfield 24, 3) := by decide +kernel
theorem dX2_areAllKnown_5 : decode cX2_areAllKnown 5 = .ok (.iconst (-1), 1) := by decide +kernel
theorem dX2_areAllKnown_6 : decode cX2_areAllKnown 6 = .ok (.ixor, 1) := by decide +kernel
theorem dX2_areAllKnown_7 : decode cX2_areAllKnown 7 = .ok (.iand, 1) := by decide +kernel
theorem dX2_areAllKnown_8 : decode cX2_areAllKnown 8 = .ok (.ifCond .ne 7, 3) := by decide +kernel
theorem dX2_areAllKnown_11 : decode cX2_areAllKnown 11 = .ok (.iconst 1, 1) := by decide +kernel
theorem dX2_areAllKnown_12 : decode cX2_areAllKnown 12 = .ok (.goto 4, 3) := by decide +kernel
theorem dX2_areAllKnown_15 : decode cX2_areAllKnown 15 = .ok (.iconst 0, 1) := by decide +kernel
theorem dX2_areAllKnown_16 : decode cX2_areAllKnown 16 = .ok (.ireturn, 1) := by decide +kernel
set_option maxRecDepth 20000 in
theorem ggX2_knownSize_J6_bitCount_0f7a4 : GoodIn wsX2_knownSize wsJ6_bitCount_0f7a4 := goodIn_r _ [5, 6, 7, 8] (by decide +kernel) (by decide +kernel)
set_option maxRecDepth 20000 in
theorem gX2_knownSize_J6_bitCount_0f7a4 : GoodIn wsX2_knownSize (va_wsS RX2 44 yJ6_bitCount_0f7a4 wsJ6_bitCount_0f7a4) := goodIn_app (goodIn_of _ (by decide +kernel)) ggX2_knownSize_J6_bitCount_0f7a4
theorem dX2_knownSize_0 : decode cX2_knownSize 0 = .ok (.aload_n 0, 1) := by decide +kernel
theorem dX2_knownSize_1 : decode cX2_knownSize 1 = .ok (.getfield 24, 3) := by decide +kernel
theorem dX2_knownSize_4 : decode cX2_knownSize 4 = .ok (.invokestatic 44, 3) := by decide +kernel
theorem dX2_knownSize_7 : decode cX2_knownSize 7 = .ok (.ireturn, 1) := by decide +kernel
theorem dX2_gather_0 : decode cX2_gather 0 = .ok (.aload_n 0, 1) := by decide +kernel
theorem dX2_gather_1 : decode cX2_gather 1 = .ok (.iconst 0, 1) := by decide +kernel
theorem dX2_gather_2 : decode cX2_gather 2 = .ok (.putfield 28, 3) := by decide +kernel
theorem dX2_gather_5 : decode cX2_gather 5 = .ok (.aload_n 0, 1) := by decide +kernel
theorem dX2_gather_6 : decode cX2_gather 6 = .ok (.iconst 0, 1) := by decide +kernel
theorem dX2_gather_7 : decode cX2_gather 7 = .ok (.putfield 31, 3) := by decide +kernel
theorem dX2_gather_10 : decode cX2_gather 10 = .ok (.aload_n 0, 1) := by decide +kernel
theorem dX2_gather_11 : decode cX2_gather 11 = .ok (.iconst 0, 1) := by decide +kernel
theorem dX2_gather_12 : decode cX2_gather 12 = .ok (.putfield 34, 3) := by decide +kernel
theorem dX2_gather_15 : decode cX2_gather 15 = .ok (.aload_n 0, 1) := by decide +kernel
theorem dX2_gather_16 : decode cX2_gather 16 = .ok (.iconst 0, 1) := by decide +kernel
theorem dX2_gather_17 : decode cX2_gather 17 = .ok (.putfield 37, 3) := by decide +kernel
theorem dX2_gather_20 : decode cX2_gather 20 = .ok (.iconst 0, 1) := by decide +kernel
theorem dX2_gather_21 : decode cX2_gather 21 = .ok (.istore_n 2, 1) := by decide +kernel
theorem dX2_gather_22 : decode cX2_gather 22 = .ok (.iload_n 2, 1) := by decide +kernel
theorem dX2_gather_23 : decode cX2_gather 23 = .ok (.bipush 10, 2) := by decide +kernel
theorem dX2_gather_25 : decode cX2_gather 25 = .ok (.if_icmp .ge 77, 3) := by decide +kernel
theorem dX2_gather_28 : decode cX2_gather 28 = .ok (.iload_n 1, 1) := by decide +kernel
theorem dX2_gather_29 : decode cX2_gather 29 = .ok (.iload_n 2, 1) := by decide +kernel
theorem dX2_gather_30 : decode cX2_gather 30 = .ok (.ishr, 1) := by decide +kernel
theorem dX2_gather_31 : decode cX2_gather 31 = .ok (.iconst 1, 1) := by decide +kernel
theorem dX2_gather_32 : decode cX2_gather 32 = .ok (.iand, 1) := by decide +kernel
theorem dX2_gather_33 : decode cX2_gather 33 = .ok (.ifCond .eq 63, 3) := by decide +kernel
theorem dX2_gather_36 : decode cX2_gather 36 = .ok (.aload_n 0, 1) := by decide +kernel
theorem dX2_gather_37 : decode cX2_gather 37 = .ok (.dup, 1) := by decide +kernel
theorem dX2_gather_38 : decode cX2_gather 38 = .ok (.getfield 28, 3) := by decide +kernel
theorem dX2_gather_41 : decode cX2_gather 41 = .ok (.aload_n 0, 1) := by decide +kernel
theorem dX2_gather_42 : decode cX2_gather 42 = .ok (.getfield 9, 3) := by decide +kernel
theorem dX2_gather_45 : decode cX2_gather 45 = .ok (.iload_n 2, 1) := by decide +kernel
theorem dX2_gather_46 : decode cX2_gather 46 = .ok (.iaload, 1) := by decide +kernel
theorem dX2_gather_47 : decode cX2_gather 47 = .ok (.iadd, 1) := by decide +kernel
theorem dX2_gather_48 : decode cX2_gather 48 = .ok (.putfield 28, 3) := by decide +kernel
theorem dX2_gather_51 : decode cX2_gather 51 = .ok (.aload_n 0, 1) := by decide +kernel
theorem dX2_gather_52 : decode cX2_gather 52 = .ok (.dup, 1) := by decide +kernel
theorem dX2_gather_53 : decode cX2_gather 53 = .ok (.getfield 31, 3) := by decide +kernel
theorem dX2_gather_56 : decode cX2_gather 56 = .ok (.aload_n 0, 1) := by decide +kernel
theorem dX2_gather_57 : decode cX2_gather 57 = .ok (.getfield 15, 3) := by decide +kernel
theorem dX2_gather_60 : decode cX2_gather 60 = .ok (.iload_n 2, 1) := by decide +kernel
theorem dX2_gather_61 : decode cX2_gather 61 = .ok (.iaload, 1) := by decide +kernel
theorem dX2_gather_62 : decode cX2_gather 62 = .ok (.ior, 1) := by decide +kernel
theorem dX2_gather_63 : decode cX2_gather 63 = .ok (.putfield 31, 3) := by decide +kernel
theorem dX2_gather_66 : decode cX2_gather 66 = .ok (.aload_n 0, 1) := by decide +kernel
theorem dX2_gather_67 : decode cX2_gather 67 = .ok (.dup, 1) := by decide +kernel
theorem dX2_gather_68 : decode cX2_gather 68 = .ok (.getfield 34, 3) := by decide +kernel
theorem dX2_gather_71 : decode cX2_gather 71 = .ok (.aload_n 0, 1) := by decide +kernel
theorem dX2_gather_72 : decode cX2_gather 72 = .ok (.getfield 18, 3) := by decide +kernel
theorem dX2_gather_75 : decode cX2_gather 75 = .ok (.iload_n 2, 1) := by decide +kernel
theorem dX2_gather_76 : decode cX2_gather 76 = .ok (.iaload, 1) := by decide +kernel
theorem dX2_gather_77 : decode cX2_gather 77 = .ok (.ior, 1) := by decide +kernel
theorem dX2_gather_78 : decode cX2_gather 78 = .ok (.putfield 34, 3) := by decide +kernel
theorem dX2_gather_81 : decode cX2_gather 81 = .ok (.aload_n 0, 1) := by decide +kernel
theorem dX2_gather_82 : decode cX2_gather 82 = .ok (.dup, 1) := by decide +kernel
theorem dX2_gather_83 : decode cX2_gather 83 = .ok (.getfield 37, 3) := by decide +kernel
theorem dX2_gather_86 : decode cX2_gather 86 = .ok (.aload_n 0, 1) := by decide +kernel
theorem dX2_gather_87 : decode cX2_gather 87 = .ok (.getfield 21, 3) := by decide +kernel
theorem dX2_gather_90 : decode cX2_gather 90 = .ok (.iload_n 2, 1) := by decide +kernel
theorem dX2_gather_91 : decode cX2_gather 91 = .ok (.iaload, 1) := by decide +kernel
theorem dX2_gather_92 : decode cX2_gather 92 = .ok (.ior, 1) := by decide +kernel
theorem dX2_gather_93 : decode cX2_gather 93 = .ok (.putfield 37, 3) := by decide +kernel
theorem dX2_gather_96 : decode cX2_gather 96 = .ok (.iinc 2 1, 3) := by decide +kernel
theorem dX2_gather_99 : decode cX2_gather 99 = .ok (.goto (-77), 3) := by decide +kernel
theorem dX2_gather_102 : decode cX2_gather 102 = .ok (.return_, 1) := by decide +kernel
theorem dX2_fee_0 : decode cX2_fee 0 = .ok (.aload_n 0, 1) := by decide +kernel
theorem dX2_fee_1 : decode cX2_fee 1 = .ok (.getfield 28, 3) := by decide +kernel
theorem dX2_fee_4 : decode cX2_fee 4 = .ok (.ireturn, 1) := by decide +kernel
theorem dX2_always_0 : decode cX2_always 0 = .ok (.aload_n 0, 1) := by decide +kernel
theorem dX2_always_1 : decode cX2_always 1 = .ok (.getfield 31, 3) := by decide +kernel
theorem dX2_always_4 : decode cX2_always 4 = .ok (.ireturn, 1) := by decide +kernel
theorem dX2_onlyMostly_0 : decode cX2_onlyMostly 0 = .ok (.aload_n 0, 1) := by decide +kernel
theorem dX2_onlyMostly_1 : decode cX2_onlyMostly 1 = .ok (.getfield 34, 3) := by decide +kernel
theorem dX2_onlyMostly_4 : decode cX2_onlyMostly 4 = .ok (.aload_n 0, 1) := by decide +kernel
theorem dX2_onlyMostly_5 : decode cX2_onlyMostly 5 = .ok (.getfield 31, 3) := by decide +kernel
theorem dX2_onlyMostly_8 : decode cX2_onlyMostly 8 = .ok (.iconst (-1), 1) := by decide +kernel
theorem dX2_onlyMostly_9 : decode cX2_onlyMostly 9 = .ok (.ixor, 1) := by decide +kernel
theorem dX2_onlyMostly_10 : decode cX2_onlyMostly 10 = .ok (.iand, 1) := by decide +kernel
theorem dX2_onlyMostly_11 : decode cX2_onlyMostly 11 = .ok (.ireturn, 1) := by decide +kernel
theorem dX2_leaves_0 : decode cX2_leaves 0 = .ok (.aload_n 0, 1) := by decide +kernel
theorem dX2_leaves_1 : decode cX2_leaves 1 = .ok (.getfield 31, 3) := by decide +kernel
theorem dX2_leaves_4 : decode cX2_leaves 4 = .ok (.aload_n 0, 1) := by decide +kernel
theorem dX2_leaves_5 : decode cX2_leaves 5 = .ok (.getfield 34, 3) := by decide +kernel
theorem dX2_leaves_8 : decode cX2_leaves 8 = .ok (.ior, 1) := by decide +kernel
theorem dX2_leaves_9 : decode cX2_leaves 9 = .ok (.ireturn, 1) := by decide +kernel
theorem dX2_wiped_0 : decode cX2_wiped 0 = .ok (.aload_n 0, 1) := by decide +kernel
theorem dX2_wiped_1 : decode cX2_wiped 1 = .ok (.getfield 37, 3) := by decide +kernel
theorem dX2_wiped_4 : decode cX2_wiped 4 = .ok (.ireturn, 1) := by decide +kernel
theorem dX3_init_0 : decode cX3_init 0 = .ok (.aload_n 0, 1) := by decide +kernel
theorem dX3_init_1 : decode cX3_init 1 = .ok (.invokespecial 3, 3) := by decide +kernel
theorem dX3_init_4 : decode cX3_init 4 = .ok (.aload_n 0, 1) := by decide +kernel
theorem dX3_init_5 : decode cX3_init 5 = .ok (.sipush 1024, 3) := by decide +kernel
theorem dX3_init_8 : decode cX3_init 8 = .ok (.newarray .int, 2) := by decide +kernel
theorem dX3_init_10 : decode cX3_init 10 = .ok (.putfield 9, 3) := by decide +kernel
theorem dX3_init_13 : decode cX3_init 13 = .ok (.aload_n 0, 1) := by decide +kernel
theorem dX3_init_14 : decode cX3_init 14 = .ok (.bipush 16, 2) := by decide +kernel
theorem dX3_init_16 : decode cX3_init 16 = .ok (.newarray .int, 2) := by decide +kernel
theorem dX3_init_18 : decode cX3_init 18 = .ok (.putfield 15, 3) := by decide +kernel
theorem dX3_init_21 : decode cX3_init 21 = .ok (.aload_n 0, 1) := by decide +kernel
theorem dX3_init_22 : decode cX3_init 22 = .ok (.iconst 0, 1) := by decide +kernel
theorem dX3_init_23 : decode cX3_init 23 = .ok (.putfield 18, 3) := by decide +kernel
theorem dX3_init_26 : decode cX3_init 26 = .ok (.aload_n 0, 1) := by decide +kernel
theorem dX3_init_27 : decode cX3_init 27 = .ok (.iconst 0, 1) := by decide +kernel
theorem dX3_init_28 : decode cX3_init 28 = .ok (.putfield 22, 3) := by decide +kernel
theorem dX3_init_31 : decode cX3_init 31 = .ok (.aload_n 0, 1) := by decide +kernel
theorem dX3_init_32 : decode cX3_init 32 = .ok (.iconst 0, 1) := by decide +kernel
theorem dX3_init_33 : decode cX3_init 33 = .ok (.putfield 25, 3) := by decide +kernel
theorem dX3_init_36 : decode cX3_init 36 = .ok (.aload_n 0, 1) := by decide +kernel
theorem dX3_init_37 : decode cX3_init 37 = .ok (.iconst 0, 1) := by decide +kernel
theorem dX3_init_38 : decode cX3_init 38 = .ok (.putfield 28, 3) := by decide +kernel
theorem dX3_init_41 : decode cX3_init 41 = .ok (.aload_n 0, 1) := by decide +kernel
theorem dX3_init_42 : decode cX3_init 42 = .ok (.bipush 10, 2) := by decide +kernel
theorem dX3_init_44 : decode cX3_init 44 = .ok (.putfield 31, 3) := by decide +kernel
theorem dX3_init_47 : decode cX3_init 47 = .ok (.aload_n 0, 1) := by decide +kernel
theorem dX3_init_48 : decode cX3_init 48 = .ok (.bipush 25, 2) := by decide +kernel
theorem dX3_init_50 : decode cX3_init 50 = .ok (.putfield 34, 3) := by decide +kernel
theorem dX3_init_53 : decode cX3_init 53 = .ok (.aload_n 0, 1) := by decide +kernel
theorem dX3_init_54 : decode cX3_init 54 = .ok (.iconst 1, 1) := by decide +kernel
theorem dX3_init_55 : decode cX3_init 55 = .ok (.putfield 37, 3) := by decide +kernel
theorem dX3_init_58 : decode cX3_init 58 = .ok (.return_, 1) := by decide +kernel
theorem dX3_charge_0 : decode cX3_charge 0 = .ok (.aload_n 0, 1) := by decide +kernel
theorem dX3_charge_1 : decode cX3_charge 1 = .ok (.iload_n 1, 1) := by decide +kernel
theorem dX3_charge_2 : decode cX3_charge 2 = .ok (.putfield 31, 3) := by decide +kernel
theorem dX3_charge_5 : decode cX3_charge 5 = .ok (.aload_n 0, 1) := by decide +kernel
theorem dX3_charge_6 : decode cX3_charge 6 = .ok (.iload_n 2, 1) := by decide +kernel
theorem dX3_charge_7 : decode cX3_charge 7 = .ok (.putfield 34, 3) := by decide +kernel
theorem dX3_charge_10 : decode cX3_charge 10 = .ok (.return_, 1) := by decide +kernel
theorem dX3_outdate_0 : decode cX3_outdate 0 = .ok (.aload_n 0, 1) := by decide +kernel
theorem dX3_outdate_1 : decode cX3_outdate 1 = .ok (.iconst 1, 1) := by decide +kernel
theorem dX3_outdate_2 : decode cX3_outdate 2 = .ok (.putfield 37, 3) := by decide +kernel
theorem dX3_outdate_5 : decode cX3_outdate 5 = .ok (.return_, 1) := by decide +kernel
set_option maxRecDepth 20000 in
theorem ggX3_update_X3_findRows : GoodIn wsX3_update wsX3_findRows := goodIn_r _ [6, 7, 8, 9, 10, 11, 12, 13, 14, 15, 16, 17, 18, 19, 20, 21, 22, 23, 24, 25, 26, 27, 28, 5, 29, 30, 31, 32, 33, 34, 35, 36, 37, 38, 39, 40, 41, 42, 43, 44, 45, 46, 47, 48, 49, 50, 51, 52, 53, 54, 55, 56, 57, 58, 59, 60, 61, 62, 63, 64, 65, 66, 67, 68, 69, 70, 71, 72, 73, 74, 75, 76, 77, 78, 79, 80, 81, 82, 83, 84, 85, 97, 98, 99, 100, 101, 102, 103, 104, 105, 106, 107, 108, 109, 110, 111, 112, 113, 114, 115, 116, 117, 118, 119, 120, 121] (by decide +kernel) (by decide +kernel)
set_option maxRecDepth 20000 in
theorem gX3_update_X3_findRows : GoodIn wsX3_update (wsV RX3 41 RX3 yX3_findRows wsX3_findRows) := goodIn_app (goodIn_of _ (by decide +kernel)) ggX3_update_X3_findRows
set_option maxRecDepth 20000 in
theorem ggX3_update_X3_tallyRows : GoodIn wsX3_update wsX3_tallyRows := goodIn_r _ [89, 90, 91, 92, 7, 85, 93, 94, 95, 96, 14, 15, 16, 11, 17, 18, 19, 20, 21, 22, 23, 24, 25, 49, 50, 51, 52, 40, 41, 42, 43, 97, 98, 99, 100, 101, 102, 103, 104, 105, 106, 107, 108, 109, 110, 111, 112, 113, 114] (by decide +kernel) (by decide +kernel)
set_option maxRecDepth 20000 in
theorem gX3_update_X3_tallyRows : GoodIn wsX3_update (wsV RX3 45 RX3 yX3_tallyRows wsX3_tallyRows) := goodIn_app (goodIn_of _ (by decide +kernel)) ggX3_update_X3_tallyRows
theorem dX3_update_0 : decode cX3_update 0 = .ok (.aload_n 0, 1) := by decide +kernel
theorem dX3_update_1 : decode cX3_update 1 = .ok (.getfield 37, 3) := by decide +kernel
theorem dX3_update_4 : decode cX3_update 4 = .ok (.ifCond .eq 19, 3) := by decide +kernel
theorem dX3_update_7 : decode cX3_update 7 = .ok (.aload_n 0, 1) := by decide +kernel
theorem dX3_update_8 : decode cX3_update 8 = .ok (.iconst 0, 1) := by decide +kernel
theorem dX3_update_9 : decode cX3_update 9 = .ok (.putfield 37, 3) := by decide +kernel
theorem dX3_update_12 : decode cX3_update 12 = .ok (.aload_n 0, 1) := by decide +kernel
theorem dX3_update_13 : decode cX3_update 13 = .ok (.aload_n 1, 1) := by decide +kernel
theorem dX3_update_14 : decode cX3_update 14 = .ok (.aload_n 2, 1) := by decide +kernel
theorem dX3_update_15 : decode cX3_update 15 = .ok (.invokevirtual 41, 3) := by decide +kernel
theorem dX3_update_18 : decode cX3_update 18 = .ok (.aload_n 0, 1) := by decide +kernel
theorem dX3_update_19 : decode cX3_update 19 = .ok (.aload_n 1, 1) := by decide +kernel
theorem dX3_update_20 : decode cX3_update 20 = .ok (.invokevirtual 45, 3) := by decide +kernel
theorem dX3_update_23 : decode cX3_update 23 = .ok (.return_, 1) := by decide +kernel
theorem dX3_size_0 : decode cX3_size 0 = .ok (.aload_n 0, 1) := by decide +kernel
theorem dX3_size_1 : decode cX3_size 1 = .ok (.getfield 18, 3) := by decide +kernel
theorem dX3_size_4 : decode cX3_size 4 = .ok (.ireturn, 1) := by decide +kernel
theorem dX3_commonCost_0 : decode cX3_commonCost 0 = .ok (.aload_n 0, 1) := by decide +kernel
theorem dX3_commonCost_1 : decode cX3_commonCost 1 = .ok (.getfield 22, 3) := by decide +kernel
theorem dX3_commonCost_4 : decode cX3_commonCost 4 = .ok (.ireturn, 1) := by decide +kernel
set_option maxRecDepth 20000 in
theorem ggX3_at_X7_isWithin : GoodIn wsX3_at wsX7_isWithin := goodIn_r _ [5] (by decide +kernel) (by decide +kernel)
set_option maxRecDepth 20000 in
theorem gX3_at_X7_isWithin_n49 : GoodIn wsX3_at (wsX7_isWithin) := ggX3_at_X7_isWithin
theorem dX3_at_0 : decode cX3_at 0 = .ok (.iload_n 1, 1) := by decide +kernel
theorem dX3_at_1 : decode cX3_at 1 = .ok (.iconst 0, 1) := by decide +kernel
theorem dX3_at_2 : decode cX3_at 2 = .ok (.aload_n 0, 1) := by decide +kernel
theorem dX3_at_3 : decode cX3_at 3 = .ok (.getfield 18, 3) := by decide +kernel
theorem dX3_at_6 : decode cX3_at 6 = .ok (.iconst 1, 1) := by decide +kernel
theorem dX3_at_7 : decode cX3_at 7 = .ok (.isub, 1) := by decide +kernel
theorem dX3_at_8 : decode cX3_at 8 = .ok (.invokestatic 49, 3) := by decide +kernel
theorem dX3_at_11 : decode cX3_at 11 = .ok (.ifCond .eq 12, 3) := by decide +kernel
theorem dX3_at_14 : decode cX3_at 14 = .ok (.aload_n 0, 1) := by decide +kernel
theorem dX3_at_15 : decode cX3_at 15 = .ok (.getfield 9, 3) := by decide +kernel
theorem dX3_at_18 : decode cX3_at 18 = .ok (.iload_n 1, 1) := by decide +kernel
theorem dX3_at_19 : decode cX3_at 19 = .ok (.iaload, 1) := by decide +kernel
theorem dX3_at_20 : decode cX3_at 20 = .ok (.goto 4, 3) := by decide +kernel
theorem dX3_at_23 : decode cX3_at 23 = .ok (.iconst 0, 1) := by decide +kernel
theorem dX3_at_24 : decode cX3_at 24 = .ok (.ireturn, 1) := by decide +kernel
theorem dX3_isInAll_0 : decode cX3_isInAll 0 = .ok (.aload_n 0, 1) := by decide +kernel
theorem dX3_isInAll_1 : decode cX3_isInAll 1 = .ok (.getfield 25, 3) := by decide +kernel
theorem dX3_isInAll_4 : decode cX3_isInAll 4 = .ok (.iload_n 1, 1) := by decide +kernel
theorem dX3_isInAll_5 : decode cX3_isInAll 5 = .ok (.ishr, 1) := by decide +kernel
theorem dX3_isInAll_6 : decode cX3_isInAll 6 = .ok (.iconst 1, 1) := by decide +kernel
theorem dX3_isInAll_7 : decode cX3_isInAll 7 = .ok (.iand, 1) := by decide +kernel
theorem dX3_isInAll_8 : decode cX3_isInAll 8 = .ok (.ifCond .eq 7, 3) := by decide +kernel
theorem dX3_isInAll_11 : decode cX3_isInAll 11 = .ok (.iconst 1, 1) := by decide +kernel
theorem dX3_isInAll_12 : decode cX3_isInAll 12 = .ok (.goto 4, 3) := by decide +kernel
theorem dX3_isInAll_15 : decode cX3_isInAll 15 = .ok (.iconst 0, 1) := by decide +kernel
theorem dX3_isInAll_16 : decode cX3_isInAll 16 = .ok (.ireturn, 1) := by decide +kernel
theorem dX3_isInSome_0 : decode cX3_isInSome 0 = .ok (.aload_n 0, 1) := by decide +kernel
theorem dX3_isInSome_1 : decode cX3_isInSome 1 = .ok (.getfield 28, 3) := by decide +kernel
theorem dX3_isInSome_4 : decode cX3_isInSome 4 = .ok (.iload_n 1, 1) := by decide +kernel
theorem dX3_isInSome_5 : decode cX3_isInSome 5 = .ok (.ishr, 1) := by decide +kernel
theorem dX3_isInSome_6 : decode cX3_isInSome 6 = .ok (.iconst 1, 1) := by decide +kernel
theorem dX3_isInSome_7 : decode cX3_isInSome 7 = .ok (.iand, 1) := by decide +kernel
theorem dX3_isInSome_8 : decode cX3_isInSome 8 = .ok (.ifCond .eq 7, 3) := by decide +kernel
theorem dX3_isInSome_11 : decode cX3_isInSome 11 = .ok (.iconst 1, 1) := by decide +kernel
theorem dX3_isInSome_12 : decode cX3_isInSome 12 = .ok (.goto 4, 3) := by decide +kernel
theorem dX3_isInSome_15 : decode cX3_isInSome 15 = .ok (.iconst 0, 1) := by decide +kernel
theorem dX3_isInSome_16 : decode cX3_isInSome 16 = .ok (.ireturn, 1) := by decide +kernel
set_option maxRecDepth 20000 in
theorem ggX3_partedBy_X7_isWithin : GoodIn wsX3_partedBy wsX7_isWithin := goodIn_r _ [9] (by decide +kernel) (by decide +kernel)
set_option maxRecDepth 20000 in
theorem gX3_partedBy_X7_isWithin_n49 : GoodIn wsX3_partedBy (wsX7_isWithin) := ggX3_partedBy_X7_isWithin
theorem dX3_partedBy_0 : decode cX3_partedBy 0 = .ok (.iload_n 1, 1) := by decide +kernel
theorem dX3_partedBy_1 : decode cX3_partedBy 1 = .ok (.iconst 0, 1) := by decide +kernel
theorem dX3_partedBy_2 : decode cX3_partedBy 2 = .ok (.bipush 15, 2) := by decide +kernel
theorem dX3_partedBy_4 : decode cX3_partedBy 4 = .ok (.invokestatic 49, 3) := by decide +kernel
theorem dX3_partedBy_7 : decode cX3_partedBy 7 = .ok (.ifCond .eq 26, 3) := by decide +kernel
theorem dX3_partedBy_10 : decode cX3_partedBy 10 = .ok (.aload_n 0, 1) := by decide +kernel
theorem dX3_partedBy_11 : decode cX3_partedBy 11 = .ok (.getfield 15, 3) := by decide +kernel
theorem dX3_partedBy_14 : decode cX3_partedBy 14 = .ok (.iload_n 1, 1) := by decide +kernel
theorem dX3_partedBy_15 : decode cX3_partedBy 15 = .ok (.iaload, 1) := by decide +kernel
theorem dX3_partedBy_16 : decode cX3_partedBy 16 = .ok (.aload_n 0, 1) := by decide +kernel
theorem dX3_partedBy_17 : decode cX3_partedBy 17 = .ok (.getfield 18, 3) := by decide +kernel
theorem dX3_partedBy_20 : decode cX3_partedBy 20 = .ok (.aload_n 0, 1) := by decide +kernel
theorem dX3_partedBy_21 : decode cX3_partedBy 21 = .ok (.getfield 15, 3) := by decide +kernel
theorem dX3_partedBy_24 : decode cX3_partedBy 24 = .ok (.iload_n 1, 1) := by decide +kernel
theorem dX3_partedBy_25 : decode cX3_partedBy 25 = .ok (.iaload, 1) := by decide +kernel
theorem dX3_partedBy_26 : decode cX3_partedBy 26 = .ok (.isub, 1) := by decide +kernel
theorem dX3_partedBy_27 : decode cX3_partedBy 27 = .ok (.invokestatic 53, 3) := by decide +kernel
theorem dX3_partedBy_30 : decode cX3_partedBy 30 = .ok (.goto 4, 3) := by decide +kernel
theorem dX3_partedBy_33 : decode cX3_partedBy 33 = .ok (.iconst 0, 1) := by decide +kernel
theorem dX3_partedBy_34 : decode cX3_partedBy 34 = .ok (.ireturn, 1) := by decide +kernel
set_option maxRecDepth 20000 in
theorem ggX3_isPossible_X2_always : GoodIn wsX3_isPossible wsX2_always := goodIn_r _ [5, 6, 28, 29, 30, 31, 32, 33, 34, 35, 36] (by decide +kernel) (by decide +kernel)
set_option maxRecDepth 20000 in
theorem gX3_isPossible_X2_always : GoodIn wsX3_isPossible (wsV RX3 59 RX2 yX2_always wsX2_always) := goodIn_app (goodIn_of _ (by decide +kernel)) ggX3_isPossible_X2_always
set_option maxRecDepth 20000 in
theorem ggX3_isPossible_X6_marksThere : GoodIn wsX3_isPossible wsX6_marksThere := goodIn_r _ [11, 12, 37, 38, 39, 40, 41, 42, 43] (by decide +kernel) (by decide +kernel)
set_option maxRecDepth 20000 in
theorem gX3_isPossible_X6_marksThere : GoodIn wsX3_isPossible (wsV RX3 65 RX6 yX6_marksThere wsX6_marksThere) := goodIn_app (goodIn_of _ (by decide +kernel)) ggX3_isPossible_X6_marksThere
set_option maxRecDepth 20000 in
theorem ggX3_isPossible_X2_wiped : GoodIn wsX3_isPossible wsX2_wiped := goodIn_r _ [16, 17, 28, 29, 30, 31, 32, 33, 34, 35, 36] (by decide +kernel) (by decide +kernel)
set_option maxRecDepth 20000 in
theorem gX3_isPossible_X2_wiped : GoodIn wsX3_isPossible (wsV RX3 70 RX2 yX2_wiped wsX2_wiped) := goodIn_app (goodIn_of _ (by decide +kernel)) ggX3_isPossible_X2_wiped
set_option maxRecDepth 20000 in
theorem ggX3_isPossible_X6_marksToExplain : GoodIn wsX3_isPossible wsX6_marksToExplain := goodIn_r _ [21, 22, 37, 38, 39, 40, 41, 42, 43] (by decide +kernel) (by decide +kernel)
set_option maxRecDepth 20000 in
theorem gX3_isPossible_X6_marksToExplain : GoodIn wsX3_isPossible (wsV RX3 73 RX6 yX6_marksToExplain wsX6_marksToExplain) := goodIn_app (goodIn_of _ (by decide +kernel)) ggX3_isPossible_X6_marksToExplain
set_option maxRecDepth 20000 in
theorem ggX3_isPossible_X2_leaves : GoodIn wsX3_isPossible wsX2_leaves := goodIn_r _ [26, 6, 27, 28, 29, 30, 31, 32, 33, 34, 35, 36] (by decide +kernel) (by decide +kernel)
set_option maxRecDepth 20000 in
theorem gX3_isPossible_X2_leaves : GoodIn wsX3_isPossible (wsV RX3 76 RX2 yX2_leaves wsX2_leaves) := goodIn_app (goodIn_of _ (by decide +kernel)) ggX3_isPossible_X2_leaves
theorem dX3_isPossible_0 : decode cX3_isPossible 0 = .ok (.aload_n 1, 1) := by decide +kernel
theorem dX3_isPossible_1 : decode cX3_isPossible 1 = .ok (.invokevirtual 59, 3) := by decide +kernel
theorem dX3_isPossible_4 : decode cX3_isPossible 4 = .ok (.aload_n 2, 1) := by decide +kernel
theorem dX3_isPossible_5 : decode cX3_isPossible 5 = .ok (.invokevirtual 65, 3) := by decide +kernel
theorem dX3_isPossible_8 : decode cX3_isPossible 8 = .ok (.iconst (-1), 1) := by decide +kernel
theorem dX3_isPossible_9 : decode cX3_isPossible 9 = .ok (.ixor, 1) := by decide +kernel
theorem dX3_isPossible_10 : decode cX3_isPossible 10 = .ok (.iand, 1) := by decide +kernel
theorem dX3_isPossible_11 : decode cX3_isPossible 11 = .ok (.aload_n 1, 1) := by decide +kernel
theorem dX3_isPossible_12 : decode cX3_isPossible 12 = .ok (.invokevirtual 70, 3) := by decide +kernel
theorem dX3_isPossible_15 : decode cX3_isPossible 15 = .ok (.iconst (-1), 1) := by decide +kernel
theorem dX3_isPossible_16 : decode cX3_isPossible 16 = .ok (.ixor, 1) := by decide +kernel
theorem dX3_isPossible_17 : decode cX3_isPossible 17 = .ok (.iand, 1) := by decide +kernel
theorem dX3_isPossible_18 : decode cX3_isPossible 18 = .ok (.istore_n 3, 1) := by decide +kernel
theorem dX3_isPossible_19 : decode cX3_isPossible 19 = .ok (.aload_n 2, 1) := by decide +kernel
theorem dX3_isPossible_20 : decode cX3_isPossible 20 = .ok (.invokevirtual 73, 3) := by decide +kernel
theorem dX3_isPossible_23 : decode cX3_isPossible 23 = .ok (.aload_n 1, 1) := by decide +kernel
theorem dX3_isPossible_24 : decode cX3_isPossible 24 = .ok (.invokevirtual 76, 3) := by decide +kernel
theorem dX3_isPossible_27 : decode cX3_isPossible 27 = .ok (.iconst (-1), 1) := by decide +kernel
theorem dX3_isPossible_28 : decode cX3_isPossible 28 = .ok (.ixor, 1) := by decide +kernel
theorem dX3_isPossible_29 : decode cX3_isPossible 29 = .ok (.iand, 1) := by decide +kernel
theorem dX3_isPossible_30 : decode cX3_isPossible 30 = .ok (.istore 4, 2) := by decide +kernel
theorem dX3_isPossible_32 : decode cX3_isPossible 32 = .ok (.iload_n 3, 1) := by decide +kernel
theorem dX3_isPossible_33 : decode cX3_isPossible 33 = .ok (.ifCond .ne 12, 3) := by decide +kernel
theorem dX3_isPossible_36 : decode cX3_isPossible 36 = .ok (.iload 4, 2) := by decide +kernel
theorem dX3_isPossible_38 : decode cX3_isPossible 38 = .ok (.ifCond .ne 7, 3) := by decide +kernel
theorem dX3_isPossible_41 : decode cX3_isPossible 41 = .ok (.iconst 1, 1) := by decide +kernel
theorem dX3_isPossible_42 : decode cX3_isPossible 42 = .ok (.goto 4, 3) := by decide +kernel
theorem dX3_isPossible_45 : decode cX3_isPossible 45 = .ok (.iconst 0, 1) := by decide +kernel
theorem dX3_isPossible_46 : decode cX3_isPossible 46 = .ok (.ireturn, 1) := by decide +kernel
set_option maxRecDepth 20000 in
theorem ggX3_priceOf_X2_onlyMostly : GoodIn wsX3_priceOf wsX2_onlyMostly := goodIn_r _ [7, 8, 9, 52, 53, 54, 55, 56, 57, 58, 59, 60] (by decide +kernel) (by decide +kernel)
set_option maxRecDepth 20000 in
theorem gX3_priceOf_X2_onlyMostly : GoodIn wsX3_priceOf (wsV RX3 79 RX2 yX2_onlyMostly wsX2_onlyMostly) := goodIn_app (goodIn_of _ (by decide +kernel)) ggX3_priceOf_X2_onlyMostly
set_option maxRecDepth 20000 in
theorem ggX3_priceOf_X6_marksThere : GoodIn wsX3_priceOf wsX6_marksThere := goodIn_r _ [14, 15, 61, 62, 63, 64, 65, 66, 67] (by decide +kernel) (by decide +kernel)
set_option maxRecDepth 20000 in
theorem gX3_priceOf_X6_marksThere : GoodIn wsX3_priceOf (wsV RX3 65 RX6 yX6_marksThere wsX6_marksThere) := goodIn_app (goodIn_of _ (by decide +kernel)) ggX3_priceOf_X6_marksThere
set_option maxRecDepth 20000 in
theorem ggX3_priceOf_X2_wiped : GoodIn wsX3_priceOf wsX2_wiped := goodIn_r _ [19, 20, 52, 53, 54, 55, 56, 57, 58, 59, 60] (by decide +kernel) (by decide +kernel)
set_option maxRecDepth 20000 in
theorem gX3_priceOf_X2_wiped : GoodIn wsX3_priceOf (wsV RX3 70 RX2 yX2_wiped wsX2_wiped) := goodIn_app (goodIn_of _ (by decide +kernel)) ggX3_priceOf_X2_wiped
set_option maxRecDepth 20000 in
theorem ggX3_priceOf_X2_fee : GoodIn wsX3_priceOf wsX2_fee := goodIn_r _ [24, 25, 52, 53, 54, 55, 56, 57, 58, 59, 60] (by decide +kernel) (by decide +kernel)
set_option maxRecDepth 20000 in
theorem gX3_priceOf_X2_fee : GoodIn wsX3_priceOf (wsV RX3 82 RX2 yX2_fee wsX2_fee) := goodIn_app (goodIn_of _ (by decide +kernel)) ggX3_priceOf_X2_fee
set_option maxRecDepth 20000 in
theorem ggX3_priceOf_J6_bitCount_0f7a4 : GoodIn wsX3_priceOf wsJ6_bitCount_0f7a4 := goodIn_r _ [29, 30, 31, 32] (by decide +kernel) (by decide +kernel)
set_option maxRecDepth 20000 in
theorem gX3_priceOf_J6_bitCount_0f7a4 : GoodIn wsX3_priceOf (va_wsS RX3 85 yJ6_bitCount_0f7a4 wsJ6_bitCount_0f7a4) := goodIn_app (goodIn_of _ (by decide +kernel)) ggX3_priceOf_J6_bitCount_0f7a4
set_option maxRecDepth 20000 in
theorem ggX3_priceOf_X2_leaves : GoodIn wsX3_priceOf wsX2_leaves := goodIn_r _ [36, 9, 8, 52, 53, 54, 55, 56, 57, 58, 59, 60] (by decide +kernel) (by decide +kernel)
set_option maxRecDepth 20000 in
theorem gX3_priceOf_X2_leaves : GoodIn wsX3_priceOf (wsV RX3 76 RX2 yX2_leaves wsX2_leaves) := goodIn_app (goodIn_of _ (by decide +kernel)) ggX3_priceOf_X2_leaves
set_option maxRecDepth 20000 in
theorem ggX3_priceOf_X6_howManyNotOf : GoodIn wsX3_priceOf wsX6_howManyNotOf := goodIn_r _ [40, 41, 42, 61, 62, 63, 64, 65, 66, 67] (by decide +kernel) (by decide +kernel)
set_option maxRecDepth 20000 in
theorem gX3_priceOf_X6_howManyNotOf : GoodIn wsX3_priceOf (wsV RX3 91 RX6 yX6_howManyNotOf wsX6_howManyNotOf) := goodIn_app (goodIn_of _ (by decide +kernel)) ggX3_priceOf_X6_howManyNotOf
theorem dX3_priceOf_0 : decode cX3_priceOf 0 = .ok (.aload_n 1, 1) := by decide +kernel
theorem dX3_priceOf_1 : decode cX3_priceOf 1 = .ok (.invokevirtual 79, 3) := by decide +kernel
theorem dX3_priceOf_4 : decode cX3_priceOf 4 = .ok (.aload_n 2, 1) := by decide +kernel
theorem dX3_priceOf_5 : decode cX3_priceOf 5 = .ok (.invokevirtual 65, 3) := by decide +kernel
theorem dX3_priceOf_8 : decode cX3_priceOf 8 = .ok (.iconst (-1), 1) := by decide +kernel
theorem dX3_priceOf_9 : decode cX3_priceOf 9 = .ok (.ixor, 1) := by decide +kernel
theorem dX3_priceOf_10 : decode cX3_priceOf 10 = .ok (.iand, 1) := by decide +kernel
theorem dX3_priceOf_11 : decode cX3_priceOf 11 = .ok (.aload_n 1, 1) := by decide +kernel
theorem dX3_priceOf_12 : decode cX3_priceOf 12 = .ok (.invokevirtual 70, 3) := by decide +kernel
theorem dX3_priceOf_15 : decode cX3_priceOf 15 = .ok (.iconst (-1), 1) := by decide +kernel
theorem dX3_priceOf_16 : decode cX3_priceOf 16 = .ok (.ixor, 1) := by decide +kernel
theorem dX3_priceOf_17 : decode cX3_priceOf 17 = .ok (.iand, 1) := by decide +kernel
theorem dX3_priceOf_18 : decode cX3_priceOf 18 = .ok (.istore_n 3, 1) := by decide +kernel
theorem dX3_priceOf_19 : decode cX3_priceOf 19 = .ok (.aload_n 1, 1) := by decide +kernel
theorem dX3_priceOf_20 : decode cX3_priceOf 20 = .ok (.invokevirtual 82, 3) := by decide +kernel
theorem dX3_priceOf_23 : decode cX3_priceOf 23 = .ok (.aload_n 0, 1) := by decide +kernel
theorem dX3_priceOf_24 : decode cX3_priceOf 24 = .ok (.getfield 31, 3) := by decide +kernel
theorem dX3_priceOf_27 : decode cX3_priceOf 27 = .ok (.iload_n 3, 1) := by decide +kernel
theorem dX3_priceOf_28 : decode cX3_priceOf 28 = .ok (.invokestatic 85, 3) := by decide +kernel
theorem dX3_priceOf_31 : decode cX3_priceOf 31 = .ok (.imul, 1) := by decide +kernel
theorem dX3_priceOf_32 : decode cX3_priceOf 32 = .ok (.iadd, 1) := by decide +kernel
theorem dX3_priceOf_33 : decode cX3_priceOf 33 = .ok (.aload_n 0, 1) := by decide +kernel
theorem dX3_priceOf_34 : decode cX3_priceOf 34 = .ok (.getfield 34, 3) := by decide +kernel
theorem dX3_priceOf_37 : decode cX3_priceOf 37 = .ok (.aload_n 2, 1) := by decide +kernel
theorem dX3_priceOf_38 : decode cX3_priceOf 38 = .ok (.aload_n 1, 1) := by decide +kernel
theorem dX3_priceOf_39 : decode cX3_priceOf 39 = .ok (.invokevirtual 76, 3) := by decide +kernel
theorem dX3_priceOf_42 : decode cX3_priceOf 42 = .ok (.invokevirtual 91, 3) := by decide +kernel
theorem dX3_priceOf_45 : decode cX3_priceOf 45 = .ok (.imul, 1) := by decide +kernel
theorem dX3_priceOf_46 : decode cX3_priceOf 46 = .ok (.iadd, 1) := by decide +kernel
theorem dX3_priceOf_47 : decode cX3_priceOf 47 = .ok (.ireturn, 1) := by decide +kernel
set_option maxRecDepth 20000 in
theorem ggX3_findRows_X2_areAllKnown : GoodIn wsX3_findRows wsX2_areAllKnown := goodIn_r _ [6, 7, 90, 91, 92, 93, 94, 95, 96, 97, 98] (by decide +kernel) (by decide +kernel)
set_option maxRecDepth 20000 in
theorem gX3_findRows_X2_areAllKnown : GoodIn wsX3_findRows (wsV RX3 94 RX2 yX2_areAllKnown wsX2_areAllKnown) := goodIn_app (goodIn_of _ (by decide +kernel)) ggX3_findRows_X2_areAllKnown
set_option maxRecDepth 20000 in
theorem ggX3_findRows_X2_gather : GoodIn wsX3_findRows wsX2_gather := goodIn_r _ [11, 12, 13, 14, 15, 16, 17, 18, 19, 90, 91, 92, 93, 94, 95, 96, 97, 98] (by decide +kernel) (by decide +kernel)
set_option maxRecDepth 20000 in
theorem gX3_findRows_X2_gather : GoodIn wsX3_findRows (wsV RX3 98 RX2 yX2_gather wsX2_gather) := goodIn_app (goodIn_of _ (by decide +kernel)) ggX3_findRows_X2_gather
set_option maxRecDepth 20000 in
theorem ggX3_findRows_X3_isPossible : GoodIn wsX3_findRows wsX3_isPossible := goodIn_r _ [24, 25, 26, 27, 5, 28, 13, 29, 30, 31, 32, 33, 34, 35, 36, 37, 38, 15, 39, 40, 41, 42, 43, 44, 45, 46, 47, 14, 90, 91, 92, 93, 94, 95, 96, 97, 98, 99, 100, 101, 102, 103, 104, 105] (by decide +kernel) (by decide +kernel)
set_option maxRecDepth 20000 in
theorem gX3_findRows_X3_isPossible : GoodIn wsX3_findRows (wsV RX3 102 RX3 yX3_isPossible wsX3_isPossible) := goodIn_app (goodIn_of _ (by decide +kernel)) ggX3_findRows_X3_isPossible
set_option maxRecDepth 20000 in
theorem ggX3_findRows_X3_priceOf : GoodIn wsX3_findRows wsX3_priceOf := goodIn_r _ [51, 52, 53, 54, 55, 56, 5, 57, 14, 13, 29, 30, 31, 32, 33, 34, 35, 36, 37, 38, 15, 58, 59, 60, 61, 12, 62, 63, 64, 65, 66, 67, 68, 44, 45, 46, 47, 69, 70, 71, 72, 73, 74, 81, 82, 83, 84, 85, 86, 87, 88, 89, 90, 91, 92, 93, 94, 95, 96, 97, 98, 99, 100, 101, 102, 103, 104, 105] (by decide +kernel) (by decide +kernel)
set_option maxRecDepth 20000 in
theorem gX3_findRows_X3_priceOf : GoodIn wsX3_findRows (wsV RX3 106 RX3 yX3_priceOf wsX3_priceOf) := goodIn_app (goodIn_of _ (by decide +kernel)) ggX3_findRows_X3_priceOf
set_option maxRecDepth 20000 in
theorem ggX3_findRows_X3_enter : GoodIn wsX3_findRows wsX3_enter := goodIn_r _ [78, 1, 79, 80, 81, 82, 83, 84, 85, 86, 87, 88, 89] (by decide +kernel) (by decide +kernel)
set_option maxRecDepth 20000 in
theorem gX3_findRows_X3_enter : GoodIn wsX3_findRows (wsV RX3 110 RX3 yX3_enter wsX3_enter) := goodIn_app (goodIn_of _ (by decide +kernel)) ggX3_findRows_X3_enter
theorem dX3_findRows_0 : decode cX3_findRows 0 = .ok (.aload_n 0, 1) := by decide +kernel
theorem dX3_findRows_1 : decode cX3_findRows 1 = .ok (.iconst 0, 1) := by decide +kernel
theorem dX3_findRows_2 : decode cX3_findRows 2 = .ok (.putfield 18, 3) := by decide +kernel
theorem dX3_findRows_5 : decode cX3_findRows 5 = .ok (.iconst 0, 1) := by decide +kernel
theorem dX3_findRows_6 : decode cX3_findRows 6 = .ok (.istore_n 3, 1) := by decide +kernel
theorem dX3_findRows_7 : decode cX3_findRows 7 = .ok (.iload_n 3, 1) := by decide +kernel
theorem dX3_findRows_8 : decode cX3_findRows 8 = .ok (.sipush 1024, 3) := by decide +kernel
theorem dX3_findRows_11 : decode cX3_findRows 11 = .ok (.if_icmp .ge 42, 3) := by decide +kernel
theorem dX3_findRows_14 : decode cX3_findRows 14 = .ok (.aload_n 1, 1) := by decide +kernel
theorem dX3_findRows_15 : decode cX3_findRows 15 = .ok (.iload_n 3, 1) := by decide +kernel
theorem dX3_findRows_16 : decode cX3_findRows 16 = .ok (.invokevirtual 94, 3) := by decide +kernel
theorem dX3_findRows_19 : decode cX3_findRows 19 = .ok (.ifCond .eq 28, 3) := by decide +kernel
theorem dX3_findRows_22 : decode cX3_findRows 22 = .ok (.aload_n 1, 1) := by decide +kernel
theorem dX3_findRows_23 : decode cX3_findRows 23 = .ok (.iload_n 3, 1) := by decide +kernel
theorem dX3_findRows_24 : decode cX3_findRows 24 = .ok (.invokevirtual 98, 3) := by decide +kernel
theorem dX3_findRows_27 : decode cX3_findRows 27 = .ok (.aload_n 0, 1) := by decide +kernel
theorem dX3_findRows_28 : decode cX3_findRows 28 = .ok (.aload_n 1, 1) := by decide +kernel
theorem dX3_findRows_29 : decode cX3_findRows 29 = .ok (.aload_n 2, 1) := by decide +kernel
theorem dX3_findRows_30 : decode cX3_findRows 30 = .ok (.invokevirtual 102, 3) := by decide +kernel
theorem dX3_findRows_33 : decode cX3_findRows 33 = .ok (.ifCond .eq 14, 3) := by decide +kernel
theorem dX3_findRows_36 : decode cX3_findRows 36 = .ok (.aload_n 0, 1) := by decide +kernel
theorem dX3_findRows_37 : decode cX3_findRows 37 = .ok (.iload_n 3, 1) := by decide +kernel
theorem dX3_findRows_38 : decode cX3_findRows 38 = .ok (.aload_n 0, 1) := by decide +kernel
theorem dX3_findRows_39 : decode cX3_findRows 39 = .ok (.aload_n 1, 1) := by decide +kernel
theorem dX3_findRows_40 : decode cX3_findRows 40 = .ok (.aload_n 2, 1) := by decide +kernel
theorem dX3_findRows_41 : decode cX3_findRows 41 = .ok (.invokevirtual 106, 3) := by decide +kernel
theorem dX3_findRows_44 : decode cX3_findRows 44 = .ok (.invokevirtual 110, 3) := by decide +kernel
theorem dX3_findRows_47 : decode cX3_findRows 47 = .ok (.iinc 3 1, 3) := by decide +kernel
theorem dX3_findRows_50 : decode cX3_findRows 50 = .ok (.goto (-43), 3) := by decide +kernel
theorem dX3_findRows_53 : decode cX3_findRows 53 = .ok (.return_, 1) := by decide +kernel
theorem dX3_enter_0 : decode cX3_enter 0 = .ok (.aload_n 0, 1) := by decide +kernel
theorem dX3_enter_1 : decode cX3_enter 1 = .ok (.getfield 18, 3) := by decide +kernel
theorem dX3_enter_4 : decode cX3_enter 4 = .ok (.ifCond .le 12, 3) := by decide +kernel
theorem dX3_enter_7 : decode cX3_enter 7 = .ok (.iload_n 2, 1) := by decide +kernel
theorem dX3_enter_8 : decode cX3_enter 8 = .ok (.aload_n 0, 1) := by decide +kernel
theorem dX3_enter_9 : decode cX3_enter 9 = .ok (.getfield 22, 3) := by decide +kernel
theorem dX3_enter_12 : decode cX3_enter 12 = .ok (.if_icmp .le 4, 3) := by decide +kernel
theorem dX3_enter_15 : decode cX3_enter 15 = .ok (.return_, 1) := by decide +kernel
theorem dX3_enter_16 : decode cX3_enter 16 = .ok (.aload_n 0, 1) := by decide +kernel
theorem dX3_enter_17 : decode cX3_enter 17 = .ok (.getfield 18, 3) := by decide +kernel
theorem dX3_enter_20 : decode cX3_enter 20 = .ok (.ifCond .le 16, 3) := by decide +kernel
theorem dX3_enter_23 : decode cX3_enter 23 = .ok (.iload_n 2, 1) := by decide +kernel
theorem dX3_enter_24 : decode cX3_enter 24 = .ok (.aload_n 0, 1) := by decide +kernel
theorem dX3_enter_25 : decode cX3_enter 25 = .ok (.getfield 22, 3) := by decide +kernel
theorem dX3_enter_28 : decode cX3_enter 28 = .ok (.if_icmp .ge 8, 3) := by decide +kernel
theorem dX3_enter_31 : decode cX3_enter 31 = .ok (.aload_n 0, 1) := by decide +kernel
theorem dX3_enter_32 : decode cX3_enter 32 = .ok (.iconst 0, 1) := by decide +kernel
theorem dX3_enter_33 : decode cX3_enter 33 = .ok (.putfield 18, 3) := by decide +kernel
theorem dX3_enter_36 : decode cX3_enter 36 = .ok (.aload_n 0, 1) := by decide +kernel
theorem dX3_enter_37 : decode cX3_enter 37 = .ok (.getfield 18, 3) := by decide +kernel
theorem dX3_enter_40 : decode cX3_enter 40 = .ok (.sipush 1024, 3) := by decide +kernel
theorem dX3_enter_43 : decode cX3_enter 43 = .ok (.if_icmp .ge 28, 3) := by decide +kernel
theorem dX3_enter_46 : decode cX3_enter 46 = .ok (.aload_n 0, 1) := by decide +kernel
theorem dX3_enter_47 : decode cX3_enter 47 = .ok (.getfield 9, 3) := by decide +kernel
theorem dX3_enter_50 : decode cX3_enter 50 = .ok (.aload_n 0, 1) := by decide +kernel
theorem dX3_enter_51 : decode cX3_enter 51 = .ok (.getfield 18, 3) := by decide +kernel
theorem dX3_enter_54 : decode cX3_enter 54 = .ok (.iload_n 1, 1) := by decide +kernel
theorem dX3_enter_55 : decode cX3_enter 55 = .ok (.iastore, 1) := by decide +kernel
theorem dX3_enter_56 : decode cX3_enter 56 = .ok (.aload_n 0, 1) := by decide +kernel
theorem dX3_enter_57 : decode cX3_enter 57 = .ok (.dup, 1) := by decide +kernel
theorem dX3_enter_58 : decode cX3_enter 58 = .ok (.getfield 18, 3) := by decide +kernel
theorem dX3_enter_61 : decode cX3_enter 61 = .ok (.iconst 1, 1) := by decide +kernel
theorem dX3_enter_62 : decode cX3_enter 62 = .ok (.iadd, 1) := by decide +kernel
theorem dX3_enter_63 : decode cX3_enter 63 = .ok (.putfield 18, 3) := by decide +kernel
theorem dX3_enter_66 : decode cX3_enter 66 = .ok (.aload_n 0, 1) := by decide +kernel
theorem dX3_enter_67 : decode cX3_enter 67 = .ok (.iload_n 2, 1) := by decide +kernel
theorem dX3_enter_68 : decode cX3_enter 68 = .ok (.putfield 22, 3) := by decide +kernel
theorem dX3_enter_71 : decode cX3_enter 71 = .ok (.return_, 1) := by decide +kernel
set_option maxRecDepth 20000 in
theorem ggX3_tallyRows_J7_fill_53178 : GoodIn wsX3_tallyRows wsJ7_fill_53178 := goodIn_r _ [9] (by decide +kernel) (by decide +kernel)
set_option maxRecDepth 20000 in
theorem gX3_tallyRows_J7_fill_53178 : GoodIn wsX3_tallyRows (va_wsS RX3 114 yJ7_fill_53178 wsJ7_fill_53178) := goodIn_app (goodIn_of _ (by decide +kernel)) ggX3_tallyRows_J7_fill_53178
set_option maxRecDepth 20000 in
theorem ggX3_tallyRows_X2_gather : GoodIn wsX3_tallyRows wsX2_gather := goodIn_r _ [14, 15, 16, 17, 18, 19, 20, 21, 22, 40, 41, 42, 43, 44, 45, 46, 47, 48] (by decide +kernel) (by decide +kernel)
set_option maxRecDepth 20000 in
theorem gX3_tallyRows_X2_gather : GoodIn wsX3_tallyRows (wsV RX3 98 RX2 yX2_gather wsX2_gather) := goodIn_app (goodIn_of _ (by decide +kernel)) ggX3_tallyRows_X2_gather
set_option maxRecDepth 20000 in
theorem ggX3_tallyRows_X2_leaves : GoodIn wsX3_tallyRows wsX2_leaves := goodIn_r _ [26, 16, 17, 40, 41, 42, 43, 44, 45, 46, 47, 48] (by decide +kernel) (by decide +kernel)
set_option maxRecDepth 20000 in
theorem gX3_tallyRows_X2_leaves : GoodIn wsX3_tallyRows (wsV RX3 76 RX2 yX2_leaves wsX2_leaves) := goodIn_app (goodIn_of _ (by decide +kernel)) ggX3_tallyRows_X2_leaves
set_option maxRecDepth 20000 in
theorem ggX3_tallyRows_X2_wiped : GoodIn wsX3_tallyRows wsX2_wiped := goodIn_r _ [30, 18, 40, 41, 42, 43, 44, 45, 46, 47, 48] (by decide +kernel) (by decide +kernel)
set_option maxRecDepth 20000 in
theorem gX3_tallyRows_X2_wiped : GoodIn wsX3_tallyRows (wsV RX3 70 RX2 yX2_wiped wsX2_wiped) := goodIn_app (goodIn_of _ (by decide +kernel)) ggX3_tallyRows_X2_wiped
theorem dX3_tallyRows_0 : decode cX3_tallyRows 0 = .ok (.aload_n 0, 1) := by decide +kernel
theorem dX3_tallyRows_1 : decode cX3_tallyRows 1 = .ok (.sipush 1023, 3) := by decide +kernel
theorem dX3_tallyRows_4 : decode cX3_tallyRows 4 = .ok (.putfield 25, 3) := by decide +kernel
theorem dX3_tallyRows_7 : decode cX3_tallyRows 7 = .ok (.aload_n 0, 1) := by decide +kernel
theorem dX3_tallyRows_8 : decode cX3_tallyRows 8 = .ok (.iconst 0, 1) := by decide +kernel
theorem dX3_tallyRows_9 : decode cX3_tallyRows 9 = .ok (.putfield 28, 3) := by decide +kernel
theorem dX3_tallyRows_12 : decode cX3_tallyRows 12 = .ok (.aload_n 0, 1) := by decide +kernel
theorem dX3_tallyRows_13 : decode cX3_tallyRows 13 = .ok (.getfield 15, 3) := by decide +kernel
theorem dX3_tallyRows_16 : decode cX3_tallyRows 16 = .ok (.iconst 0, 1) := by decide +kernel
theorem dX3_tallyRows_17 : decode cX3_tallyRows 17 = .ok (.invokestatic 114, 3) := by decide +kernel
theorem dX3_tallyRows_20 : decode cX3_tallyRows 20 = .ok (.iconst 0, 1) := by decide +kernel
theorem dX3_tallyRows_21 : decode cX3_tallyRows 21 = .ok (.istore_n 2, 1) := by decide +kernel
theorem dX3_tallyRows_22 : decode cX3_tallyRows 22 = .ok (.iload_n 2, 1) := by decide +kernel
theorem dX3_tallyRows_23 : decode cX3_tallyRows 23 = .ok (.aload_n 0, 1) := by decide +kernel
theorem dX3_tallyRows_24 : decode cX3_tallyRows 24 = .ok (.getfield 18, 3) := by decide +kernel
theorem dX3_tallyRows_27 : decode cX3_tallyRows 27 = .ok (.if_icmp .ge 93, 3) := by decide +kernel
theorem dX3_tallyRows_30 : decode cX3_tallyRows 30 = .ok (.aload_n 0, 1) := by decide +kernel
theorem dX3_tallyRows_31 : decode cX3_tallyRows 31 = .ok (.dup, 1) := by decide +kernel
theorem dX3_tallyRows_32 : decode cX3_tallyRows 32 = .ok (.getfield 25, 3) := by decide +kernel
theorem dX3_tallyRows_35 : decode cX3_tallyRows 35 = .ok (.aload_n 0, 1) := by decide +kernel
theorem dX3_tallyRows_36 : decode cX3_tallyRows 36 = .ok (.getfield 9, 3) := by decide +kernel
theorem dX3_tallyRows_39 : decode cX3_tallyRows 39 = .ok (.iload_n 2, 1) := by decide +kernel
theorem dX3_tallyRows_40 : decode cX3_tallyRows 40 = .ok (.iaload, 1) := by decide +kernel
theorem dX3_tallyRows_41 : decode cX3_tallyRows 41 = .ok (.iand, 1) := by decide +kernel
theorem dX3_tallyRows_42 : decode cX3_tallyRows 42 = .ok (.putfield 25, 3) := by decide +kernel
theorem dX3_tallyRows_45 : decode cX3_tallyRows 45 = .ok (.aload_n 0, 1) := by decide +kernel
theorem dX3_tallyRows_46 : decode cX3_tallyRows 46 = .ok (.dup, 1) := by decide +kernel
theorem dX3_tallyRows_47 : decode cX3_tallyRows 47 = .ok (.getfield 28, 3) := by decide +kernel
theorem dX3_tallyRows_50 : decode cX3_tallyRows 50 = .ok (.aload_n 0, 1) := by decide +kernel
theorem dX3_tallyRows_51 : decode cX3_tallyRows 51 = .ok (.getfield 9, 3) := by decide +kernel
theorem dX3_tallyRows_54 : decode cX3_tallyRows 54 = .ok (.iload_n 2, 1) := by decide +kernel
theorem dX3_tallyRows_55 : decode cX3_tallyRows 55 = .ok (.iaload, 1) := by decide +kernel
theorem dX3_tallyRows_56 : decode cX3_tallyRows 56 = .ok (.ior, 1) := by decide +kernel
theorem dX3_tallyRows_57 : decode cX3_tallyRows 57 = .ok (.putfield 28, 3) := by decide +kernel
theorem dX3_tallyRows_60 : decode cX3_tallyRows 60 = .ok (.aload_n 1, 1) := by decide +kernel
theorem dX3_tallyRows_61 : decode cX3_tallyRows 61 = .ok (.aload_n 0, 1) := by decide +kernel
theorem dX3_tallyRows_62 : decode cX3_tallyRows 62 = .ok (.getfield 9, 3) := by decide +kernel
theorem dX3_tallyRows_65 : decode cX3_tallyRows 65 = .ok (.iload_n 2, 1) := by decide +kernel
theorem dX3_tallyRows_66 : decode cX3_tallyRows 66 = .ok (.iaload, 1) := by decide +kernel
theorem dX3_tallyRows_67 : decode cX3_tallyRows 67 = .ok (.invokevirtual 98, 3) := by decide +kernel
theorem dX3_tallyRows_70 : decode cX3_tallyRows 70 = .ok (.aload_n 1, 1) := by decide +kernel
theorem dX3_tallyRows_71 : decode cX3_tallyRows 71 = .ok (.invokevirtual 76, 3) := by decide +kernel
theorem dX3_tallyRows_74 : decode cX3_tallyRows 74 = .ok (.aload_n 1, 1) := by decide +kernel
