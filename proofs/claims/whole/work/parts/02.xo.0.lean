theorem dX0_init_0 : decode cX0_init 0 = .ok (.aload_n 0, 1) := by decide +kernel
theorem dX0_init_1 : decode cX0_init 1 = .ok (.invokespecial 3, 3) := by decide +kernel
theorem dX0_init_4 : decode cX0_init 4 = .ok (.aload_n 0, 1) := by decide +kernel
theorem dX0_init_5 : decode cX0_init 5 = .ok (.bipush 9, 2) := by decide +kernel
theorem dX0_init_7 : decode cX0_init 7 = .ok (.newarray .long, 2) := by decide +kernel
theorem dX0_init_9 : decode cX0_init 9 = .ok (.putfield 9, 3) := by decide +kernel
theorem dX0_init_12 : decode cX0_init 12 = .ok (.return_, 1) := by decide +kernel
set_option maxRecDepth 20000 in
theorem ggX0_follow_X0_begin : GoodIn wsX0_follow wsX0_begin := goodIn_r _ [10, 11, 12, 13, 14, 9, 15, 16, 4, 37, 38, 39] (by decide +kernel) (by decide +kernel)
set_option maxRecDepth 20000 in
theorem gX0_follow_X0_begin : GoodIn wsX0_follow (wsV RX0 15 RX0 yX0_begin wsX0_begin) := goodIn_app (goodIn_of _ (by decide +kernel)) ggX0_follow_X0_begin
set_option maxRecDepth 20000 in
theorem ggX0_follow_X0_goTo : GoodIn wsX0_follow wsX0_goTo := goodIn_r _ [20, 11, 21, 16, 22, 12, 13, 14, 9, 15, 4, 37, 38, 39, 40, 41, 42, 43, 44, 45, 46, 47, 48, 49, 50] (by decide +kernel) (by decide +kernel)
set_option maxRecDepth 20000 in
theorem gX0_follow_X0_goTo : GoodIn wsX0_follow (wsV RX0 24 RX0 yX0_goTo wsX0_goTo) := goodIn_app (goodIn_of _ (by decide +kernel)) ggX0_follow_X0_goTo
set_option maxRecDepth 20000 in
theorem ggX0_follow_X0_weigh : GoodIn wsX0_follow wsX0_weigh := goodIn_r _ [26, 11, 27, 28, 29, 30, 12, 13, 14, 9, 15, 16, 4, 37, 38, 39, 40, 41, 42, 43, 44, 45, 46, 47, 48, 49, 50] (by decide +kernel) (by decide +kernel)
set_option maxRecDepth 20000 in
theorem gX0_follow_X0_weigh : GoodIn wsX0_follow (wsV RX0 34 RX0 yX0_weigh wsX0_weigh) := goodIn_app (goodIn_of _ (by decide +kernel)) ggX0_follow_X0_weigh
theorem dX0_follow_0 : decode cX0_follow 0 = .ok (.aload_n 0, 1) := by decide +kernel
theorem dX0_follow_1 : decode cX0_follow 1 = .ok (.invokevirtual 15, 3) := by decide +kernel
theorem dX0_follow_4 : decode cX0_follow 4 = .ok (.bipush (-4), 2) := by decide +kernel
theorem dX0_follow_6 : decode cX0_follow 6 = .ok (.istore 4, 2) := by decide +kernel
theorem dX0_follow_8 : decode cX0_follow 8 = .ok (.iconst 0, 1) := by decide +kernel
theorem dX0_follow_9 : decode cX0_follow 9 = .ok (.istore 5, 2) := by decide +kernel
theorem dX0_follow_11 : decode cX0_follow 11 = .ok (.iconst 0, 1) := by decide +kernel
theorem dX0_follow_12 : decode cX0_follow 12 = .ok (.istore 6, 2) := by decide +kernel
theorem dX0_follow_14 : decode cX0_follow 14 = .ok (.iload 6, 2) := by decide +kernel
theorem dX0_follow_16 : decode cX0_follow 16 = .ok (.iload_n 3, 1) := by decide +kernel
theorem dX0_follow_17 : decode cX0_follow 17 = .ok (.if_icmp .ge 71, 3) := by decide +kernel
theorem dX0_follow_20 : decode cX0_follow 20 = .ok (.aload_n 0, 1) := by decide +kernel
theorem dX0_follow_21 : decode cX0_follow 21 = .ok (.aload_n 1, 1) := by decide +kernel
theorem dX0_follow_22 : decode cX0_follow 22 = .ok (.iload 5, 2) := by decide +kernel
theorem dX0_follow_24 : decode cX0_follow 24 = .ok (.aload_n 2, 1) := by decide +kernel
theorem dX0_follow_25 : decode cX0_follow 25 = .ok (.getfield 18, 3) := by decide +kernel
theorem dX0_follow_28 : decode cX0_follow 28 = .ok (.iload 6, 2) := by decide +kernel
theorem dX0_follow_30 : decode cX0_follow 30 = .ok (.iaload, 1) := by decide +kernel
theorem dX0_follow_31 : decode cX0_follow 31 = .ok (.invokevirtual 24, 3) := by decide +kernel
theorem dX0_follow_34 : decode cX0_follow 34 = .ok (.aload_n 2, 1) := by decide +kernel
theorem dX0_follow_35 : decode cX0_follow 35 = .ok (.getfield 18, 3) := by decide +kernel
theorem dX0_follow_38 : decode cX0_follow 38 = .ok (.iload 6, 2) := by decide +kernel
theorem dX0_follow_40 : decode cX0_follow 40 = .ok (.iaload, 1) := by decide +kernel
theorem dX0_follow_41 : decode cX0_follow 41 = .ok (.istore 5, 2) := by decide +kernel
theorem dX0_follow_43 : decode cX0_follow 43 = .ok (.aload_n 0, 1) := by decide +kernel
theorem dX0_follow_44 : decode cX0_follow 44 = .ok (.aload_n 1, 1) := by decide +kernel
theorem dX0_follow_45 : decode cX0_follow 45 = .ok (.aload_n 2, 1) := by decide +kernel
theorem dX0_follow_46 : decode cX0_follow 46 = .ok (.getfield 28, 3) := by decide +kernel
theorem dX0_follow_49 : decode cX0_follow 49 = .ok (.iload 6, 2) := by decide +kernel
theorem dX0_follow_51 : decode cX0_follow 51 = .ok (.iaload, 1) := by decide +kernel
theorem dX0_follow_52 : decode cX0_follow 52 = .ok (.aload_n 2, 1) := by decide +kernel
theorem dX0_follow_53 : decode cX0_follow 53 = .ok (.getfield 31, 3) := by decide +kernel
theorem dX0_follow_56 : decode cX0_follow 56 = .ok (.iload 6, 2) := by decide +kernel
theorem dX0_follow_58 : decode cX0_follow 58 = .ok (.iaload, 1) := by decide +kernel
theorem dX0_follow_59 : decode cX0_follow 59 = .ok (.invokevirtual 34, 3) := by decide +kernel
theorem dX0_follow_62 : decode cX0_follow 62 = .ok (.iload 4, 2) := by decide +kernel
theorem dX0_follow_64 : decode cX0_follow 64 = .ok (.bipush (-4), 2) := by decide +kernel
theorem dX0_follow_66 : decode cX0_follow 66 = .ok (.if_icmp .ne 16, 3) := by decide +kernel
theorem dX0_follow_69 : decode cX0_follow 69 = .ok (.aload_n 0, 1) := by decide +kernel
theorem dX0_follow_70 : decode cX0_follow 70 = .ok (.getfield 37, 3) := by decide +kernel
theorem dX0_follow_73 : decode cX0_follow 73 = .ok (.lconst 0, 1) := by decide +kernel
theorem dX0_follow_74 : decode cX0_follow 74 = .ok (.lcmp, 1) := by decide +kernel
theorem dX0_follow_75 : decode cX0_follow 75 = .ok (.ifCond .ne 7, 3) := by decide +kernel
theorem dX0_follow_78 : decode cX0_follow 78 = .ok (.iload 6, 2) := by decide +kernel
theorem dX0_follow_80 : decode cX0_follow 80 = .ok (.istore 4, 2) := by decide +kernel
theorem dX0_follow_82 : decode cX0_follow 82 = .ok (.iinc 6 1, 3) := by decide +kernel
theorem dX0_follow_85 : decode cX0_follow 85 = .ok (.goto (-71), 3) := by decide +kernel
theorem dX0_follow_88 : decode cX0_follow 88 = .ok (.aload_n 0, 1) := by decide +kernel
theorem dX0_follow_89 : decode cX0_follow 89 = .ok (.aload_n 1, 1) := by decide +kernel
theorem dX0_follow_90 : decode cX0_follow 90 = .ok (.iload 5, 2) := by decide +kernel
theorem dX0_follow_92 : decode cX0_follow 92 = .ok (.aload_n 2, 1) := by decide +kernel
theorem dX0_follow_93 : decode cX0_follow 93 = .ok (.getfield 41, 3) := by decide +kernel
theorem dX0_follow_96 : decode cX0_follow 96 = .ok (.invokevirtual 24, 3) := by decide +kernel
theorem dX0_follow_99 : decode cX0_follow 99 = .ok (.iload 4, 2) := by decide +kernel
theorem dX0_follow_101 : decode cX0_follow 101 = .ok (.ireturn, 1) := by decide +kernel
set_option maxRecDepth 20000 in
theorem ggX0_begin_X0_addUp : GoodIn wsX0_begin wsX0_addUp := goodIn_r _ [6, 7, 1, 8, 9, 10, 11] (by decide +kernel) (by decide +kernel)
set_option maxRecDepth 20000 in
theorem gX0_begin_X0_addUp : GoodIn wsX0_begin (wsV RX0 45 RX0 yX0_addUp wsX0_addUp) := goodIn_app (goodIn_of _ (by decide +kernel)) ggX0_begin_X0_addUp
theorem dX0_begin_0 : decode cX0_begin 0 = .ok (.iconst 0, 1) := by decide +kernel
theorem dX0_begin_1 : decode cX0_begin 1 = .ok (.istore_n 1, 1) := by decide +kernel
theorem dX0_begin_2 : decode cX0_begin 2 = .ok (.iload_n 1, 1) := by decide +kernel
theorem dX0_begin_3 : decode cX0_begin 3 = .ok (.bipush 8, 2) := by decide +kernel
theorem dX0_begin_5 : decode cX0_begin 5 = .ok (.if_icmp .gt 16, 3) := by decide +kernel
theorem dX0_begin_8 : decode cX0_begin 8 = .ok (.aload_n 0, 1) := by decide +kernel
theorem dX0_begin_9 : decode cX0_begin 9 = .ok (.getfield 9, 3) := by decide +kernel
theorem dX0_begin_12 : decode cX0_begin 12 = .ok (.iload_n 1, 1) := by decide +kernel
theorem dX0_begin_13 : decode cX0_begin 13 = .ok (.lconst 0, 1) := by decide +kernel
theorem dX0_begin_14 : decode cX0_begin 14 = .ok (.lastore, 1) := by decide +kernel
theorem dX0_begin_15 : decode cX0_begin 15 = .ok (.iinc 1 1, 3) := by decide +kernel
theorem dX0_begin_18 : decode cX0_begin 18 = .ok (.goto (-16), 3) := by decide +kernel
theorem dX0_begin_21 : decode cX0_begin 21 = .ok (.aload_n 0, 1) := by decide +kernel
theorem dX0_begin_22 : decode cX0_begin 22 = .ok (.getfield 9, 3) := by decide +kernel
theorem dX0_begin_25 : decode cX0_begin 25 = .ok (.iconst 0, 1) := by decide +kernel
theorem dX0_begin_26 : decode cX0_begin 26 = .ok (.lconst 1, 1) := by decide +kernel
theorem dX0_begin_27 : decode cX0_begin 27 = .ok (.lastore, 1) := by decide +kernel
theorem dX0_begin_28 : decode cX0_begin 28 = .ok (.aload_n 0, 1) := by decide +kernel
theorem dX0_begin_29 : decode cX0_begin 29 = .ok (.invokevirtual 45, 3) := by decide +kernel
theorem dX0_begin_32 : decode cX0_begin 32 = .ok (.return_, 1) := by decide +kernel
set_option maxRecDepth 20000 in
theorem ggX0_goTo_X0_addUp : GoodIn wsX0_goTo wsX0_addUp := goodIn_r _ [9, 3, 1, 10, 11, 12, 13] (by decide +kernel) (by decide +kernel)
set_option maxRecDepth 20000 in
theorem gX0_goTo_X0_addUp : GoodIn wsX0_goTo (wsV RX0 45 RX0 yX0_addUp wsX0_addUp) := goodIn_app (goodIn_of _ (by decide +kernel)) ggX0_goTo_X0_addUp
theorem dX0_goTo_0 : decode cX0_goTo 0 = .ok (.iload_n 2, 1) := by decide +kernel
theorem dX0_goTo_1 : decode cX0_goTo 1 = .ok (.iconst 1, 1) := by decide +kernel
theorem dX0_goTo_2 : decode cX0_goTo 2 = .ok (.iadd, 1) := by decide +kernel
theorem dX0_goTo_3 : decode cX0_goTo 3 = .ok (.istore 4, 2) := by decide +kernel
theorem dX0_goTo_5 : decode cX0_goTo 5 = .ok (.iload 4, 2) := by decide +kernel
theorem dX0_goTo_7 : decode cX0_goTo 7 = .ok (.iload_n 3, 1) := by decide +kernel
theorem dX0_goTo_8 : decode cX0_goTo 8 = .ok (.if_icmp .gt 114, 3) := by decide +kernel
theorem dX0_goTo_11 : decode cX0_goTo 11 = .ok (.aload_n 0, 1) := by decide +kernel
theorem dX0_goTo_12 : decode cX0_goTo 12 = .ok (.getfield 9, 3) := by decide +kernel
theorem dX0_goTo_15 : decode cX0_goTo 15 = .ok (.iconst 0, 1) := by decide +kernel
theorem dX0_goTo_16 : decode cX0_goTo 16 = .ok (.laload, 1) := by decide +kernel
theorem dX0_goTo_17 : decode cX0_goTo 17 = .ok (.bipush 10, 2) := by decide +kernel
theorem dX0_goTo_19 : decode cX0_goTo 19 = .ok (.aload_n 1, 1) := by decide +kernel
theorem dX0_goTo_20 : decode cX0_goTo 20 = .ok (.getfield 48, 3) := by decide +kernel
theorem dX0_goTo_23 : decode cX0_goTo 23 = .ok (.iload 4, 2) := by decide +kernel
theorem dX0_goTo_25 : decode cX0_goTo 25 = .ok (.iaload, 1) := by decide +kernel
theorem dX0_goTo_26 : decode cX0_goTo 26 = .ok (.isub, 1) := by decide +kernel
theorem dX0_goTo_27 : decode cX0_goTo 27 = .ok (.i2l, 1) := by decide +kernel
theorem dX0_goTo_28 : decode cX0_goTo 28 = .ok (.lmul, 1) := by decide +kernel
theorem dX0_goTo_29 : decode cX0_goTo 29 = .ok (.aload_n 0, 1) := by decide +kernel
theorem dX0_goTo_30 : decode cX0_goTo 30 = .ok (.getfield 53, 3) := by decide +kernel
theorem dX0_goTo_33 : decode cX0_goTo 33 = .ok (.aload_n 1, 1) := by decide +kernel
theorem dX0_goTo_34 : decode cX0_goTo 34 = .ok (.getfield 56, 3) := by decide +kernel
theorem dX0_goTo_37 : decode cX0_goTo 37 = .ok (.iload 4, 2) := by decide +kernel
theorem dX0_goTo_39 : decode cX0_goTo 39 = .ok (.iaload, 1) := by decide +kernel
theorem dX0_goTo_40 : decode cX0_goTo 40 = .ok (.i2l, 1) := by decide +kernel
theorem dX0_goTo_41 : decode cX0_goTo 41 = .ok (.lmul, 1) := by decide +kernel
theorem dX0_goTo_42 : decode cX0_goTo 42 = .ok (.ladd, 1) := by decide +kernel
theorem dX0_goTo_43 : decode cX0_goTo 43 = .ok (.lstore 5, 2) := by decide +kernel
theorem dX0_goTo_45 : decode cX0_goTo 45 = .ok (.iconst 1, 1) := by decide +kernel
theorem dX0_goTo_46 : decode cX0_goTo 46 = .ok (.istore 7, 2) := by decide +kernel
theorem dX0_goTo_48 : decode cX0_goTo 48 = .ok (.iload 7, 2) := by decide +kernel
theorem dX0_goTo_50 : decode cX0_goTo 50 = .ok (.iload 4, 2) := by decide +kernel
theorem dX0_goTo_52 : decode cX0_goTo 52 = .ok (.if_icmp .ge 30, 3) := by decide +kernel
theorem dX0_goTo_55 : decode cX0_goTo 55 = .ok (.aload_n 0, 1) := by decide +kernel
theorem dX0_goTo_56 : decode cX0_goTo 56 = .ok (.getfield 9, 3) := by decide +kernel
theorem dX0_goTo_59 : decode cX0_goTo 59 = .ok (.iload 7, 2) := by decide +kernel
theorem dX0_goTo_61 : decode cX0_goTo 61 = .ok (.dup2, 1) := by decide +kernel
theorem dX0_goTo_62 : decode cX0_goTo 62 = .ok (.laload, 1) := by decide +kernel
theorem dX0_goTo_63 : decode cX0_goTo 63 = .ok (.bipush 10, 2) := by decide +kernel
theorem dX0_goTo_65 : decode cX0_goTo 65 = .ok (.aload_n 1, 1) := by decide +kernel
theorem dX0_goTo_66 : decode cX0_goTo 66 = .ok (.getfield 56, 3) := by decide +kernel
theorem dX0_goTo_69 : decode cX0_goTo 69 = .ok (.iload 4, 2) := by decide +kernel
theorem dX0_goTo_71 : decode cX0_goTo 71 = .ok (.iaload, 1) := by decide +kernel
theorem dX0_goTo_72 : decode cX0_goTo 72 = .ok (.isub, 1) := by decide +kernel
theorem dX0_goTo_73 : decode cX0_goTo 73 = .ok (.i2l, 1) := by decide +kernel
theorem dX0_goTo_74 : decode cX0_goTo 74 = .ok (.lmul, 1) := by decide +kernel
theorem dX0_goTo_75 : decode cX0_goTo 75 = .ok (.lastore, 1) := by decide +kernel
theorem dX0_goTo_76 : decode cX0_goTo 76 = .ok (.iinc 7 1, 3) := by decide +kernel
theorem dX0_goTo_79 : decode cX0_goTo 79 = .ok (.goto (-31), 3) := by decide +kernel
theorem dX0_goTo_82 : decode cX0_goTo 82 = .ok (.aload_n 0, 1) := by decide +kernel
theorem dX0_goTo_83 : decode cX0_goTo 83 = .ok (.getfield 9, 3) := by decide +kernel
theorem dX0_goTo_86 : decode cX0_goTo 86 = .ok (.iload 4, 2) := by decide +kernel
theorem dX0_goTo_88 : decode cX0_goTo 88 = .ok (.aload_n 0, 1) := by decide +kernel
theorem dX0_goTo_89 : decode cX0_goTo 89 = .ok (.getfield 9, 3) := by decide +kernel
theorem dX0_goTo_92 : decode cX0_goTo 92 = .ok (.iconst 0, 1) := by decide +kernel
theorem dX0_goTo_93 : decode cX0_goTo 93 = .ok (.laload, 1) := by decide +kernel
theorem dX0_goTo_94 : decode cX0_goTo 94 = .ok (.aload_n 1, 1) := by decide +kernel
theorem dX0_goTo_95 : decode cX0_goTo 95 = .ok (.getfield 48, 3) := by decide +kernel
theorem dX0_goTo_98 : decode cX0_goTo 98 = .ok (.iload 4, 2) := by decide +kernel
theorem dX0_goTo_100 : decode cX0_goTo 100 = .ok (.iaload, 1) := by decide +kernel
theorem dX0_goTo_101 : decode cX0_goTo 101 = .ok (.i2l, 1) := by decide +kernel
theorem dX0_goTo_102 : decode cX0_goTo 102 = .ok (.lmul, 1) := by decide +kernel
theorem dX0_goTo_103 : decode cX0_goTo 103 = .ok (.lastore, 1) := by decide +kernel
theorem dX0_goTo_104 : decode cX0_goTo 104 = .ok (.aload_n 0, 1) := by decide +kernel
theorem dX0_goTo_105 : decode cX0_goTo 105 = .ok (.getfield 9, 3) := by decide +kernel
theorem dX0_goTo_108 : decode cX0_goTo 108 = .ok (.iconst 0, 1) := by decide +kernel
theorem dX0_goTo_109 : decode cX0_goTo 109 = .ok (.lload 5, 2) := by decide +kernel
theorem dX0_goTo_111 : decode cX0_goTo 111 = .ok (.lastore, 1) := by decide +kernel
theorem dX0_goTo_112 : decode cX0_goTo 112 = .ok (.aload_n 0, 1) := by decide +kernel
theorem dX0_goTo_113 : decode cX0_goTo 113 = .ok (.invokevirtual 45, 3) := by decide +kernel
theorem dX0_goTo_116 : decode cX0_goTo 116 = .ok (.iinc 4 1, 3) := by decide +kernel
theorem dX0_goTo_119 : decode cX0_goTo 119 = .ok (.goto (-114), 3) := by decide +kernel
theorem dX0_goTo_122 : decode cX0_goTo 122 = .ok (.return_, 1) := by decide +kernel
set_option maxRecDepth 20000 in
theorem ggX0_weigh_X7_byTen : GoodIn wsX0_weigh wsX7_byTen := goodIn_r _ [5] (by decide +kernel) (by decide +kernel)
set_option maxRecDepth 20000 in
theorem gX0_weigh_X7_byTen_n62 : GoodIn wsX0_weigh (wsX7_byTen) := ggX0_weigh_X7_byTen
set_option maxRecDepth 20000 in
theorem ggX0_weigh_X0_addUp : GoodIn wsX0_weigh wsX0_addUp := goodIn_r _ [10, 11, 1, 12, 13, 14, 15] (by decide +kernel) (by decide +kernel)
set_option maxRecDepth 20000 in
theorem gX0_weigh_X0_addUp : GoodIn wsX0_weigh (wsV RX0 45 RX0 yX0_addUp wsX0_addUp) := goodIn_app (goodIn_of _ (by decide +kernel)) ggX0_weigh_X0_addUp
theorem dX0_weigh_0 : decode cX0_weigh 0 = .ok (.aload_n 0, 1) := by decide +kernel
theorem dX0_weigh_1 : decode cX0_weigh 1 = .ok (.getfield 9, 3) := by decide +kernel
theorem dX0_weigh_4 : decode cX0_weigh 4 = .ok (.iconst 0, 1) := by decide +kernel
theorem dX0_weigh_5 : decode cX0_weigh 5 = .ok (.dup2, 1) := by decide +kernel
theorem dX0_weigh_6 : decode cX0_weigh 6 = .ok (.laload, 1) := by decide +kernel
theorem dX0_weigh_7 : decode cX0_weigh 7 = .ok (.iload_n 2, 1) := by decide +kernel
theorem dX0_weigh_8 : decode cX0_weigh 8 = .ok (.aload_n 1, 1) := by decide +kernel
theorem dX0_weigh_9 : decode cX0_weigh 9 = .ok (.getfield 59, 3) := by decide +kernel
theorem dX0_weigh_12 : decode cX0_weigh 12 = .ok (.iload_n 2, 1) := by decide +kernel
theorem dX0_weigh_13 : decode cX0_weigh 13 = .ok (.iaload, 1) := by decide +kernel
theorem dX0_weigh_14 : decode cX0_weigh 14 = .ok (.iconst 0, 1) := by decide +kernel
theorem dX0_weigh_15 : decode cX0_weigh 15 = .ok (.iload_n 3, 1) := by decide +kernel
theorem dX0_weigh_16 : decode cX0_weigh 16 = .ok (.invokestatic 62, 3) := by decide +kernel
theorem dX0_weigh_19 : decode cX0_weigh 19 = .ok (.i2l, 1) := by decide +kernel
theorem dX0_weigh_20 : decode cX0_weigh 20 = .ok (.lmul, 1) := by decide +kernel
theorem dX0_weigh_21 : decode cX0_weigh 21 = .ok (.lastore, 1) := by decide +kernel
theorem dX0_weigh_22 : decode cX0_weigh 22 = .ok (.iconst 1, 1) := by decide +kernel
theorem dX0_weigh_23 : decode cX0_weigh 23 = .ok (.istore 4, 2) := by decide +kernel
theorem dX0_weigh_25 : decode cX0_weigh 25 = .ok (.iload 4, 2) := by decide +kernel
theorem dX0_weigh_27 : decode cX0_weigh 27 = .ok (.bipush 8, 2) := by decide +kernel
theorem dX0_weigh_29 : decode cX0_weigh 29 = .ok (.if_icmp .gt 32, 3) := by decide +kernel
theorem dX0_weigh_32 : decode cX0_weigh 32 = .ok (.aload_n 0, 1) := by decide +kernel
theorem dX0_weigh_33 : decode cX0_weigh 33 = .ok (.getfield 9, 3) := by decide +kernel
theorem dX0_weigh_36 : decode cX0_weigh 36 = .ok (.iload 4, 2) := by decide +kernel
theorem dX0_weigh_38 : decode cX0_weigh 38 = .ok (.dup2, 1) := by decide +kernel
theorem dX0_weigh_39 : decode cX0_weigh 39 = .ok (.laload, 1) := by decide +kernel
theorem dX0_weigh_40 : decode cX0_weigh 40 = .ok (.iload_n 2, 1) := by decide +kernel
theorem dX0_weigh_41 : decode cX0_weigh 41 = .ok (.aload_n 1, 1) := by decide +kernel
theorem dX0_weigh_42 : decode cX0_weigh 42 = .ok (.getfield 59, 3) := by decide +kernel
theorem dX0_weigh_45 : decode cX0_weigh 45 = .ok (.iload_n 2, 1) := by decide +kernel
theorem dX0_weigh_46 : decode cX0_weigh 46 = .ok (.iaload, 1) := by decide +kernel
theorem dX0_weigh_47 : decode cX0_weigh 47 = .ok (.iconst (-1), 1) := by decide +kernel
theorem dX0_weigh_48 : decode cX0_weigh 48 = .ok (.iload_n 3, 1) := by decide +kernel
theorem dX0_weigh_49 : decode cX0_weigh 49 = .ok (.invokestatic 62, 3) := by decide +kernel
theorem dX0_weigh_52 : decode cX0_weigh 52 = .ok (.i2l, 1) := by decide +kernel
theorem dX0_weigh_53 : decode cX0_weigh 53 = .ok (.lmul, 1) := by decide +kernel
theorem dX0_weigh_54 : decode cX0_weigh 54 = .ok (.lastore, 1) := by decide +kernel
theorem dX0_weigh_55 : decode cX0_weigh 55 = .ok (.iinc 4 1, 3) := by decide +kernel
theorem dX0_weigh_58 : decode cX0_weigh 58 = .ok (.goto (-33), 3) := by decide +kernel
theorem dX0_weigh_61 : decode cX0_weigh 61 = .ok (.aload_n 0, 1) := by decide +kernel
theorem dX0_weigh_62 : decode cX0_weigh 62 = .ok (.invokevirtual 45, 3) := by decide +kernel
theorem dX0_weigh_65 : decode cX0_weigh 65 = .ok (.return_, 1) := by decide +kernel
theorem dX0_addUp_0 : decode cX0_addUp 0 = .ok (.aload_n 0, 1) := by decide +kernel
theorem dX0_addUp_1 : decode cX0_addUp 1 = .ok (.lconst 0, 1) := by decide +kernel
theorem dX0_addUp_2 : decode cX0_addUp 2 = .ok (.putfield 53, 3) := by decide +kernel
theorem dX0_addUp_5 : decode cX0_addUp 5 = .ok (.iconst 1, 1) := by decide +kernel
theorem dX0_addUp_6 : decode cX0_addUp 6 = .ok (.istore_n 1, 1) := by decide +kernel
theorem dX0_addUp_7 : decode cX0_addUp 7 = .ok (.iload_n 1, 1) := by decide +kernel
theorem dX0_addUp_8 : decode cX0_addUp 8 = .ok (.bipush 8, 2) := by decide +kernel
theorem dX0_addUp_10 : decode cX0_addUp 10 = .ok (.if_icmp .gt 24, 3) := by decide +kernel
theorem dX0_addUp_13 : decode cX0_addUp 13 = .ok (.aload_n 0, 1) := by decide +kernel
theorem dX0_addUp_14 : decode cX0_addUp 14 = .ok (.dup, 1) := by decide +kernel
theorem dX0_addUp_15 : decode cX0_addUp 15 = .ok (.getfield 53, 3) := by decide +kernel
theorem dX0_addUp_18 : decode cX0_addUp 18 = .ok (.aload_n 0, 1) := by decide +kernel
theorem dX0_addUp_19 : decode cX0_addUp 19 = .ok (.getfield 9, 3) := by decide +kernel
theorem dX0_addUp_22 : decode cX0_addUp 22 = .ok (.iload_n 1, 1) := by decide +kernel
theorem dX0_addUp_23 : decode cX0_addUp 23 = .ok (.laload, 1) := by decide +kernel
theorem dX0_addUp_24 : decode cX0_addUp 24 = .ok (.ladd, 1) := by decide +kernel
theorem dX0_addUp_25 : decode cX0_addUp 25 = .ok (.putfield 53, 3) := by decide +kernel
theorem dX0_addUp_28 : decode cX0_addUp 28 = .ok (.iinc 1 1, 3) := by decide +kernel
theorem dX0_addUp_31 : decode cX0_addUp 31 = .ok (.goto (-24), 3) := by decide +kernel
theorem dX0_addUp_34 : decode cX0_addUp 34 = .ok (.aload_n 0, 1) := by decide +kernel
theorem dX0_addUp_35 : decode cX0_addUp 35 = .ok (.aload_n 0, 1) := by decide +kernel
theorem dX0_addUp_36 : decode cX0_addUp 36 = .ok (.getfield 9, 3) := by decide +kernel
theorem dX0_addUp_39 : decode cX0_addUp 39 = .ok (.iconst 0, 1) := by decide +kernel
theorem dX0_addUp_40 : decode cX0_addUp 40 = .ok (.laload, 1) := by decide +kernel
theorem dX0_addUp_41 : decode cX0_addUp 41 = .ok (.aload_n 0, 1) := by decide +kernel
theorem dX0_addUp_42 : decode cX0_addUp 42 = .ok (.getfield 53, 3) := by decide +kernel
theorem dX0_addUp_45 : decode cX0_addUp 45 = .ok (.ladd, 1) := by decide +kernel
theorem dX0_addUp_46 : decode cX0_addUp 46 = .ok (.putfield 37, 3) := by decide +kernel
theorem dX0_addUp_49 : decode cX0_addUp 49 = .ok (.return_, 1) := by decide +kernel
theorem dX0_likeliestAway_0 : decode cX0_likeliestAway 0 = .ok (.bipush (-4), 2) := by decide +kernel
theorem dX0_likeliestAway_2 : decode cX0_likeliestAway 2 = .ok (.istore_n 1, 1) := by decide +kernel
theorem dX0_likeliestAway_3 : decode cX0_likeliestAway 3 = .ok (.lconst 0, 1) := by decide +kernel
theorem dX0_likeliestAway_4 : decode cX0_likeliestAway 4 = .ok (.lstore_n 2, 1) := by decide +kernel
theorem dX0_likeliestAway_5 : decode cX0_likeliestAway 5 = .ok (.iconst 1, 1) := by decide +kernel
theorem dX0_likeliestAway_6 : decode cX0_likeliestAway 6 = .ok (.istore 4, 2) := by decide +kernel
theorem dX0_likeliestAway_8 : decode cX0_likeliestAway 8 = .ok (.iload 4, 2) := by decide +kernel
theorem dX0_likeliestAway_10 : decode cX0_likeliestAway 10 = .ok (.bipush 8, 2) := by decide +kernel
theorem dX0_likeliestAway_12 : decode cX0_likeliestAway 12 = .ok (.if_icmp .gt 32, 3) := by decide +kernel
theorem dX0_likeliestAway_15 : decode cX0_likeliestAway 15 = .ok (.aload_n 0, 1) := by decide +kernel
theorem dX0_likeliestAway_16 : decode cX0_likeliestAway 16 = .ok (.getfield 9, 3) := by decide +kernel
theorem dX0_likeliestAway_19 : decode cX0_likeliestAway 19 = .ok (.iload 4, 2) := by decide +kernel
theorem dX0_likeliestAway_21 : decode cX0_likeliestAway 21 = .ok (.laload, 1) := by decide +kernel
theorem dX0_likeliestAway_22 : decode cX0_likeliestAway 22 = .ok (.lload_n 2, 1) := by decide +kernel
theorem dX0_likeliestAway_23 : decode cX0_likeliestAway 23 = .ok (.lcmp, 1) := by decide +kernel
theorem dX0_likeliestAway_24 : decode cX0_likeliestAway 24 = .ok (.ifCond .le 14, 3) := by decide +kernel
theorem dX0_likeliestAway_27 : decode cX0_likeliestAway 27 = .ok (.aload_n 0, 1) := by decide +kernel
theorem dX0_likeliestAway_28 : decode cX0_likeliestAway 28 = .ok (.getfield 9, 3) := by decide +kernel
theorem dX0_likeliestAway_31 : decode cX0_likeliestAway 31 = .ok (.iload 4, 2) := by decide +kernel
theorem dX0_likeliestAway_33 : decode cX0_likeliestAway 33 = .ok (.laload, 1) := by decide +kernel
theorem dX0_likeliestAway_34 : decode cX0_likeliestAway 34 = .ok (.lstore_n 2, 1) := by decide +kernel
theorem dX0_likeliestAway_35 : decode cX0_likeliestAway 35 = .ok (.iload 4, 2) := by decide +kernel
theorem dX0_likeliestAway_37 : decode cX0_likeliestAway 37 = .ok (.istore_n 1, 1) := by decide +kernel
theorem dX0_likeliestAway_38 : decode cX0_likeliestAway 38 = .ok (.iinc 4 1, 3) := by decide +kernel
theorem dX0_likeliestAway_41 : decode cX0_likeliestAway 41 = .ok (.goto (-33), 3) := by decide +kernel
theorem dX0_likeliestAway_44 : decode cX0_likeliestAway 44 = .ok (.iload_n 1, 1) := by decide +kernel
theorem dX0_likeliestAway_45 : decode cX0_likeliestAway 45 = .ok (.ireturn, 1) := by decide +kernel
theorem dX1_init_0 : decode cX1_init 0 = .ok (.aload_n 0, 1) := by decide +kernel
theorem dX1_init_1 : decode cX1_init 1 = .ok (.invokespecial 3, 3) := by decide +kernel
theorem dX1_init_4 : decode cX1_init 4 = .ok (.return_, 1) := by decide +kernel
set_option maxRecDepth 20000 in
theorem ggX1_answer_X7_lowest : GoodIn wsX1_answer wsX7_lowest := goodIn_r _ [7, 8, 9, 10, 6, 11] (by decide +kernel) (by decide +kernel)
set_option maxRecDepth 20000 in
theorem gX1_answer_X7_lowest_n24 : GoodIn wsX1_answer (wsX7_lowest) := ggX1_answer_X7_lowest
theorem dX1_answer_0 : decode cX1_answer 0 = .ok (.aload_n 0, 1) := by decide +kernel
theorem dX1_answer_1 : decode cX1_answer 1 = .ok (.getfield 9, 3) := by decide +kernel
theorem dX1_answer_4 : decode cX1_answer 4 = .ok (.lconst 0, 1) := by decide +kernel
theorem dX1_answer_5 : decode cX1_answer 5 = .ok (.lcmp, 1) := by decide +kernel
theorem dX1_answer_6 : decode cX1_answer 6 = .ok (.ifCond .ne 7, 3) := by decide +kernel
theorem dX1_answer_9 : decode cX1_answer 9 = .ok (.ldc2_w 15, 3) := by decide +kernel
theorem dX1_answer_12 : decode cX1_answer 12 = .ok (.lreturn, 1) := by decide +kernel
theorem dX1_answer_13 : decode cX1_answer 13 = .ok (.iload_n 1, 1) := by decide +kernel
theorem dX1_answer_14 : decode cX1_answer 14 = .ok (.ifCond .ne 11, 3) := by decide +kernel
theorem dX1_answer_17 : decode cX1_answer 17 = .ok (.aload_n 0, 1) := by decide +kernel
theorem dX1_answer_18 : decode cX1_answer 18 = .ok (.getfield 17, 3) := by decide +kernel
theorem dX1_answer_21 : decode cX1_answer 21 = .ok (.i2l, 1) := by decide +kernel
theorem dX1_answer_22 : decode cX1_answer 22 = .ok (.goto 17, 3) := by decide +kernel
theorem dX1_answer_25 : decode cX1_answer 25 = .ok (.aload_n 0, 1) := by decide +kernel
theorem dX1_answer_26 : decode cX1_answer 26 = .ok (.getfield 21, 3) := by decide +kernel
theorem dX1_answer_29 : decode cX1_answer 29 = .ok (.aload_n 0, 1) := by decide +kernel
theorem dX1_answer_30 : decode cX1_answer 30 = .ok (.getfield 9, 3) := by decide +kernel
theorem dX1_answer_33 : decode cX1_answer 33 = .ok (.iload_n 1, 1) := by decide +kernel
theorem dX1_answer_34 : decode cX1_answer 34 = .ok (.iconst 1, 1) := by decide +kernel
theorem dX1_answer_35 : decode cX1_answer 35 = .ok (.isub, 1) := by decide +kernel
theorem dX1_answer_36 : decode cX1_answer 36 = .ok (.invokestatic 24, 3) := by decide +kernel
theorem dX1_answer_39 : decode cX1_answer 39 = .ok (.lreturn, 1) := by decide +kernel
theorem dX1_onOrBack_0 : decode cX1_onOrBack 0 = .ok (.aload_n 1, 1) := by decide +kernel
theorem dX1_onOrBack_1 : decode cX1_onOrBack 1 = .ok (.getfield 28, 3) := by decide +kernel
theorem dX1_onOrBack_4 : decode cX1_onOrBack 4 = .ok (.i2l, 1) := by decide +kernel
theorem dX1_onOrBack_5 : decode cX1_onOrBack 5 = .ok (.aload_n 2, 1) := by decide +kernel
theorem dX1_onOrBack_6 : decode cX1_onOrBack 6 = .ok (.getfield 33, 3) := by decide +kernel
theorem dX1_onOrBack_9 : decode cX1_onOrBack 9 = .ok (.lmul, 1) := by decide +kernel
theorem dX1_onOrBack_10 : decode cX1_onOrBack 10 = .ok (.lstore_n 3, 1) := by decide +kernel
theorem dX1_onOrBack_11 : decode cX1_onOrBack 11 = .ok (.aload_n 1, 1) := by decide +kernel
theorem dX1_onOrBack_12 : decode cX1_onOrBack 12 = .ok (.getfield 38, 3) := by decide +kernel
theorem dX1_onOrBack_15 : decode cX1_onOrBack 15 = .ok (.i2l, 1) := by decide +kernel
theorem dX1_onOrBack_16 : decode cX1_onOrBack 16 = .ok (.aload_n 2, 1) := by decide +kernel
theorem dX1_onOrBack_17 : decode cX1_onOrBack 17 = .ok (.getfield 41, 3) := by decide +kernel
theorem dX1_onOrBack_20 : decode cX1_onOrBack 20 = .ok (.iconst 0, 1) := by decide +kernel
theorem dX1_onOrBack_21 : decode cX1_onOrBack 21 = .ok (.laload, 1) := by decide +kernel
theorem dX1_onOrBack_22 : decode cX1_onOrBack 22 = .ok (.lmul, 1) := by decide +kernel
theorem dX1_onOrBack_23 : decode cX1_onOrBack 23 = .ok (.lstore 5, 2) := by decide +kernel
theorem dX1_onOrBack_25 : decode cX1_onOrBack 25 = .ok (.aload_n 0, 1) := by decide +kernel
theorem dX1_onOrBack_26 : decode cX1_onOrBack 26 = .ok (.lload_n 3, 1) := by decide +kernel
theorem dX1_onOrBack_27 : decode cX1_onOrBack 27 = .ok (.lload 5, 2) := by decide +kernel
theorem dX1_onOrBack_29 : decode cX1_onOrBack 29 = .ok (.lcmp, 1) := by decide +kernel
theorem dX1_onOrBack_30 : decode cX1_onOrBack 30 = .ok (.ifCond .gt 7, 3) := by decide +kernel
theorem dX1_onOrBack_33 : decode cX1_onOrBack 33 = .ok (.iconst 0, 1) := by decide +kernel
theorem dX1_onOrBack_34 : decode cX1_onOrBack 34 = .ok (.goto 4, 3) := by decide +kernel
theorem dX1_onOrBack_37 : decode cX1_onOrBack 37 = .ok (.iconst 1, 1) := by decide +kernel
theorem dX1_onOrBack_38 : decode cX1_onOrBack 38 = .ok (.putfield 17, 3) := by decide +kernel
theorem dX1_onOrBack_41 : decode cX1_onOrBack 41 = .ok (.aload_n 0, 1) := by decide +kernel
theorem dX1_onOrBack_42 : decode cX1_onOrBack 42 = .ok (.lload_n 3, 1) := by decide +kernel
theorem dX1_onOrBack_43 : decode cX1_onOrBack 43 = .ok (.lload 5, 2) := by decide +kernel
theorem dX1_onOrBack_45 : decode cX1_onOrBack 45 = .ok (.invokestatic 45, 3) := by decide +kernel
theorem dX1_onOrBack_48 : decode cX1_onOrBack 48 = .ok (.putfield 21, 3) := by decide +kernel
theorem dX1_onOrBack_51 : decode cX1_onOrBack 51 = .ok (.aload_n 0, 1) := by decide +kernel
theorem dX1_onOrBack_52 : decode cX1_onOrBack 52 = .ok (.aload_n 2, 1) := by decide +kernel
theorem dX1_onOrBack_53 : decode cX1_onOrBack 53 = .ok (.getfield 51, 3) := by decide +kernel
theorem dX1_onOrBack_56 : decode cX1_onOrBack 56 = .ok (.putfield 9, 3) := by decide +kernel
theorem dX1_onOrBack_59 : decode cX1_onOrBack 59 = .ok (.return_, 1) := by decide +kernel
set_option maxRecDepth 20000 in
theorem ggX1_anotherCount_X1_onOrBack : GoodIn wsX1_anotherCount wsX1_onOrBack := goodIn_r _ [10, 11, 12, 13, 14, 1, 15, 16, 17, 18, 2, 19, 4, 30, 31, 32, 33, 34, 35, 36, 37, 38, 39, 40, 41, 42, 43, 27, 28, 29] (by decide +kernel) (by decide +kernel)
set_option maxRecDepth 20000 in
theorem gX1_anotherCount_X1_onOrBack : GoodIn wsX1_anotherCount (wsV RX1 54 RX1 yX1_onOrBack wsX1_onOrBack) := goodIn_app (goodIn_of _ (by decide +kernel)) ggX1_anotherCount_X1_onOrBack
set_option maxRecDepth 20000 in
theorem ggX1_anotherCount_X1_decidedBehind : GoodIn wsX1_anotherCount wsX1_decidedBehind := goodIn_r _ [22, 12, 23, 14, 11, 13, 15, 16, 17, 18, 24, 25, 26, 41, 42, 43, 30, 31, 32, 33, 34, 35, 36, 37, 38, 39, 40] (by decide +kernel) (by decide +kernel)
set_option maxRecDepth 20000 in
theorem gX1_anotherCount_X1_decidedBehind : GoodIn wsX1_anotherCount (va_wsS RX1 64 yX1_decidedBehind wsX1_decidedBehind) := goodIn_app (goodIn_of _ (by decide +kernel)) ggX1_anotherCount_X1_decidedBehind
theorem dX1_anotherCount_0 : decode cX1_anotherCount 0 = .ok (.aload_n 0, 1) := by decide +kernel
theorem dX1_anotherCount_1 : decode cX1_anotherCount 1 = .ok (.aload_n 1, 1) := by decide +kernel
theorem dX1_anotherCount_2 : decode cX1_anotherCount 2 = .ok (.aload_n 2, 1) := by decide +kernel
theorem dX1_anotherCount_3 : decode cX1_anotherCount 3 = .ok (.invokevirtual 54, 3) := by decide +kernel
theorem dX1_anotherCount_6 : decode cX1_anotherCount 6 = .ok (.aload_n 0, 1) := by decide +kernel
theorem dX1_anotherCount_7 : decode cX1_anotherCount 7 = .ok (.bipush (-4), 2) := by decide +kernel
theorem dX1_anotherCount_9 : decode cX1_anotherCount 9 = .ok (.putfield 17, 3) := by decide +kernel
theorem dX1_anotherCount_12 : decode cX1_anotherCount 12 = .ok (.aload_n 0, 1) := by decide +kernel
theorem dX1_anotherCount_13 : decode cX1_anotherCount 13 = .ok (.dup, 1) := by decide +kernel
theorem dX1_anotherCount_14 : decode cX1_anotherCount 14 = .ok (.getfield 21, 3) := by decide +kernel
theorem dX1_anotherCount_17 : decode cX1_anotherCount 17 = .ok (.ldc2_w 58, 3) := by decide +kernel
theorem dX1_anotherCount_20 : decode cX1_anotherCount 20 = .ok (.lmul, 1) := by decide +kernel
theorem dX1_anotherCount_21 : decode cX1_anotherCount 21 = .ok (.putfield 21, 3) := by decide +kernel
theorem dX1_anotherCount_24 : decode cX1_anotherCount 24 = .ok (.aload_n 0, 1) := by decide +kernel
theorem dX1_anotherCount_25 : decode cX1_anotherCount 25 = .ok (.dup, 1) := by decide +kernel
theorem dX1_anotherCount_26 : decode cX1_anotherCount 26 = .ok (.getfield 9, 3) := by decide +kernel
theorem dX1_anotherCount_29 : decode cX1_anotherCount 29 = .ok (.ldc2_w 58, 3) := by decide +kernel
theorem dX1_anotherCount_32 : decode cX1_anotherCount 32 = .ok (.lmul, 1) := by decide +kernel
theorem dX1_anotherCount_33 : decode cX1_anotherCount 33 = .ok (.putfield 9, 3) := by decide +kernel
theorem dX1_anotherCount_36 : decode cX1_anotherCount 36 = .ok (.iconst 0, 1) := by decide +kernel
theorem dX1_anotherCount_37 : decode cX1_anotherCount 37 = .ok (.istore_n 3, 1) := by decide +kernel
theorem dX1_anotherCount_38 : decode cX1_anotherCount 38 = .ok (.iload_n 3, 1) := by decide +kernel
theorem dX1_anotherCount_39 : decode cX1_anotherCount 39 = .ok (.iconst 4, 1) := by decide +kernel
theorem dX1_anotherCount_40 : decode cX1_anotherCount 40 = .ok (.if_icmp .ge 51, 3) := by decide +kernel
theorem dX1_anotherCount_43 : decode cX1_anotherCount 43 = .ok (.aload_n 1, 1) := by decide +kernel
theorem dX1_anotherCount_44 : decode cX1_anotherCount 44 = .ok (.getfield 60, 3) := by decide +kernel
theorem dX1_anotherCount_47 : decode cX1_anotherCount 47 = .ok (.iload_n 3, 1) := by decide +kernel
theorem dX1_anotherCount_48 : decode cX1_anotherCount 48 = .ok (.iaload, 1) := by decide +kernel
theorem dX1_anotherCount_49 : decode cX1_anotherCount 49 = .ok (.i2l, 1) := by decide +kernel
theorem dX1_anotherCount_50 : decode cX1_anotherCount 50 = .ok (.aload_n 0, 1) := by decide +kernel
theorem dX1_anotherCount_51 : decode cX1_anotherCount 51 = .ok (.getfield 9, 3) := by decide +kernel
theorem dX1_anotherCount_54 : decode cX1_anotherCount 54 = .ok (.lmul, 1) := by decide +kernel
theorem dX1_anotherCount_55 : decode cX1_anotherCount 55 = .ok (.aload_n 1, 1) := by decide +kernel
theorem dX1_anotherCount_56 : decode cX1_anotherCount 56 = .ok (.aload_n 2, 1) := by decide +kernel
theorem dX1_anotherCount_57 : decode cX1_anotherCount 57 = .ok (.iload_n 3, 1) := by decide +kernel
theorem dX1_anotherCount_58 : decode cX1_anotherCount 58 = .ok (.invokestatic 64, 3) := by decide +kernel
theorem dX1_anotherCount_61 : decode cX1_anotherCount 61 = .ok (.ladd, 1) := by decide +kernel
theorem dX1_anotherCount_62 : decode cX1_anotherCount 62 = .ok (.lstore 4, 2) := by decide +kernel
theorem dX1_anotherCount_64 : decode cX1_anotherCount 64 = .ok (.lload 4, 2) := by decide +kernel
theorem dX1_anotherCount_66 : decode cX1_anotherCount 66 = .ok (.aload_n 0, 1) := by decide +kernel
theorem dX1_anotherCount_67 : decode cX1_anotherCount 67 = .ok (.getfield 21, 3) := by decide +kernel
theorem dX1_anotherCount_70 : decode cX1_anotherCount 70 = .ok (.lcmp, 1) := by decide +kernel
theorem dX1_anotherCount_71 : decode cX1_anotherCount 71 = .ok (.ifCond .ge 14, 3) := by decide +kernel
theorem dX1_anotherCount_74 : decode cX1_anotherCount 74 = .ok (.aload_n 0, 1) := by decide +kernel
theorem dX1_anotherCount_75 : decode cX1_anotherCount 75 = .ok (.lload 4, 2) := by decide +kernel
theorem dX1_anotherCount_77 : decode cX1_anotherCount 77 = .ok (.putfield 21, 3) := by decide +kernel
theorem dX1_anotherCount_80 : decode cX1_anotherCount 80 = .ok (.aload_n 0, 1) := by decide +kernel
theorem dX1_anotherCount_81 : decode cX1_anotherCount 81 = .ok (.iload_n 3, 1) := by decide +kernel
theorem dX1_anotherCount_82 : decode cX1_anotherCount 82 = .ok (.putfield 17, 3) := by decide +kernel
theorem dX1_anotherCount_85 : decode cX1_anotherCount 85 = .ok (.iinc 3 1, 3) := by decide +kernel
theorem dX1_anotherCount_88 : decode cX1_anotherCount 88 = .ok (.goto (-50), 3) := by decide +kernel
theorem dX1_anotherCount_91 : decode cX1_anotherCount 91 = .ok (.return_, 1) := by decide +kernel
set_option maxRecDepth 20000 in
theorem ggX1_decidedBehind_X7_byTen : GoodIn wsX1_decidedBehind wsX7_byTen := goodIn_r _ [12] (by decide +kernel) (by decide +kernel)
set_option maxRecDepth 20000 in
theorem gX1_decidedBehind_X7_byTen_n71 : GoodIn wsX1_decidedBehind (wsX7_byTen) := ggX1_decidedBehind_X7_byTen
theorem dX1_decidedBehind_0 : decode cX1_decidedBehind 0 = .ok (.lconst 0, 1) := by decide +kernel
theorem dX1_decidedBehind_1 : decode cX1_decidedBehind 1 = .ok (.lstore_n 3, 1) := by decide +kernel
theorem dX1_decidedBehind_2 : decode cX1_decidedBehind 2 = .ok (.bipush (-2), 2) := by decide +kernel
theorem dX1_decidedBehind_4 : decode cX1_decidedBehind 4 = .ok (.istore 5, 2) := by decide +kernel
theorem dX1_decidedBehind_6 : decode cX1_decidedBehind 6 = .ok (.iload 5, 2) := by decide +kernel
theorem dX1_decidedBehind_8 : decode cX1_decidedBehind 8 = .ok (.iconst 1, 1) := by decide +kernel
theorem dX1_decidedBehind_9 : decode cX1_decidedBehind 9 = .ok (.if_icmp .gt 75, 3) := by decide +kernel
theorem dX1_decidedBehind_12 : decode cX1_decidedBehind 12 = .ok (.aload_n 1, 1) := by decide +kernel
theorem dX1_decidedBehind_13 : decode cX1_decidedBehind 13 = .ok (.getfield 33, 3) := by decide +kernel
theorem dX1_decidedBehind_16 : decode cX1_decidedBehind 16 = .ok (.iload_n 2, 1) := by decide +kernel
theorem dX1_decidedBehind_17 : decode cX1_decidedBehind 17 = .ok (.aload_n 0, 1) := by decide +kernel
theorem dX1_decidedBehind_18 : decode cX1_decidedBehind 18 = .ok (.getfield 68, 3) := by decide +kernel
theorem dX1_decidedBehind_21 : decode cX1_decidedBehind 21 = .ok (.iload_n 2, 1) := by decide +kernel
theorem dX1_decidedBehind_22 : decode cX1_decidedBehind 22 = .ok (.iaload, 1) := by decide +kernel
theorem dX1_decidedBehind_23 : decode cX1_decidedBehind 23 = .ok (.iconst (-1), 1) := by decide +kernel
theorem dX1_decidedBehind_24 : decode cX1_decidedBehind 24 = .ok (.iload 5, 2) := by decide +kernel
theorem dX1_decidedBehind_26 : decode cX1_decidedBehind 26 = .ok (.invokestatic 71, 3) := by decide +kernel
theorem dX1_decidedBehind_29 : decode cX1_decidedBehind 29 = .ok (.i2l, 1) := by decide +kernel
theorem dX1_decidedBehind_30 : decode cX1_decidedBehind 30 = .ok (.lmul, 1) := by decide +kernel
theorem dX1_decidedBehind_31 : decode cX1_decidedBehind 31 = .ok (.lstore 6, 2) := by decide +kernel
theorem dX1_decidedBehind_33 : decode cX1_decidedBehind 33 = .ok (.aload_n 1, 1) := by decide +kernel
theorem dX1_decidedBehind_34 : decode cX1_decidedBehind 34 = .ok (.getfield 41, 3) := by decide +kernel
theorem dX1_decidedBehind_37 : decode cX1_decidedBehind 37 = .ok (.iconst 0, 1) := by decide +kernel
theorem dX1_decidedBehind_38 : decode cX1_decidedBehind 38 = .ok (.laload, 1) := by decide +kernel
theorem dX1_decidedBehind_39 : decode cX1_decidedBehind 39 = .ok (.iload_n 2, 1) := by decide +kernel
theorem dX1_decidedBehind_40 : decode cX1_decidedBehind 40 = .ok (.aload_n 0, 1) := by decide +kernel
theorem dX1_decidedBehind_41 : decode cX1_decidedBehind 41 = .ok (.getfield 68, 3) := by decide +kernel
theorem dX1_decidedBehind_44 : decode cX1_decidedBehind 44 = .ok (.iload_n 2, 1) := by decide +kernel
theorem dX1_decidedBehind_45 : decode cX1_decidedBehind 45 = .ok (.iaload, 1) := by decide +kernel
theorem dX1_decidedBehind_46 : decode cX1_decidedBehind 46 = .ok (.iconst 0, 1) := by decide +kernel
theorem dX1_decidedBehind_47 : decode cX1_decidedBehind 47 = .ok (.iload 5, 2) := by decide +kernel
theorem dX1_decidedBehind_49 : decode cX1_decidedBehind 49 = .ok (.invokestatic 71, 3) := by decide +kernel
theorem dX1_decidedBehind_52 : decode cX1_decidedBehind 52 = .ok (.i2l, 1) := by decide +kernel
theorem dX1_decidedBehind_53 : decode cX1_decidedBehind 53 = .ok (.lmul, 1) := by decide +kernel
theorem dX1_decidedBehind_54 : decode cX1_decidedBehind 54 = .ok (.lstore 8, 2) := by decide +kernel
theorem dX1_decidedBehind_56 : decode cX1_decidedBehind 56 = .ok (.lload_n 3, 1) := by decide +kernel
theorem dX1_decidedBehind_57 : decode cX1_decidedBehind 57 = .ok (.aload_n 0, 1) := by decide +kernel
theorem dX1_decidedBehind_58 : decode cX1_decidedBehind 58 = .ok (.getfield 28, 3) := by decide +kernel
theorem dX1_decidedBehind_61 : decode cX1_decidedBehind 61 = .ok (.i2l, 1) := by decide +kernel
theorem dX1_decidedBehind_62 : decode cX1_decidedBehind 62 = .ok (.lload 6, 2) := by decide +kernel
theorem dX1_decidedBehind_64 : decode cX1_decidedBehind 64 = .ok (.lmul, 1) := by decide +kernel
theorem dX1_decidedBehind_65 : decode cX1_decidedBehind 65 = .ok (.aload_n 0, 1) := by decide +kernel
theorem dX1_decidedBehind_66 : decode cX1_decidedBehind 66 = .ok (.getfield 38, 3) := by decide +kernel
theorem dX1_decidedBehind_69 : decode cX1_decidedBehind 69 = .ok (.i2l, 1) := by decide +kernel
theorem dX1_decidedBehind_70 : decode cX1_decidedBehind 70 = .ok (.lload 8, 2) := by decide +kernel
theorem dX1_decidedBehind_72 : decode cX1_decidedBehind 72 = .ok (.lmul, 1) := by decide +kernel
theorem dX1_decidedBehind_73 : decode cX1_decidedBehind 73 = .ok (.invokestatic 45, 3) := by decide +kernel
theorem dX1_decidedBehind_76 : decode cX1_decidedBehind 76 = .ok (.ladd, 1) := by decide +kernel
theorem dX1_decidedBehind_77 : decode cX1_decidedBehind 77 = .ok (.lstore_n 3, 1) := by decide +kernel
theorem dX1_decidedBehind_78 : decode cX1_decidedBehind 78 = .ok (.iinc 5 1, 3) := by decide +kernel
theorem dX1_decidedBehind_81 : decode cX1_decidedBehind 81 = .ok (.goto (-75), 3) := by decide +kernel
theorem dX1_decidedBehind_84 : decode cX1_decidedBehind 84 = .ok (.lload_n 3, 1) := by decide +kernel
theorem dX1_decidedBehind_85 : decode cX1_decidedBehind 85 = .ok (.lreturn, 1) := by decide +kernel
set_option maxRecDepth 20000 in
theorem ggX1_howFarBack_X2_minutesOver : GoodIn wsX1_howFarBack wsX2_minutesOver := goodIn_r _ [14, 15, 19, 20, 21, 22, 23, 24, 25, 26, 27, 28, 29] (by decide +kernel) (by decide +kernel)
set_option maxRecDepth 20000 in
theorem gX1_howFarBack_X2_minutesOver : GoodIn wsX1_howFarBack (wsV RX1 78 RX2 yX2_minutesOver wsX2_minutesOver) := goodIn_app (goodIn_of _ (by decide +kernel)) ggX1_howFarBack_X2_minutesOver
theorem dX1_howFarBack_0 : decode cX1_howFarBack 0 = .ok (.aload_n 0, 1) := by decide +kernel
theorem dX1_howFarBack_1 : decode cX1_howFarBack 1 = .ok (.iconst 0, 1) := by decide +kernel
theorem dX1_howFarBack_2 : decode cX1_howFarBack 2 = .ok (.putfield 17, 3) := by decide +kernel
theorem dX1_howFarBack_5 : decode cX1_howFarBack 5 = .ok (.aload_n 0, 1) := by decide +kernel
theorem dX1_howFarBack_6 : decode cX1_howFarBack 6 = .ok (.aload_n 1, 1) := by decide +kernel
theorem dX1_howFarBack_7 : decode cX1_howFarBack 7 = .ok (.getfield 28, 3) := by decide +kernel
theorem dX1_howFarBack_10 : decode cX1_howFarBack 10 = .ok (.bipush 10, 2) := by decide +kernel
theorem dX1_howFarBack_12 : decode cX1_howFarBack 12 = .ok (.imul, 1) := by decide +kernel
theorem dX1_howFarBack_13 : decode cX1_howFarBack 13 = .ok (.i2l, 1) := by decide +kernel
theorem dX1_howFarBack_14 : decode cX1_howFarBack 14 = .ok (.aload_n 2, 1) := by decide +kernel
theorem dX1_howFarBack_15 : decode cX1_howFarBack 15 = .ok (.getfield 33, 3) := by decide +kernel
theorem dX1_howFarBack_18 : decode cX1_howFarBack 18 = .ok (.lmul, 1) := by decide +kernel
theorem dX1_howFarBack_19 : decode cX1_howFarBack 19 = .ok (.putfield 21, 3) := by decide +kernel
theorem dX1_howFarBack_22 : decode cX1_howFarBack 22 = .ok (.aload_n 0, 1) := by decide +kernel
theorem dX1_howFarBack_23 : decode cX1_howFarBack 23 = .ok (.ldc2_w 58, 3) := by decide +kernel
theorem dX1_howFarBack_26 : decode cX1_howFarBack 26 = .ok (.aload_n 2, 1) := by decide +kernel
theorem dX1_howFarBack_27 : decode cX1_howFarBack 27 = .ok (.getfield 51, 3) := by decide +kernel
theorem dX1_howFarBack_30 : decode cX1_howFarBack 30 = .ok (.lmul, 1) := by decide +kernel
theorem dX1_howFarBack_31 : decode cX1_howFarBack 31 = .ok (.putfield 9, 3) := by decide +kernel
theorem dX1_howFarBack_34 : decode cX1_howFarBack 34 = .ok (.lconst 0, 1) := by decide +kernel
theorem dX1_howFarBack_35 : decode cX1_howFarBack 35 = .ok (.lstore 4, 2) := by decide +kernel
theorem dX1_howFarBack_37 : decode cX1_howFarBack 37 = .ok (.iconst 1, 1) := by decide +kernel
theorem dX1_howFarBack_38 : decode cX1_howFarBack 38 = .ok (.istore 6, 2) := by decide +kernel
theorem dX1_howFarBack_40 : decode cX1_howFarBack 40 = .ok (.iload 6, 2) := by decide +kernel
theorem dX1_howFarBack_42 : decode cX1_howFarBack 42 = .ok (.iload_n 3, 1) := by decide +kernel
theorem dX1_howFarBack_43 : decode cX1_howFarBack 43 = .ok (.if_icmp .gt 92, 3) := by decide +kernel
theorem dX1_howFarBack_46 : decode cX1_howFarBack 46 = .ok (.iload_n 3, 1) := by decide +kernel
theorem dX1_howFarBack_47 : decode cX1_howFarBack 47 = .ok (.iload 6, 2) := by decide +kernel
theorem dX1_howFarBack_49 : decode cX1_howFarBack 49 = .ok (.isub, 1) := by decide +kernel
theorem dX1_howFarBack_50 : decode cX1_howFarBack 50 = .ok (.iconst 1, 1) := by decide +kernel
theorem dX1_howFarBack_51 : decode cX1_howFarBack 51 = .ok (.iadd, 1) := by decide +kernel
theorem dX1_howFarBack_52 : decode cX1_howFarBack 52 = .ok (.istore 7, 2) := by decide +kernel
theorem dX1_howFarBack_54 : decode cX1_howFarBack 54 = .ok (.lload 4, 2) := by decide +kernel
theorem dX1_howFarBack_56 : decode cX1_howFarBack 56 = .ok (.aload_n 1, 1) := by decide +kernel
theorem dX1_howFarBack_57 : decode cX1_howFarBack 57 = .ok (.getfield 75, 3) := by decide +kernel
theorem dX1_howFarBack_60 : decode cX1_howFarBack 60 = .ok (.i2l, 1) := by decide +kernel
theorem dX1_howFarBack_61 : decode cX1_howFarBack 61 = .ok (.aload_n 2, 1) := by decide +kernel
theorem dX1_howFarBack_62 : decode cX1_howFarBack 62 = .ok (.getfield 41, 3) := by decide +kernel
theorem dX1_howFarBack_65 : decode cX1_howFarBack 65 = .ok (.iload 7, 2) := by decide +kernel
theorem dX1_howFarBack_67 : decode cX1_howFarBack 67 = .ok (.laload, 1) := by decide +kernel
theorem dX1_howFarBack_68 : decode cX1_howFarBack 68 = .ok (.lmul, 1) := by decide +kernel
theorem dX1_howFarBack_69 : decode cX1_howFarBack 69 = .ok (.ladd, 1) := by decide +kernel
theorem dX1_howFarBack_70 : decode cX1_howFarBack 70 = .ok (.lstore 4, 2) := by decide +kernel
theorem dX1_howFarBack_72 : decode cX1_howFarBack 72 = .ok (.iconst 2, 1) := by decide +kernel
theorem dX1_howFarBack_73 : decode cX1_howFarBack 73 = .ok (.aload_n 1, 1) := by decide +kernel
theorem dX1_howFarBack_74 : decode cX1_howFarBack 74 = .ok (.iload 7, 2) := by decide +kernel
theorem dX1_howFarBack_76 : decode cX1_howFarBack 76 = .ok (.iload_n 3, 1) := by decide +kernel
theorem dX1_howFarBack_77 : decode cX1_howFarBack 77 = .ok (.invokevirtual 78, 3) := by decide +kernel
theorem dX1_howFarBack_80 : decode cX1_howFarBack 80 = .ok (.imul, 1) := by decide +kernel
theorem dX1_howFarBack_81 : decode cX1_howFarBack 81 = .ok (.i2l, 1) := by decide +kernel
theorem dX1_howFarBack_82 : decode cX1_howFarBack 82 = .ok (.aload_n 0, 1) := by decide +kernel
theorem dX1_howFarBack_83 : decode cX1_howFarBack 83 = .ok (.getfield 9, 3) := by decide +kernel
theorem dX1_howFarBack_86 : decode cX1_howFarBack 86 = .ok (.lmul, 1) := by decide +kernel
theorem dX1_howFarBack_87 : decode cX1_howFarBack 87 = .ok (.aload_n 1, 1) := by decide +kernel
theorem dX1_howFarBack_88 : decode cX1_howFarBack 88 = .ok (.getfield 28, 3) := by decide +kernel
theorem dX1_howFarBack_91 : decode cX1_howFarBack 91 = .ok (.i2l, 1) := by decide +kernel
theorem dX1_howFarBack_92 : decode cX1_howFarBack 92 = .ok (.ldc2_w 58, 3) := by decide +kernel
theorem dX1_howFarBack_95 : decode cX1_howFarBack 95 = .ok (.aload_n 2, 1) := by decide +kernel
theorem dX1_howFarBack_96 : decode cX1_howFarBack 96 = .ok (.getfield 33, 3) := by decide +kernel
theorem dX1_howFarBack_99 : decode cX1_howFarBack 99 = .ok (.lmul, 1) := by decide +kernel
theorem dX1_howFarBack_100 : decode cX1_howFarBack 100 = .ok (.lload 4, 2) := by decide +kernel
theorem dX1_howFarBack_102 : decode cX1_howFarBack 102 = .ok (.lsub, 1) := by decide +kernel
theorem dX1_howFarBack_103 : decode cX1_howFarBack 103 = .ok (.lmul, 1) := by decide +kernel
theorem dX1_howFarBack_104 : decode cX1_howFarBack 104 = .ok (.ladd, 1) := by decide +kernel
theorem dX1_howFarBack_105 : decode cX1_howFarBack 105 = .ok (.lstore 8, 2) := by decide +kernel
theorem dX1_howFarBack_107 : decode cX1_howFarBack 107 = .ok (.lload 8, 2) := by decide +kernel
theorem dX1_howFarBack_109 : decode cX1_howFarBack 109 = .ok (.aload_n 0, 1) := by decide +kernel
theorem dX1_howFarBack_110 : decode cX1_howFarBack 110 = .ok (.getfield 21, 3) := by decide +kernel
theorem dX1_howFarBack_113 : decode cX1_howFarBack 113 = .ok (.lcmp, 1) := by decide +kernel
theorem dX1_howFarBack_114 : decode cX1_howFarBack 114 = .ok (.ifCond .ge 15, 3) := by decide +kernel
theorem dX1_howFarBack_117 : decode cX1_howFarBack 117 = .ok (.aload_n 0, 1) := by decide +kernel
theorem dX1_howFarBack_118 : decode cX1_howFarBack 118 = .ok (.lload 8, 2) := by decide +kernel
theorem dX1_howFarBack_120 : decode cX1_howFarBack 120 = .ok (.putfield 21, 3) := by decide +kernel
theorem dX1_howFarBack_123 : decode cX1_howFarBack 123 = .ok (.aload_n 0, 1) := by decide +kernel
theorem dX1_howFarBack_124 : decode cX1_howFarBack 124 = .ok (.iload 6, 2) := by decide +kernel
theorem dX1_howFarBack_126 : decode cX1_howFarBack 126 = .ok (.putfield 17, 3) := by decide +kernel
theorem dX1_howFarBack_129 : decode cX1_howFarBack 129 = .ok (.iinc 6 1, 3) := by decide +kernel
theorem dX1_howFarBack_132 : decode cX1_howFarBack 132 = .ok (.goto (-92), 3) := by decide +kernel
theorem dX1_howFarBack_135 : decode cX1_howFarBack 135 = .ok (.return_, 1) := by decide +kernel
set_option maxRecDepth 20000 in
theorem ggX1_whereToCount_X1_sumOfMinutes : GoodIn wsX1_whereToCount wsX1_sumOfMinutes := goodIn_r _ [10, 11, 3, 4, 12, 13, 14, 15, 16, 17, 18, 31, 32, 33, 34, 35, 36, 37, 38, 39, 40, 41, 42, 43, 44] (by decide +kernel) (by decide +kernel)
set_option maxRecDepth 20000 in
theorem gX1_whereToCount_X1_sumOfMinutes : GoodIn wsX1_whereToCount (va_wsS RX1 82 yX1_sumOfMinutes wsX1_sumOfMinutes) := goodIn_app (goodIn_of _ (by decide +kernel)) ggX1_whereToCount_X1_sumOfMinutes
set_option maxRecDepth 20000 in
theorem ggX1_whereToCount_X7_power : GoodIn wsX1_whereToCount wsX7_power := goodIn_r _ [20] (by decide +kernel) (by decide +kernel)
set_option maxRecDepth 20000 in
theorem gX1_whereToCount_X7_power_n89 : GoodIn wsX1_whereToCount (wsX7_power) := ggX1_whereToCount_X7_power
set_option maxRecDepth 20000 in
theorem ggX1_whereToCount_J6_bitCount_0f7a4 : GoodIn wsX1_whereToCount wsJ6_bitCount_0f7a4 := goodIn_r _ [24, 25, 26, 27] (by decide +kernel) (by decide +kernel)
set_option maxRecDepth 20000 in
theorem gX1_whereToCount_J6_bitCount_0f7a4 : GoodIn wsX1_whereToCount (va_wsS RX1 92 yJ6_bitCount_0f7a4 wsJ6_bitCount_0f7a4) := goodIn_app (goodIn_of _ (by decide +kernel)) ggX1_whereToCount_J6_bitCount_0f7a4
theorem dX1_whereToCount_0 : decode cX1_whereToCount 0 = .ok (.aload_n 0, 1) := by decide +kernel
theorem dX1_whereToCount_1 : decode cX1_whereToCount 1 = .ok (.iconst 0, 1) := by decide +kernel
theorem dX1_whereToCount_2 : decode cX1_whereToCount 2 = .ok (.putfield 17, 3) := by decide +kernel
theorem dX1_whereToCount_5 : decode cX1_whereToCount 5 = .ok (.aload_n 0, 1) := by decide +kernel
theorem dX1_whereToCount_6 : decode cX1_whereToCount 6 = .ok (.aload_n 1, 1) := by decide +kernel
theorem dX1_whereToCount_7 : decode cX1_whereToCount 7 = .ok (.aload_n 2, 1) := by decide +kernel
theorem dX1_whereToCount_8 : decode cX1_whereToCount 8 = .ok (.iload_n 3, 1) := by decide +kernel
theorem dX1_whereToCount_9 : decode cX1_whereToCount 9 = .ok (.iconst 0, 1) := by decide +kernel
theorem dX1_whereToCount_10 : decode cX1_whereToCount 10 = .ok (.invokestatic 82, 3) := by decide +kernel
theorem dX1_whereToCount_13 : decode cX1_whereToCount 13 = .ok (.putfield 21, 3) := by decide +kernel
theorem dX1_whereToCount_16 : decode cX1_whereToCount 16 = .ok (.aload_n 0, 1) := by decide +kernel
theorem dX1_whereToCount_17 : decode cX1_whereToCount 17 = .ok (.aload_n 2, 1) := by decide +kernel
theorem dX1_whereToCount_18 : decode cX1_whereToCount 18 = .ok (.getfield 51, 3) := by decide +kernel
theorem dX1_whereToCount_21 : decode cX1_whereToCount 21 = .ok (.bipush 10, 2) := by decide +kernel
theorem dX1_whereToCount_23 : decode cX1_whereToCount 23 = .ok (.aload_n 1, 1) := by decide +kernel
theorem dX1_whereToCount_24 : decode cX1_whereToCount 24 = .ok (.getfield 86, 3) := by decide +kernel
theorem dX1_whereToCount_27 : decode cX1_whereToCount 27 = .ok (.iload_n 3, 1) := by decide +kernel
theorem dX1_whereToCount_28 : decode cX1_whereToCount 28 = .ok (.isub, 1) := by decide +kernel
theorem dX1_whereToCount_29 : decode cX1_whereToCount 29 = .ok (.invokestatic 89, 3) := by decide +kernel
theorem dX1_whereToCount_32 : decode cX1_whereToCount 32 = .ok (.i2l, 1) := by decide +kernel
theorem dX1_whereToCount_33 : decode cX1_whereToCount 33 = .ok (.lmul, 1) := by decide +kernel
theorem dX1_whereToCount_34 : decode cX1_whereToCount 34 = .ok (.putfield 9, 3) := by decide +kernel
theorem dX1_whereToCount_37 : decode cX1_whereToCount 37 = .ok (.iconst 1, 1) := by decide +kernel
theorem dX1_whereToCount_38 : decode cX1_whereToCount 38 = .ok (.iload_n 3, 1) := by decide +kernel
theorem dX1_whereToCount_39 : decode cX1_whereToCount 39 = .ok (.ishl, 1) := by decide +kernel
theorem dX1_whereToCount_40 : decode cX1_whereToCount 40 = .ok (.istore 5, 2) := by decide +kernel
theorem dX1_whereToCount_42 : decode cX1_whereToCount 42 = .ok (.iload 5, 2) := by decide +kernel
theorem dX1_whereToCount_44 : decode cX1_whereToCount 44 = .ok (.istore 6, 2) := by decide +kernel
theorem dX1_whereToCount_46 : decode cX1_whereToCount 46 = .ok (.iload 6, 2) := by decide +kernel
theorem dX1_whereToCount_48 : decode cX1_whereToCount 48 = .ok (.iconst 1, 1) := by decide +kernel
theorem dX1_whereToCount_49 : decode cX1_whereToCount 49 = .ok (.aload_n 1, 1) := by decide +kernel
theorem dX1_whereToCount_50 : decode cX1_whereToCount 50 = .ok (.getfield 86, 3) := by decide +kernel
theorem dX1_whereToCount_53 : decode cX1_whereToCount 53 = .ok (.ishl, 1) := by decide +kernel
theorem dX1_whereToCount_54 : decode cX1_whereToCount 54 = .ok (.if_icmp .ge 62, 3) := by decide +kernel
theorem dX1_whereToCount_57 : decode cX1_whereToCount 57 = .ok (.iload 6, 2) := by decide +kernel
theorem dX1_whereToCount_59 : decode cX1_whereToCount 59 = .ok (.invokestatic 92, 3) := by decide +kernel
theorem dX1_whereToCount_62 : decode cX1_whereToCount 62 = .ok (.aload_n 1, 1) := by decide +kernel
theorem dX1_whereToCount_63 : decode cX1_whereToCount 63 = .ok (.getfield 60, 3) := by decide +kernel
theorem dX1_whereToCount_66 : decode cX1_whereToCount 66 = .ok (.iconst 1, 1) := by decide +kernel
theorem dX1_whereToCount_67 : decode cX1_whereToCount 67 = .ok (.iaload, 1) := by decide +kernel
theorem dX1_whereToCount_68 : decode cX1_whereToCount 68 = .ok (.imul, 1) := by decide +kernel
theorem dX1_whereToCount_69 : decode cX1_whereToCount 69 = .ok (.iload 4, 2) := by decide +kernel
theorem dX1_whereToCount_71 : decode cX1_whereToCount 71 = .ok (.if_icmp .gt 35, 3) := by decide +kernel
theorem dX1_whereToCount_74 : decode cX1_whereToCount 74 = .ok (.aload_n 1, 1) := by decide +kernel
theorem dX1_whereToCount_75 : decode cX1_whereToCount 75 = .ok (.aload_n 2, 1) := by decide +kernel
theorem dX1_whereToCount_76 : decode cX1_whereToCount 76 = .ok (.iload_n 3, 1) := by decide +kernel
theorem dX1_whereToCount_77 : decode cX1_whereToCount 77 = .ok (.iload 6, 2) := by decide +kernel
theorem dX1_whereToCount_79 : decode cX1_whereToCount 79 = .ok (.invokestatic 82, 3) := by decide +kernel
theorem dX1_whereToCount_82 : decode cX1_whereToCount 82 = .ok (.lstore 7, 2) := by decide +kernel
theorem dX1_whereToCount_84 : decode cX1_whereToCount 84 = .ok (.lload 7, 2) := by decide +kernel
theorem dX1_whereToCount_86 : decode cX1_whereToCount 86 = .ok (.aload_n 0, 1) := by decide +kernel
theorem dX1_whereToCount_87 : decode cX1_whereToCount 87 = .ok (.getfield 21, 3) := by decide +kernel
theorem dX1_whereToCount_90 : decode cX1_whereToCount 90 = .ok (.lcmp, 1) := by decide +kernel
theorem dX1_whereToCount_91 : decode cX1_whereToCount 91 = .ok (.ifCond .ge 15, 3) := by decide +kernel
theorem dX1_whereToCount_94 : decode cX1_whereToCount 94 = .ok (.aload_n 0, 1) := by decide +kernel
theorem dX1_whereToCount_95 : decode cX1_whereToCount 95 = .ok (.lload 7, 2) := by decide +kernel
theorem dX1_whereToCount_97 : decode cX1_whereToCount 97 = .ok (.putfield 21, 3) := by decide +kernel
theorem dX1_whereToCount_100 : decode cX1_whereToCount 100 = .ok (.aload_n 0, 1) := by decide +kernel
theorem dX1_whereToCount_101 : decode cX1_whereToCount 101 = .ok (.iload 6, 2) := by decide +kernel
theorem dX1_whereToCount_103 : decode cX1_whereToCount 103 = .ok (.putfield 17, 3) := by decide +kernel
theorem dX1_whereToCount_106 : decode cX1_whereToCount 106 = .ok (.iload 6, 2) := by decide +kernel
theorem dX1_whereToCount_108 : decode cX1_whereToCount 108 = .ok (.iload 5, 2) := by decide +kernel
theorem dX1_whereToCount_110 : decode cX1_whereToCount 110 = .ok (.iadd, 1) := by decide +kernel
theorem dX1_whereToCount_111 : decode cX1_whereToCount 111 = .ok (.istore 6, 2) := by decide +kernel
theorem dX1_whereToCount_113 : decode cX1_whereToCount 113 = .ok (.goto (-67), 3) := by decide +kernel
theorem dX1_whereToCount_116 : decode cX1_whereToCount 116 = .ok (.return_, 1) := by decide +kernel
set_option maxRecDepth 20000 in
theorem ggX1_sumOfMinutes_X7_holds : GoodIn wsX1_sumOfMinutes wsX7_holds := goodIn_r _ [10] (by decide +kernel) (by decide +kernel)
set_option maxRecDepth 20000 in
theorem gX1_sumOfMinutes_X7_holds_n107 : GoodIn wsX1_sumOfMinutes (wsX7_holds) := ggX1_sumOfMinutes_X7_holds
theorem dX1_sumOfMinutes_0 : decode cX1_sumOfMinutes 0 = .ok (.aload_n 1, 1) := by decide +kernel
theorem dX1_sumOfMinutes_1 : decode cX1_sumOfMinutes 1 = .ok (.getfield 33, 3) := by decide +kernel
theorem dX1_sumOfMinutes_4 : decode cX1_sumOfMinutes 4 = .ok (.lstore 4, 2) := by decide +kernel
theorem dX1_sumOfMinutes_6 : decode cX1_sumOfMinutes 6 = .ok (.aload_n 1, 1) := by decide +kernel
theorem dX1_sumOfMinutes_7 : decode cX1_sumOfMinutes 7 = .ok (.getfield 51, 3) := by decide +kernel
theorem dX1_sumOfMinutes_10 : decode cX1_sumOfMinutes 10 = .ok (.lstore 6, 2) := by decide +kernel
theorem dX1_sumOfMinutes_12 : decode cX1_sumOfMinutes 12 = .ok (.lconst 0, 1) := by decide +kernel
theorem dX1_sumOfMinutes_13 : decode cX1_sumOfMinutes 13 = .ok (.lstore 8, 2) := by decide +kernel
theorem dX1_sumOfMinutes_15 : decode cX1_sumOfMinutes 15 = .ok (.iload_n 2, 1) := by decide +kernel
theorem dX1_sumOfMinutes_16 : decode cX1_sumOfMinutes 16 = .ok (.iconst 1, 1) := by decide +kernel
theorem dX1_sumOfMinutes_17 : decode cX1_sumOfMinutes 17 = .ok (.iadd, 1) := by decide +kernel
theorem dX1_sumOfMinutes_18 : decode cX1_sumOfMinutes 18 = .ok (.istore 10, 2) := by decide +kernel
theorem dX1_sumOfMinutes_20 : decode cX1_sumOfMinutes 20 = .ok (.iload 10, 2) := by decide +kernel
theorem dX1_sumOfMinutes_22 : decode cX1_sumOfMinutes 22 = .ok (.aload_n 0, 1) := by decide +kernel
theorem dX1_sumOfMinutes_23 : decode cX1_sumOfMinutes 23 = .ok (.getfield 86, 3) := by decide +kernel
theorem dX1_sumOfMinutes_26 : decode cX1_sumOfMinutes 26 = .ok (.if_icmp .gt 80, 3) := by decide +kernel
theorem dX1_sumOfMinutes_29 : decode cX1_sumOfMinutes 29 = .ok (.lload 4, 2) := by decide +kernel
theorem dX1_sumOfMinutes_31 : decode cX1_sumOfMinutes 31 = .ok (.bipush 10, 2) := by decide +kernel
theorem dX1_sumOfMinutes_33 : decode cX1_sumOfMinutes 33 = .ok (.aload_n 0, 1) := by decide +kernel
theorem dX1_sumOfMinutes_34 : decode cX1_sumOfMinutes 34 = .ok (.getfield 98, 3) := by decide +kernel
theorem dX1_sumOfMinutes_37 : decode cX1_sumOfMinutes 37 = .ok (.iload 10, 2) := by decide +kernel
theorem dX1_sumOfMinutes_39 : decode cX1_sumOfMinutes 39 = .ok (.iaload, 1) := by decide +kernel
theorem dX1_sumOfMinutes_40 : decode cX1_sumOfMinutes 40 = .ok (.isub, 1) := by decide +kernel
theorem dX1_sumOfMinutes_41 : decode cX1_sumOfMinutes 41 = .ok (.i2l, 1) := by decide +kernel
theorem dX1_sumOfMinutes_42 : decode cX1_sumOfMinutes 42 = .ok (.lmul, 1) := by decide +kernel
theorem dX1_sumOfMinutes_43 : decode cX1_sumOfMinutes 43 = .ok (.lload 6, 2) := by decide +kernel
theorem dX1_sumOfMinutes_45 : decode cX1_sumOfMinutes 45 = .ok (.lload 4, 2) := by decide +kernel
theorem dX1_sumOfMinutes_47 : decode cX1_sumOfMinutes 47 = .ok (.lsub, 1) := by decide +kernel
theorem dX1_sumOfMinutes_48 : decode cX1_sumOfMinutes 48 = .ok (.aload_n 0, 1) := by decide +kernel
theorem dX1_sumOfMinutes_49 : decode cX1_sumOfMinutes 49 = .ok (.getfield 101, 3) := by decide +kernel
theorem dX1_sumOfMinutes_52 : decode cX1_sumOfMinutes 52 = .ok (.iload 10, 2) := by decide +kernel
theorem dX1_sumOfMinutes_54 : decode cX1_sumOfMinutes 54 = .ok (.iaload, 1) := by decide +kernel
theorem dX1_sumOfMinutes_55 : decode cX1_sumOfMinutes 55 = .ok (.i2l, 1) := by decide +kernel
theorem dX1_sumOfMinutes_56 : decode cX1_sumOfMinutes 56 = .ok (.lmul, 1) := by decide +kernel
theorem dX1_sumOfMinutes_57 : decode cX1_sumOfMinutes 57 = .ok (.ladd, 1) := by decide +kernel
theorem dX1_sumOfMinutes_58 : decode cX1_sumOfMinutes 58 = .ok (.lstore 4, 2) := by decide +kernel
theorem dX1_sumOfMinutes_60 : decode cX1_sumOfMinutes 60 = .ok (.lload 6, 2) := by decide +kernel
theorem dX1_sumOfMinutes_62 : decode cX1_sumOfMinutes 62 = .ok (.ldc2_w 58, 3) := by decide +kernel
theorem dX1_sumOfMinutes_65 : decode cX1_sumOfMinutes 65 = .ok (.lmul, 1) := by decide +kernel
theorem dX1_sumOfMinutes_66 : decode cX1_sumOfMinutes 66 = .ok (.lstore 6, 2) := by decide +kernel
theorem dX1_sumOfMinutes_68 : decode cX1_sumOfMinutes 68 = .ok (.lload 8, 2) := by decide +kernel
theorem dX1_sumOfMinutes_70 : decode cX1_sumOfMinutes 70 = .ok (.ldc2_w 58, 3) := by decide +kernel
theorem dX1_sumOfMinutes_73 : decode cX1_sumOfMinutes 73 = .ok (.lmul, 1) := by decide +kernel
theorem dX1_sumOfMinutes_74 : decode cX1_sumOfMinutes 74 = .ok (.aload_n 0, 1) := by decide +kernel
theorem dX1_sumOfMinutes_75 : decode cX1_sumOfMinutes 75 = .ok (.getfield 104, 3) := by decide +kernel
theorem dX1_sumOfMinutes_78 : decode cX1_sumOfMinutes 78 = .ok (.iload 10, 2) := by decide +kernel
theorem dX1_sumOfMinutes_80 : decode cX1_sumOfMinutes 80 = .ok (.iaload, 1) := by decide +kernel
theorem dX1_sumOfMinutes_81 : decode cX1_sumOfMinutes 81 = .ok (.i2l, 1) := by decide +kernel
theorem dX1_sumOfMinutes_82 : decode cX1_sumOfMinutes 82 = .ok (.lload 4, 2) := by decide +kernel
theorem dX1_sumOfMinutes_84 : decode cX1_sumOfMinutes 84 = .ok (.lmul, 1) := by decide +kernel
theorem dX1_sumOfMinutes_85 : decode cX1_sumOfMinutes 85 = .ok (.ladd, 1) := by decide +kernel
theorem dX1_sumOfMinutes_86 : decode cX1_sumOfMinutes 86 = .ok (.lstore 8, 2) := by decide +kernel
theorem dX1_sumOfMinutes_88 : decode cX1_sumOfMinutes 88 = .ok (.iload_n 3, 1) := by decide +kernel
theorem dX1_sumOfMinutes_89 : decode cX1_sumOfMinutes 89 = .ok (.iload 10, 2) := by decide +kernel
theorem dX1_sumOfMinutes_91 : decode cX1_sumOfMinutes 91 = .ok (.invokestatic 107, 3) := by decide +kernel
theorem dX1_sumOfMinutes_94 : decode cX1_sumOfMinutes 94 = .ok (.ifCond .eq 6, 3) := by decide +kernel
theorem dX1_sumOfMinutes_97 : decode cX1_sumOfMinutes 97 = .ok (.lconst 0, 1) := by decide +kernel
theorem dX1_sumOfMinutes_98 : decode cX1_sumOfMinutes 98 = .ok (.lstore 4, 2) := by decide +kernel
theorem dX1_sumOfMinutes_100 : decode cX1_sumOfMinutes 100 = .ok (.iinc 10 1, 3) := by decide +kernel
theorem dX1_sumOfMinutes_103 : decode cX1_sumOfMinutes 103 = .ok (.goto (-83), 3) := by decide +kernel
theorem dX1_sumOfMinutes_106 : decode cX1_sumOfMinutes 106 = .ok (.lload 8, 2) := by decide +kernel
theorem dX1_sumOfMinutes_108 : decode cX1_sumOfMinutes 108 = .ok (.lreturn, 1) := by decide +kernel
theorem dX2_init_0 : decode cX2_init 0 = .ok (.aload_n 0, 1) := by decide +kernel
theorem dX2_init_1 : decode cX2_init 1 = .ok (.invokespecial 3, 3) := by decide +kernel
theorem dX2_init_4 : decode cX2_init 4 = .ok (.aload_n 0, 1) := by decide +kernel
theorem dX2_init_5 : decode cX2_init 5 = .ok (.bipush 9, 2) := by decide +kernel
theorem dX2_init_7 : decode cX2_init 7 = .ok (.newarray .int, 2) := by decide +kernel
theorem dX2_init_9 : decode cX2_init 9 = .ok (.putfield 9, 3) := by decide +kernel
theorem dX2_init_12 : decode cX2_init 12 = .ok (.aload_n 0, 1) := by decide +kernel
theorem dX2_init_13 : decode cX2_init 13 = .ok (.bipush 9, 2) := by decide +kernel
theorem dX2_init_15 : decode cX2_init 15 = .ok (.newarray .int, 2) := by decide +kernel
theorem dX2_init_17 : decode cX2_init 17 = .ok (.putfield 15, 3) := by decide +kernel
theorem dX2_init_20 : decode cX2_init 20 = .ok (.aload_n 0, 1) := by decide +kernel
theorem dX2_init_21 : decode cX2_init 21 = .ok (.bipush 9, 2) := by decide +kernel
theorem dX2_init_23 : decode cX2_init 23 = .ok (.newarray .int, 2) := by decide +kernel
theorem dX2_init_25 : decode cX2_init 25 = .ok (.putfield 18, 3) := by decide +kernel
theorem dX2_init_28 : decode cX2_init 28 = .ok (.aload_n 0, 1) := by decide +kernel
theorem dX2_init_29 : decode cX2_init 29 = .ok (.iconst 4, 1) := by decide +kernel
theorem dX2_init_30 : decode cX2_init 30 = .ok (.newarray .int, 2) := by decide +kernel
theorem dX2_init_32 : decode cX2_init 32 = .ok (.putfield 21, 3) := by decide +kernel
theorem dX2_init_35 : decode cX2_init 35 = .ok (.aload_n 0, 1) := by decide +kernel
theorem dX2_init_36 : decode cX2_init 36 = .ok (.iconst 4, 1) := by decide +kernel
theorem dX2_init_37 : decode cX2_init 37 = .ok (.newarray .int, 2) := by decide +kernel
theorem dX2_init_39 : decode cX2_init 39 = .ok (.putfield 24, 3) := by decide +kernel
theorem dX2_init_42 : decode cX2_init 42 = .ok (.aload_n 0, 1) := by decide +kernel
theorem dX2_init_43 : decode cX2_init 43 = .ok (.bipush 6, 2) := by decide +kernel
theorem dX2_init_45 : decode cX2_init 45 = .ok (.bipush 6, 2) := by decide +kernel
theorem dX2_init_47 : decode cX2_init 47 = .ok (.multianewarray 27 2, 4) := by decide +kernel
theorem dX2_init_51 : decode cX2_init 51 = .ok (.putfield 29, 3) := by decide +kernel
theorem dX2_init_54 : decode cX2_init 54 = .ok (.return_, 1) := by decide +kernel
theorem dX2_clear_0 : decode cX2_clear 0 = .ok (.aload_n 0, 1) := by decide +kernel
theorem dX2_clear_1 : decode cX2_clear 1 = .ok (.iconst 0, 1) := by decide +kernel
theorem dX2_clear_2 : decode cX2_clear 2 = .ok (.putfield 32, 3) := by decide +kernel
theorem dX2_clear_5 : decode cX2_clear 5 = .ok (.iconst 0, 1) := by decide +kernel
theorem dX2_clear_6 : decode cX2_clear 6 = .ok (.istore_n 1, 1) := by decide +kernel
theorem dX2_clear_7 : decode cX2_clear 7 = .ok (.iload_n 1, 1) := by decide +kernel
theorem dX2_clear_8 : decode cX2_clear 8 = .ok (.iconst 4, 1) := by decide +kernel
theorem dX2_clear_9 : decode cX2_clear 9 = .ok (.if_icmp .ge 23, 3) := by decide +kernel
theorem dX2_clear_12 : decode cX2_clear 12 = .ok (.aload_n 0, 1) := by decide +kernel
theorem dX2_clear_13 : decode cX2_clear 13 = .ok (.getfield 21, 3) := by decide +kernel
theorem dX2_clear_16 : decode cX2_clear 16 = .ok (.iload_n 1, 1) := by decide +kernel
theorem dX2_clear_17 : decode cX2_clear 17 = .ok (.iconst 1, 1) := by decide +kernel
theorem dX2_clear_18 : decode cX2_clear 18 = .ok (.iastore, 1) := by decide +kernel
theorem dX2_clear_19 : decode cX2_clear 19 = .ok (.aload_n 0, 1) := by decide +kernel
theorem dX2_clear_20 : decode cX2_clear 20 = .ok (.getfield 24, 3) := by decide +kernel
theorem dX2_clear_23 : decode cX2_clear 23 = .ok (.iload_n 1, 1) := by decide +kernel
theorem dX2_clear_24 : decode cX2_clear 24 = .ok (.iconst 2, 1) := by decide +kernel
theorem dX2_clear_25 : decode cX2_clear 25 = .ok (.iastore, 1) := by decide +kernel
theorem dX2_clear_26 : decode cX2_clear 26 = .ok (.iinc 1 1, 3) := by decide +kernel
theorem dX2_clear_29 : decode cX2_clear 29 = .ok (.goto (-22), 3) := by decide +kernel
theorem dX2_clear_32 : decode cX2_clear 32 = .ok (.aload_n 0, 1) := by decide +kernel
theorem dX2_clear_33 : decode cX2_clear 33 = .ok (.bipush 60, 2) := by decide +kernel
theorem dX2_clear_35 : decode cX2_clear 35 = .ok (.putfield 36, 3) := by decide +kernel
theorem dX2_clear_38 : decode cX2_clear 38 = .ok (.aload_n 0, 1) := by decide +kernel
theorem dX2_clear_39 : decode cX2_clear 39 = .ok (.bipush 10, 2) := by decide +kernel
theorem dX2_clear_41 : decode cX2_clear 41 = .ok (.putfield 39, 3) := by decide +kernel
theorem dX2_clear_44 : decode cX2_clear 44 = .ok (.aload_n 0, 1) := by decide +kernel
theorem dX2_clear_45 : decode cX2_clear 45 = .ok (.bipush 8, 2) := by decide +kernel
theorem dX2_clear_47 : decode cX2_clear 47 = .ok (.putfield 42, 3) := by decide +kernel
theorem dX2_clear_50 : decode cX2_clear 50 = .ok (.aload_n 0, 1) := by decide +kernel
theorem dX2_clear_51 : decode cX2_clear 51 = .ok (.iconst 4, 1) := by decide +kernel
theorem dX2_clear_52 : decode cX2_clear 52 = .ok (.putfield 45, 3) := by decide +kernel
theorem dX2_clear_55 : decode cX2_clear 55 = .ok (.iconst 0, 1) := by decide +kernel
theorem dX2_clear_56 : decode cX2_clear 56 = .ok (.istore_n 1, 1) := by decide +kernel
theorem dX2_clear_57 : decode cX2_clear 57 = .ok (.iload_n 1, 1) := by decide +kernel
theorem dX2_clear_58 : decode cX2_clear 58 = .ok (.bipush 6, 2) := by decide +kernel
theorem dX2_clear_60 : decode cX2_clear 60 = .ok (.if_icmp .ge 32, 3) := by decide +kernel
theorem dX2_clear_63 : decode cX2_clear 63 = .ok (.iconst 0, 1) := by decide +kernel
theorem dX2_clear_64 : decode cX2_clear 64 = .ok (.istore_n 2, 1) := by decide +kernel
theorem dX2_clear_65 : decode cX2_clear 65 = .ok (.iload_n 2, 1) := by decide +kernel
theorem dX2_clear_66 : decode cX2_clear 66 = .ok (.bipush 6, 2) := by decide +kernel
theorem dX2_clear_68 : decode cX2_clear 68 = .ok (.if_icmp .ge 18, 3) := by decide +kernel
theorem dX2_clear_71 : decode cX2_clear 71 = .ok (.aload_n 0, 1) := by decide +kernel
theorem dX2_clear_72 : decode cX2_clear 72 = .ok (.getfield 29, 3) := by decide +kernel
theorem dX2_clear_75 : decode cX2_clear 75 = .ok (.iload_n 1, 1) := by decide +kernel
theorem dX2_clear_76 : decode cX2_clear 76 = .ok (.aaload, 1) := by decide +kernel
theorem dX2_clear_77 : decode cX2_clear 77 = .ok (.iload_n 2, 1) := by decide +kernel
theorem dX2_clear_78 : decode cX2_clear 78 = .ok (.iconst 0, 1) := by decide +kernel
theorem dX2_clear_79 : decode cX2_clear 79 = .ok (.iastore, 1) := by decide +kernel
theorem dX2_clear_80 : decode cX2_clear 80 = .ok (.iinc 2 1, 3) := by decide +kernel
theorem dX2_clear_83 : decode cX2_clear 83 = .ok (.goto (-18), 3) := by decide +kernel
theorem dX2_clear_86 : decode cX2_clear 86 = .ok (.iinc 1 1, 3) := by decide +kernel
theorem dX2_clear_89 : decode cX2_clear 89 = .ok (.goto (-32), 3) := by decide +kernel
theorem dX2_clear_92 : decode cX2_clear 92 = .ok (.return_, 1) := by decide +kernel
theorem dX2_canBeLaid_0 : decode cX2_canBeLaid 0 = .ok (.aload_n 0, 1) := by decide +kernel
theorem dX2_canBeLaid_1 : decode cX2_canBeLaid 1 = .ok (.getfield 32, 3) := by decide +kernel
theorem dX2_canBeLaid_4 : decode cX2_canBeLaid 4 = .ok (.iconst 1, 1) := by decide +kernel
theorem dX2_canBeLaid_5 : decode cX2_canBeLaid 5 = .ok (.if_icmp .ge 5, 3) := by decide +kernel
theorem dX2_canBeLaid_8 : decode cX2_canBeLaid 8 = .ok (.iconst 0, 1) := by decide +kernel
theorem dX2_canBeLaid_9 : decode cX2_canBeLaid 9 = .ok (.ireturn, 1) := by decide +kernel
theorem dX2_canBeLaid_10 : decode cX2_canBeLaid 10 = .ok (.iconst 0, 1) := by decide +kernel
theorem dX2_canBeLaid_11 : decode cX2_canBeLaid 11 = .ok (.istore_n 1, 1) := by decide +kernel
theorem dX2_canBeLaid_12 : decode cX2_canBeLaid 12 = .ok (.iload_n 1, 1) := by decide +kernel
theorem dX2_canBeLaid_13 : decode cX2_canBeLaid 13 = .ok (.bipush 6, 2) := by decide +kernel
theorem dX2_canBeLaid_15 : decode cX2_canBeLaid 15 = .ok (.if_icmp .ge 39, 3) := by decide +kernel
theorem dX2_canBeLaid_18 : decode cX2_canBeLaid 18 = .ok (.aload_n 0, 1) := by decide +kernel
theorem dX2_canBeLaid_19 : decode cX2_canBeLaid 19 = .ok (.getfield 45, 3) := by decide +kernel
theorem dX2_canBeLaid_22 : decode cX2_canBeLaid 22 = .ok (.istore_n 2, 1) := by decide +kernel
theorem dX2_canBeLaid_23 : decode cX2_canBeLaid 23 = .ok (.iload_n 2, 1) := by decide +kernel
theorem dX2_canBeLaid_24 : decode cX2_canBeLaid 24 = .ok (.bipush 6, 2) := by decide +kernel
theorem dX2_canBeLaid_26 : decode cX2_canBeLaid 26 = .ok (.if_icmp .ge 22, 3) := by decide +kernel
theorem dX2_canBeLaid_29 : decode cX2_canBeLaid 29 = .ok (.aload_n 0, 1) := by decide +kernel
theorem dX2_canBeLaid_30 : decode cX2_canBeLaid 30 = .ok (.getfield 29, 3) := by decide +kernel
theorem dX2_canBeLaid_33 : decode cX2_canBeLaid 33 = .ok (.iload_n 1, 1) := by decide +kernel
theorem dX2_canBeLaid_34 : decode cX2_canBeLaid 34 = .ok (.aaload, 1) := by decide +kernel
theorem dX2_canBeLaid_35 : decode cX2_canBeLaid 35 = .ok (.iload_n 2, 1) := by decide +kernel
theorem dX2_canBeLaid_36 : decode cX2_canBeLaid 36 = .ok (.iaload, 1) := by decide +kernel
theorem dX2_canBeLaid_37 : decode cX2_canBeLaid 37 = .ok (.ifCond .eq 5, 3) := by decide +kernel
theorem dX2_canBeLaid_40 : decode cX2_canBeLaid 40 = .ok (.iconst 0, 1) := by decide +kernel
theorem dX2_canBeLaid_41 : decode cX2_canBeLaid 41 = .ok (.ireturn, 1) := by decide +kernel
theorem dX2_canBeLaid_42 : decode cX2_canBeLaid 42 = .ok (.iinc 2 1, 3) := by decide +kernel
theorem dX2_canBeLaid_45 : decode cX2_canBeLaid 45 = .ok (.goto (-22), 3) := by decide +kernel
theorem dX2_canBeLaid_48 : decode cX2_canBeLaid 48 = .ok (.iinc 1 1, 3) := by decide +kernel
theorem dX2_canBeLaid_51 : decode cX2_canBeLaid 51 = .ok (.goto (-39), 3) := by decide +kernel
theorem dX2_canBeLaid_54 : decode cX2_canBeLaid 54 = .ok (.iconst 1, 1) := by decide +kernel
theorem dX2_canBeLaid_55 : decode cX2_canBeLaid 55 = .ok (.ireturn, 1) := by decide +kernel
theorem dX2_minutesOver_0 : decode cX2_minutesOver 0 = .ok (.iconst 0, 1) := by decide +kernel
theorem dX2_minutesOver_1 : decode cX2_minutesOver 1 = .ok (.istore_n 3, 1) := by decide +kernel
theorem dX2_minutesOver_2 : decode cX2_minutesOver 2 = .ok (.iload_n 1, 1) := by decide +kernel
theorem dX2_minutesOver_3 : decode cX2_minutesOver 3 = .ok (.istore 4, 2) := by decide +kernel
theorem dX2_minutesOver_5 : decode cX2_minutesOver 5 = .ok (.iload 4, 2) := by decide +kernel
theorem dX2_minutesOver_7 : decode cX2_minutesOver 7 = .ok (.iload_n 2, 1) := by decide +kernel
theorem dX2_minutesOver_8 : decode cX2_minutesOver 8 = .ok (.if_icmp .gt 19, 3) := by decide +kernel
theorem dX2_minutesOver_11 : decode cX2_minutesOver 11 = .ok (.iload_n 3, 1) := by decide +kernel
theorem dX2_minutesOver_12 : decode cX2_minutesOver 12 = .ok (.aload_n 0, 1) := by decide +kernel
theorem dX2_minutesOver_13 : decode cX2_minutesOver 13 = .ok (.getfield 9, 3) := by decide +kernel
theorem dX2_minutesOver_16 : decode cX2_minutesOver 16 = .ok (.iload 4, 2) := by decide +kernel
theorem dX2_minutesOver_18 : decode cX2_minutesOver 18 = .ok (.iaload, 1) := by decide +kernel
theorem dX2_minutesOver_19 : decode cX2_minutesOver 19 = .ok (.iadd, 1) := by decide +kernel
theorem dX2_minutesOver_20 : decode cX2_minutesOver 20 = .ok (.istore_n 3, 1) := by decide +kernel
theorem dX2_minutesOver_21 : decode cX2_minutesOver 21 = .ok (.iinc 4 1, 3) := by decide +kernel
theorem dX2_minutesOver_24 : decode cX2_minutesOver 24 = .ok (.goto (-19), 3) := by decide +kernel
theorem dX2_minutesOver_27 : decode cX2_minutesOver 27 = .ok (.iload_n 3, 1) := by decide +kernel
theorem dX2_minutesOver_28 : decode cX2_minutesOver 28 = .ok (.ireturn, 1) := by decide +kernel
theorem dX3_init_0 : decode cX3_init 0 = .ok (.aload_n 0, 1) := by decide +kernel
theorem dX3_init_1 : decode cX3_init 1 = .ok (.invokespecial 3, 3) := by decide +kernel
theorem dX3_init_4 : decode cX3_init 4 = .ok (.aload_n 0, 1) := by decide +kernel
theorem dX3_init_5 : decode cX3_init 5 = .ok (.bipush 6, 2) := by decide +kernel
theorem dX3_init_7 : decode cX3_init 7 = .ok (.newarray .int, 2) := by decide +kernel
theorem dX3_init_9 : decode cX3_init 9 = .ok (.putfield 9, 3) := by decide +kernel
theorem dX3_init_12 : decode cX3_init 12 = .ok (.aload_n 0, 1) := by decide +kernel
theorem dX3_init_13 : decode cX3_init 13 = .ok (.bipush 6, 2) := by decide +kernel
theorem dX3_init_15 : decode cX3_init 15 = .ok (.newarray .int, 2) := by decide +kernel
theorem dX3_init_17 : decode cX3_init 17 = .ok (.putfield 15, 3) := by decide +kernel
theorem dX3_init_20 : decode cX3_init 20 = .ok (.return_, 1) := by decide +kernel
set_option maxRecDepth 20000 in
theorem ggX3_seek_X3_place : GoodIn wsX3_seek wsX3_place := goodIn_r _ [10, 5, 1, 11, 12, 13, 14, 9, 15, 4, 3, 2, 6, 7, 8, 20, 21, 22, 23, 24, 25, 26, 27, 28, 29, 30, 16, 17, 18, 19] (by decide +kernel) (by decide +kernel)
set_option maxRecDepth 20000 in
theorem gX3_seek_X3_place : GoodIn wsX3_seek (wsV RX3 31 RX3 yX3_place wsX3_place) := goodIn_app (goodIn_of _ (by decide +kernel)) ggX3_seek_X3_place
theorem dX3_seek_0 : decode cX3_seek 0 = .ok (.iconst 0, 1) := by decide +kernel
theorem dX3_seek_1 : decode cX3_seek 1 = .ok (.istore_n 2, 1) := by decide +kernel
theorem dX3_seek_2 : decode cX3_seek 2 = .ok (.iload_n 2, 1) := by decide +kernel
theorem dX3_seek_3 : decode cX3_seek 3 = .ok (.bipush 6, 2) := by decide +kernel
theorem dX3_seek_5 : decode cX3_seek 5 = .ok (.if_icmp .ge 25, 3) := by decide +kernel
theorem dX3_seek_8 : decode cX3_seek 8 = .ok (.aload_n 0, 1) := by decide +kernel
theorem dX3_seek_9 : decode cX3_seek 9 = .ok (.getfield 9, 3) := by decide +kernel
theorem dX3_seek_12 : decode cX3_seek 12 = .ok (.iload_n 2, 1) := by decide +kernel
theorem dX3_seek_13 : decode cX3_seek 13 = .ok (.bipush (-9), 2) := by decide +kernel
theorem dX3_seek_15 : decode cX3_seek 15 = .ok (.iastore, 1) := by decide +kernel
theorem dX3_seek_16 : decode cX3_seek 16 = .ok (.aload_n 0, 1) := by decide +kernel
theorem dX3_seek_17 : decode cX3_seek 17 = .ok (.getfield 15, 3) := by decide +kernel
theorem dX3_seek_20 : decode cX3_seek 20 = .ok (.iload_n 2, 1) := by decide +kernel
theorem dX3_seek_21 : decode cX3_seek 21 = .ok (.bipush (-4), 2) := by decide +kernel
theorem dX3_seek_23 : decode cX3_seek 23 = .ok (.iastore, 1) := by decide +kernel
theorem dX3_seek_24 : decode cX3_seek 24 = .ok (.iinc 2 1, 3) := by decide +kernel
theorem dX3_seek_27 : decode cX3_seek 27 = .ok (.goto (-25), 3) := by decide +kernel
theorem dX3_seek_30 : decode cX3_seek 30 = .ok (.aload_n 0, 1) := by decide +kernel
theorem dX3_seek_31 : decode cX3_seek 31 = .ok (.iconst 0, 1) := by decide +kernel
theorem dX3_seek_32 : decode cX3_seek 32 = .ok (.putfield 18, 3) := by decide +kernel
theorem dX3_seek_35 : decode cX3_seek 35 = .ok (.aload_n 0, 1) := by decide +kernel
theorem dX3_seek_36 : decode cX3_seek 36 = .ok (.iconst 0, 1) := by decide +kernel
theorem dX3_seek_37 : decode cX3_seek 37 = .ok (.putfield 22, 3) := by decide +kernel
theorem dX3_seek_40 : decode cX3_seek 40 = .ok (.aload_n 0, 1) := by decide +kernel
theorem dX3_seek_41 : decode cX3_seek 41 = .ok (.aload_n 1, 1) := by decide +kernel
theorem dX3_seek_42 : decode cX3_seek 42 = .ok (.iconst 0, 1) := by decide +kernel
theorem dX3_seek_43 : decode cX3_seek 43 = .ok (.aload_n 1, 1) := by decide +kernel
theorem dX3_seek_44 : decode cX3_seek 44 = .ok (.getfield 26, 3) := by decide +kernel
theorem dX3_seek_47 : decode cX3_seek 47 = .ok (.iconst 2, 1) := by decide +kernel
theorem dX3_seek_48 : decode cX3_seek 48 = .ok (.irem, 1) := by decide +kernel
theorem dX3_seek_49 : decode cX3_seek 49 = .ok (.ifCond .eq 7, 3) := by decide +kernel
theorem dX3_seek_52 : decode cX3_seek 52 = .ok (.iconst 1, 1) := by decide +kernel
theorem dX3_seek_53 : decode cX3_seek 53 = .ok (.goto 4, 3) := by decide +kernel
theorem dX3_seek_56 : decode cX3_seek 56 = .ok (.iconst 0, 1) := by decide +kernel
theorem dX3_seek_57 : decode cX3_seek 57 = .ok (.iconst 0, 1) := by decide +kernel
theorem dX3_seek_58 : decode cX3_seek 58 = .ok (.invokevirtual 31, 3) := by decide +kernel
theorem dX3_seek_61 : decode cX3_seek 61 = .ok (.return_, 1) := by decide +kernel
set_option maxRecDepth 20000 in
theorem ggX3_place_X3_settle : GoodIn wsX3_place wsX3_settle := goodIn_r _ [8, 9, 10, 11, 2, 26, 27, 28, 29] (by decide +kernel) (by decide +kernel)
set_option maxRecDepth 20000 in
theorem gX3_place_X3_settle : GoodIn wsX3_place (wsV RX3 35 RX3 yX3_settle wsX3_settle) := goodIn_app (goodIn_of _ (by decide +kernel)) ggX3_place_X3_settle
set_option maxRecDepth 20000 in
theorem ggX3_place_X3_place : GoodIn wsX3_place wsX3_place := goodIn_r _ [0, 1, 2, 3, 4, 5, 6, 7, 8, 9, 10, 11, 12, 13, 14, 15, 16, 17, 18, 19, 20, 21, 22, 23, 24, 25, 26, 27, 28, 29] (by decide +kernel) (by decide +kernel)
set_option maxRecDepth 20000 in
theorem gX3_place_X3_place : GoodIn wsX3_place (wsV RX3 31 RX3 yX3_place wsX3_place) := goodIn_app (goodIn_of _ (by decide +kernel)) ggX3_place_X3_place
theorem dX3_place_0 : decode cX3_place 0 = .ok (.iload_n 2, 1) := by decide +kernel
theorem dX3_place_1 : decode cX3_place 1 = .ok (.aload_n 1, 1) := by decide +kernel
theorem dX3_place_2 : decode cX3_place 2 = .ok (.getfield 26, 3) := by decide +kernel
theorem dX3_place_5 : decode cX3_place 5 = .ok (.if_icmp .ge 9, 3) := by decide +kernel
theorem dX3_place_8 : decode cX3_place 8 = .ok (.iload_n 2, 1) := by decide +kernel
theorem dX3_place_9 : decode cX3_place 9 = .ok (.bipush 6, 2) := by decide +kernel
theorem dX3_place_11 : decode cX3_place 11 = .ok (.if_icmp .lt 10, 3) := by decide +kernel
theorem dX3_place_14 : decode cX3_place 14 = .ok (.aload_n 0, 1) := by decide +kernel
theorem dX3_place_15 : decode cX3_place 15 = .ok (.iload 4, 2) := by decide +kernel
theorem dX3_place_17 : decode cX3_place 17 = .ok (.invokevirtual 35, 3) := by decide +kernel
theorem dX3_place_20 : decode cX3_place 20 = .ok (.return_, 1) := by decide +kernel
theorem dX3_place_21 : decode cX3_place 21 = .ok (.aload_n 0, 1) := by decide +kernel
theorem dX3_place_22 : decode cX3_place 22 = .ok (.getfield 9, 3) := by decide +kernel
theorem dX3_place_25 : decode cX3_place 25 = .ok (.iload_n 2, 1) := by decide +kernel
theorem dX3_place_26 : decode cX3_place 26 = .ok (.iaload, 1) := by decide +kernel
theorem dX3_place_27 : decode cX3_place 27 = .ok (.bipush (-9), 2) := by decide +kernel
theorem dX3_place_29 : decode cX3_place 29 = .ok (.if_icmp .eq 15, 3) := by decide +kernel
theorem dX3_place_32 : decode cX3_place 32 = .ok (.aload_n 0, 1) := by decide +kernel
theorem dX3_place_33 : decode cX3_place 33 = .ok (.aload_n 1, 1) := by decide +kernel
theorem dX3_place_34 : decode cX3_place 34 = .ok (.iload_n 2, 1) := by decide +kernel
theorem dX3_place_35 : decode cX3_place 35 = .ok (.iconst 1, 1) := by decide +kernel
theorem dX3_place_36 : decode cX3_place 36 = .ok (.iadd, 1) := by decide +kernel
theorem dX3_place_37 : decode cX3_place 37 = .ok (.iload_n 3, 1) := by decide +kernel
theorem dX3_place_38 : decode cX3_place 38 = .ok (.iload 4, 2) := by decide +kernel
theorem dX3_place_40 : decode cX3_place 40 = .ok (.invokevirtual 31, 3) := by decide +kernel
theorem dX3_place_43 : decode cX3_place 43 = .ok (.return_, 1) := by decide +kernel
theorem dX3_place_44 : decode cX3_place 44 = .ok (.iload_n 3, 1) := by decide +kernel
theorem dX3_place_45 : decode cX3_place 45 = .ok (.ifCond .eq 22, 3) := by decide +kernel
theorem dX3_place_48 : decode cX3_place 48 = .ok (.aload_n 0, 1) := by decide +kernel
theorem dX3_place_49 : decode cX3_place 49 = .ok (.getfield 9, 3) := by decide +kernel
theorem dX3_place_52 : decode cX3_place 52 = .ok (.iload_n 2, 1) := by decide +kernel
theorem dX3_place_53 : decode cX3_place 53 = .ok (.bipush (-4), 2) := by decide +kernel
theorem dX3_place_55 : decode cX3_place 55 = .ok (.iastore, 1) := by decide +kernel
theorem dX3_place_56 : decode cX3_place 56 = .ok (.aload_n 0, 1) := by decide +kernel
theorem dX3_place_57 : decode cX3_place 57 = .ok (.aload_n 1, 1) := by decide +kernel
theorem dX3_place_58 : decode cX3_place 58 = .ok (.iload_n 2, 1) := by decide +kernel
theorem dX3_place_59 : decode cX3_place 59 = .ok (.iconst 1, 1) := by decide +kernel
theorem dX3_place_60 : decode cX3_place 60 = .ok (.iadd, 1) := by decide +kernel
theorem dX3_place_61 : decode cX3_place 61 = .ok (.iconst 0, 1) := by decide +kernel
theorem dX3_place_62 : decode cX3_place 62 = .ok (.iload 4, 2) := by decide +kernel
theorem dX3_place_64 : decode cX3_place 64 = .ok (.invokevirtual 31, 3) := by decide +kernel
theorem dX3_place_67 : decode cX3_place 67 = .ok (.iload_n 2, 1) := by decide +kernel
theorem dX3_place_68 : decode cX3_place 68 = .ok (.iconst 1, 1) := by decide +kernel
theorem dX3_place_69 : decode cX3_place 69 = .ok (.iadd, 1) := by decide +kernel
theorem dX3_place_70 : decode cX3_place 70 = .ok (.istore 5, 2) := by decide +kernel
theorem dX3_place_72 : decode cX3_place 72 = .ok (.iload 5, 2) := by decide +kernel
theorem dX3_place_74 : decode cX3_place 74 = .ok (.aload_n 1, 1) := by decide +kernel
theorem dX3_place_75 : decode cX3_place 75 = .ok (.getfield 26, 3) := by decide +kernel
theorem dX3_place_78 : decode cX3_place 78 = .ok (.if_icmp .ge 67, 3) := by decide +kernel
theorem dX3_place_81 : decode cX3_place 81 = .ok (.aload_n 0, 1) := by decide +kernel
theorem dX3_place_82 : decode cX3_place 82 = .ok (.getfield 9, 3) := by decide +kernel
theorem dX3_place_85 : decode cX3_place 85 = .ok (.iload 5, 2) := by decide +kernel
theorem dX3_place_87 : decode cX3_place 87 = .ok (.iaload, 1) := by decide +kernel
theorem dX3_place_88 : decode cX3_place 88 = .ok (.bipush (-9), 2) := by decide +kernel
theorem dX3_place_90 : decode cX3_place 90 = .ok (.if_icmp .ne 49, 3) := by decide +kernel
theorem dX3_place_93 : decode cX3_place 93 = .ok (.aload_n 0, 1) := by decide +kernel
