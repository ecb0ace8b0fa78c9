theorem dX3_place_94 : decode cX3_place 94 = .ok (.getfield 9, 3) := by decide +kernel
theorem dX3_place_97 : decode cX3_place 97 = .ok (.iload_n 2, 1) := by decide +kernel
theorem dX3_place_98 : decode cX3_place 98 = .ok (.iload 5, 2) := by decide +kernel
theorem dX3_place_100 : decode cX3_place 100 = .ok (.iastore, 1) := by decide +kernel
theorem dX3_place_101 : decode cX3_place 101 = .ok (.aload_n 0, 1) := by decide +kernel
theorem dX3_place_102 : decode cX3_place 102 = .ok (.getfield 9, 3) := by decide +kernel
theorem dX3_place_105 : decode cX3_place 105 = .ok (.iload 5, 2) := by decide +kernel
theorem dX3_place_107 : decode cX3_place 107 = .ok (.iload_n 2, 1) := by decide +kernel
theorem dX3_place_108 : decode cX3_place 108 = .ok (.iastore, 1) := by decide +kernel
theorem dX3_place_109 : decode cX3_place 109 = .ok (.aload_n 0, 1) := by decide +kernel
theorem dX3_place_110 : decode cX3_place 110 = .ok (.aload_n 1, 1) := by decide +kernel
theorem dX3_place_111 : decode cX3_place 111 = .ok (.iload_n 2, 1) := by decide +kernel
theorem dX3_place_112 : decode cX3_place 112 = .ok (.iconst 1, 1) := by decide +kernel
theorem dX3_place_113 : decode cX3_place 113 = .ok (.iadd, 1) := by decide +kernel
theorem dX3_place_114 : decode cX3_place 114 = .ok (.iload_n 3, 1) := by decide +kernel
theorem dX3_place_115 : decode cX3_place 115 = .ok (.iload 4, 2) := by decide +kernel
theorem dX3_place_117 : decode cX3_place 117 = .ok (.aload_n 1, 1) := by decide +kernel
theorem dX3_place_118 : decode cX3_place 118 = .ok (.getfield 39, 3) := by decide +kernel
theorem dX3_place_121 : decode cX3_place 121 = .ok (.iload_n 2, 1) := by decide +kernel
theorem dX3_place_122 : decode cX3_place 122 = .ok (.aaload, 1) := by decide +kernel
theorem dX3_place_123 : decode cX3_place 123 = .ok (.iload 5, 2) := by decide +kernel
theorem dX3_place_125 : decode cX3_place 125 = .ok (.iaload, 1) := by decide +kernel
theorem dX3_place_126 : decode cX3_place 126 = .ok (.iadd, 1) := by decide +kernel
theorem dX3_place_127 : decode cX3_place 127 = .ok (.invokevirtual 31, 3) := by decide +kernel
theorem dX3_place_130 : decode cX3_place 130 = .ok (.aload_n 0, 1) := by decide +kernel
theorem dX3_place_131 : decode cX3_place 131 = .ok (.getfield 9, 3) := by decide +kernel
theorem dX3_place_134 : decode cX3_place 134 = .ok (.iload 5, 2) := by decide +kernel
theorem dX3_place_136 : decode cX3_place 136 = .ok (.bipush (-9), 2) := by decide +kernel
theorem dX3_place_138 : decode cX3_place 138 = .ok (.iastore, 1) := by decide +kernel
theorem dX3_place_139 : decode cX3_place 139 = .ok (.iinc 5 1, 3) := by decide +kernel
theorem dX3_place_142 : decode cX3_place 142 = .ok (.goto (-70), 3) := by decide +kernel
theorem dX3_place_145 : decode cX3_place 145 = .ok (.aload_n 0, 1) := by decide +kernel
theorem dX3_place_146 : decode cX3_place 146 = .ok (.getfield 9, 3) := by decide +kernel
theorem dX3_place_149 : decode cX3_place 149 = .ok (.iload_n 2, 1) := by decide +kernel
theorem dX3_place_150 : decode cX3_place 150 = .ok (.bipush (-9), 2) := by decide +kernel
theorem dX3_place_152 : decode cX3_place 152 = .ok (.iastore, 1) := by decide +kernel
theorem dX3_place_153 : decode cX3_place 153 = .ok (.return_, 1) := by decide +kernel
theorem dX3_settle_0 : decode cX3_settle 0 = .ok (.aload_n 0, 1) := by decide +kernel
theorem dX3_settle_1 : decode cX3_settle 1 = .ok (.getfield 22, 3) := by decide +kernel
theorem dX3_settle_4 : decode cX3_settle 4 = .ok (.ifCond .eq 12, 3) := by decide +kernel
theorem dX3_settle_7 : decode cX3_settle 7 = .ok (.iload_n 1, 1) := by decide +kernel
theorem dX3_settle_8 : decode cX3_settle 8 = .ok (.aload_n 0, 1) := by decide +kernel
theorem dX3_settle_9 : decode cX3_settle 9 = .ok (.getfield 18, 3) := by decide +kernel
theorem dX3_settle_12 : decode cX3_settle 12 = .ok (.if_icmp .lt 4, 3) := by decide +kernel
theorem dX3_settle_15 : decode cX3_settle 15 = .ok (.return_, 1) := by decide +kernel
theorem dX3_settle_16 : decode cX3_settle 16 = .ok (.aload_n 0, 1) := by decide +kernel
theorem dX3_settle_17 : decode cX3_settle 17 = .ok (.iconst 1, 1) := by decide +kernel
theorem dX3_settle_18 : decode cX3_settle 18 = .ok (.putfield 22, 3) := by decide +kernel
theorem dX3_settle_21 : decode cX3_settle 21 = .ok (.aload_n 0, 1) := by decide +kernel
theorem dX3_settle_22 : decode cX3_settle 22 = .ok (.iload_n 1, 1) := by decide +kernel
theorem dX3_settle_23 : decode cX3_settle 23 = .ok (.putfield 18, 3) := by decide +kernel
theorem dX3_settle_26 : decode cX3_settle 26 = .ok (.iconst 0, 1) := by decide +kernel
theorem dX3_settle_27 : decode cX3_settle 27 = .ok (.istore_n 2, 1) := by decide +kernel
theorem dX3_settle_28 : decode cX3_settle 28 = .ok (.iload_n 2, 1) := by decide +kernel
theorem dX3_settle_29 : decode cX3_settle 29 = .ok (.bipush 6, 2) := by decide +kernel
theorem dX3_settle_31 : decode cX3_settle 31 = .ok (.if_icmp .ge 21, 3) := by decide +kernel
theorem dX3_settle_34 : decode cX3_settle 34 = .ok (.aload_n 0, 1) := by decide +kernel
theorem dX3_settle_35 : decode cX3_settle 35 = .ok (.getfield 15, 3) := by decide +kernel
theorem dX3_settle_38 : decode cX3_settle 38 = .ok (.iload_n 2, 1) := by decide +kernel
theorem dX3_settle_39 : decode cX3_settle 39 = .ok (.aload_n 0, 1) := by decide +kernel
theorem dX3_settle_40 : decode cX3_settle 40 = .ok (.getfield 9, 3) := by decide +kernel
theorem dX3_settle_43 : decode cX3_settle 43 = .ok (.iload_n 2, 1) := by decide +kernel
theorem dX3_settle_44 : decode cX3_settle 44 = .ok (.iaload, 1) := by decide +kernel
theorem dX3_settle_45 : decode cX3_settle 45 = .ok (.iastore, 1) := by decide +kernel
theorem dX3_settle_46 : decode cX3_settle 46 = .ok (.iinc 2 1, 3) := by decide +kernel
theorem dX3_settle_49 : decode cX3_settle 49 = .ok (.goto (-21), 3) := by decide +kernel
theorem dX3_settle_52 : decode cX3_settle 52 = .ok (.return_, 1) := by decide +kernel
theorem dX4_init_0 : decode cX4_init 0 = .ok (.aload_n 0, 1) := by decide +kernel
theorem dX4_init_1 : decode cX4_init 1 = .ok (.invokespecial 3, 3) := by decide +kernel
theorem dX4_init_4 : decode cX4_init 4 = .ok (.aload_n 0, 1) := by decide +kernel
theorem dX4_init_5 : decode cX4_init 5 = .ok (.iconst 3, 1) := by decide +kernel
theorem dX4_init_6 : decode cX4_init 6 = .ok (.newarray .int, 2) := by decide +kernel
theorem dX4_init_8 : decode cX4_init 8 = .ok (.putfield 11, 3) := by decide +kernel
theorem dX4_init_11 : decode cX4_init 11 = .ok (.return_, 1) := by decide +kernel
set_option maxRecDepth 20000 in
theorem ggX4_readInto_X2_clear : GoodIn wsX4_readInto wsX2_clear := goodIn_r _ [7, 8, 9, 10, 11, 12, 13, 14, 15, 155, 156, 157, 158, 159, 160, 161, 162, 163, 164, 165] (by decide +kernel) (by decide +kernel)
set_option maxRecDepth 20000 in
theorem gX4_readInto_X2_clear : GoodIn wsX4_readInto (wsV RX4 15 RX2 yX2_clear wsX2_clear) := goodIn_app (goodIn_of _ (by decide +kernel)) ggX4_readInto_X2_clear
set_option maxRecDepth 20000 in
theorem ggX4_readInto_X4_readItem : GoodIn wsX4_readInto wsX4_readItem := goodIn_r _ [20, 1, 21, 22, 23, 24, 25, 26, 27, 28, 29, 30, 31, 32, 33, 34, 35, 36, 37, 38, 39, 40, 41, 42, 43, 44, 45, 46, 47, 48, 49, 50, 51, 52, 53, 54, 55, 56, 57, 58, 59, 60, 61, 62, 63, 64, 65, 66, 67, 68, 69, 70, 71, 72, 73, 74, 75, 76, 77, 78, 79, 80, 81, 82, 83, 84, 85, 86, 87, 88, 89, 90, 91, 92, 93, 94, 95, 96, 97, 98, 99, 100, 101, 102, 103, 104, 105, 106, 107, 108, 109, 110, 111, 112, 113, 114, 115, 116, 117, 118, 119, 120, 121, 122, 123, 19, 124, 125, 126, 127, 128, 129, 130, 131, 132, 133, 134, 135, 136, 137, 138, 139, 140, 141, 142, 143, 144, 145, 146, 147, 148, 149, 150, 151, 152, 153, 154, 155, 156, 157, 158, 159, 160, 161, 162, 163, 164, 165] (by decide +kernel) (by decide +kernel)
set_option maxRecDepth 20000 in
theorem gX4_readInto_X4_readItem : GoodIn wsX4_readInto (wsV RX4 29 RX4 yX4_readItem wsX4_readItem) := goodIn_app (goodIn_of _ (by decide +kernel)) ggX4_readInto_X4_readItem
theorem dX4_readInto_0 : decode cX4_readInto 0 = .ok (.aload_n 1, 1) := by decide +kernel
theorem dX4_readInto_1 : decode cX4_readInto 1 = .ok (.invokevirtual 15, 3) := by decide +kernel
theorem dX4_readInto_4 : decode cX4_readInto 4 = .ok (.aload_n 0, 1) := by decide +kernel
theorem dX4_readInto_5 : decode cX4_readInto 5 = .ok (.iconst 0, 1) := by decide +kernel
theorem dX4_readInto_6 : decode cX4_readInto 6 = .ok (.putfield 20, 3) := by decide +kernel
theorem dX4_readInto_9 : decode cX4_readInto 9 = .ok (.iconst 0, 1) := by decide +kernel
theorem dX4_readInto_10 : decode cX4_readInto 10 = .ok (.istore_n 3, 1) := by decide +kernel
theorem dX4_readInto_11 : decode cX4_readInto 11 = .ok (.iload_n 3, 1) := by decide +kernel
theorem dX4_readInto_12 : decode cX4_readInto 12 = .ok (.sipush 200, 3) := by decide +kernel
theorem dX4_readInto_15 : decode cX4_readInto 15 = .ok (.if_icmp .ge 38, 3) := by decide +kernel
theorem dX4_readInto_18 : decode cX4_readInto 18 = .ok (.aload_n 0, 1) := by decide +kernel
theorem dX4_readInto_19 : decode cX4_readInto 19 = .ok (.getfield 20, 3) := by decide +kernel
theorem dX4_readInto_22 : decode cX4_readInto 22 = .ok (.aload_n 2, 1) := by decide +kernel
theorem dX4_readInto_23 : decode cX4_readInto 23 = .ok (.getfield 24, 3) := by decide +kernel
theorem dX4_readInto_26 : decode cX4_readInto 26 = .ok (.if_icmp .ge 27, 3) := by decide +kernel
theorem dX4_readInto_29 : decode cX4_readInto 29 = .ok (.aload_n 0, 1) := by decide +kernel
theorem dX4_readInto_30 : decode cX4_readInto 30 = .ok (.getfield 20, 3) := by decide +kernel
theorem dX4_readInto_33 : decode cX4_readInto 33 = .ok (.istore 4, 2) := by decide +kernel
theorem dX4_readInto_35 : decode cX4_readInto 35 = .ok (.aload_n 0, 1) := by decide +kernel
theorem dX4_readInto_36 : decode cX4_readInto 36 = .ok (.aload_n 1, 1) := by decide +kernel
theorem dX4_readInto_37 : decode cX4_readInto 37 = .ok (.aload_n 2, 1) := by decide +kernel
theorem dX4_readInto_38 : decode cX4_readInto 38 = .ok (.invokevirtual 29, 3) := by decide +kernel
theorem dX4_readInto_41 : decode cX4_readInto 41 = .ok (.ifCond .ne 6, 3) := by decide +kernel
theorem dX4_readInto_44 : decode cX4_readInto 44 = .ok (.iload 4, 2) := by decide +kernel
theorem dX4_readInto_46 : decode cX4_readInto 46 = .ok (.ireturn, 1) := by decide +kernel
theorem dX4_readInto_47 : decode cX4_readInto 47 = .ok (.iinc 3 1, 3) := by decide +kernel
theorem dX4_readInto_50 : decode cX4_readInto 50 = .ok (.goto (-39), 3) := by decide +kernel
theorem dX4_readInto_53 : decode cX4_readInto 53 = .ok (.bipush (-4), 2) := by decide +kernel
theorem dX4_readInto_55 : decode cX4_readInto 55 = .ok (.ireturn, 1) := by decide +kernel
set_option maxRecDepth 20000 in
theorem ggX4_readItem_X5_at : GoodIn wsX4_readItem wsX5_at := goodIn_r _ [10, 11, 12, 135, 136] (by decide +kernel) (by decide +kernel)
set_option maxRecDepth 20000 in
theorem gX4_readItem_X5_at : GoodIn wsX4_readItem (wsV RX4 35 RX5 yX5_at wsX5_at) := goodIn_app (goodIn_of _ (by decide +kernel)) ggX4_readItem_X5_at
set_option maxRecDepth 20000 in
theorem ggX4_readItem_J0_indexOf_0f7a4 : GoodIn wsX4_readItem wsJ0_indexOf_0f7a4 := goodIn_r _ [17, 18, 19, 20, 16, 21, 22, 23, 24, 25, 26, 27, 28, 29, 30, 31, 32, 33, 34, 35, 36, 37, 38, 39, 40, 41, 42, 43, 44, 45, 46, 47, 48, 49, 50, 51, 52, 53, 54, 55, 56, 57, 58, 59, 60, 61, 62, 63, 64, 65, 66, 67, 68, 69, 70, 71, 72, 73, 74, 75, 76, 77, 78, 79, 80, 81, 82, 83, 84, 85, 86, 87, 88, 89, 90, 91, 92, 93, 94, 95, 96, 97, 98, 99, 100, 101] (by decide +kernel) (by decide +kernel)
set_option maxRecDepth 20000 in
theorem gX4_readItem_J0_indexOf_0f7a4 : GoodIn wsX4_readItem (wsV RX4 39 RJ0 yJ0_indexOf_0f7a4 wsJ0_indexOf_0f7a4) := goodIn_app (goodIn_of _ (by decide +kernel)) ggX4_readItem_J0_indexOf_0f7a4
set_option maxRecDepth 20000 in
theorem ggX4_readItem_X4_readNumber : GoodIn wsX4_readItem wsX4_readNumber := goodIn_r _ [106, 1, 3, 6, 7, 8, 9, 10, 11, 12, 107, 108, 105, 109, 133, 134, 135, 136] (by decide +kernel) (by decide +kernel)
set_option maxRecDepth 20000 in
theorem gX4_readItem_X4_readNumber : GoodIn wsX4_readItem (wsV RX4 48 RX4 yX4_readNumber wsX4_readNumber) := goodIn_app (goodIn_of _ (by decide +kernel)) ggX4_readItem_X4_readNumber
set_option maxRecDepth 20000 in
theorem ggX4_readItem_X4_enter : GoodIn wsX4_readItem wsX4_enter := goodIn_r _ [113, 114, 3, 115, 116, 117, 118, 119, 120, 121, 122, 105, 123, 124, 125, 126, 127, 128, 129, 130, 131, 132, 137, 138, 139, 140, 141, 142, 143, 144, 145, 146, 147, 133, 134] (by decide +kernel) (by decide +kernel)
set_option maxRecDepth 20000 in
theorem gX4_readItem_X4_enter : GoodIn wsX4_readItem (wsV RX4 58 RX4 yX4_enter wsX4_enter) := goodIn_app (goodIn_of _ (by decide +kernel)) ggX4_readItem_X4_enter
theorem dX4_readItem_0 : decode cX4_readItem 0 = .ok (.ldc 33, 2) := by decide +kernel
theorem dX4_readItem_2 : decode cX4_readItem 2 = .ok (.aload_n 2, 1) := by decide +kernel
theorem dX4_readItem_3 : decode cX4_readItem 3 = .ok (.aload_n 0, 1) := by decide +kernel
theorem dX4_readItem_4 : decode cX4_readItem 4 = .ok (.getfield 20, 3) := by decide +kernel
theorem dX4_readItem_7 : decode cX4_readItem 7 = .ok (.invokevirtual 35, 3) := by decide +kernel
theorem dX4_readItem_10 : decode cX4_readItem 10 = .ok (.invokevirtual 39, 3) := by decide +kernel
theorem dX4_readItem_13 : decode cX4_readItem 13 = .ok (.istore_n 3, 1) := by decide +kernel
theorem dX4_readItem_14 : decode cX4_readItem 14 = .ok (.iload_n 3, 1) := by decide +kernel
theorem dX4_readItem_15 : decode cX4_readItem 15 = .ok (.ifCond .ge 5, 3) := by decide +kernel
theorem dX4_readItem_18 : decode cX4_readItem 18 = .ok (.iconst 0, 1) := by decide +kernel
theorem dX4_readItem_19 : decode cX4_readItem 19 = .ok (.ireturn, 1) := by decide +kernel
theorem dX4_readItem_20 : decode cX4_readItem 20 = .ok (.aload_n 0, 1) := by decide +kernel
theorem dX4_readItem_21 : decode cX4_readItem 21 = .ok (.dup, 1) := by decide +kernel
theorem dX4_readItem_22 : decode cX4_readItem 22 = .ok (.getfield 20, 3) := by decide +kernel
theorem dX4_readItem_25 : decode cX4_readItem 25 = .ok (.iconst 1, 1) := by decide +kernel
theorem dX4_readItem_26 : decode cX4_readItem 26 = .ok (.iadd, 1) := by decide +kernel
theorem dX4_readItem_27 : decode cX4_readItem 27 = .ok (.putfield 20, 3) := by decide +kernel
theorem dX4_readItem_30 : decode cX4_readItem 30 = .ok (.iconst 0, 1) := by decide +kernel
theorem dX4_readItem_31 : decode cX4_readItem 31 = .ok (.istore 4, 2) := by decide +kernel
theorem dX4_readItem_33 : decode cX4_readItem 33 = .ok (.iload 4, 2) := by decide +kernel
theorem dX4_readItem_35 : decode cX4_readItem 35 = .ok (.getstatic 45, 3) := by decide +kernel
theorem dX4_readItem_38 : decode cX4_readItem 38 = .ok (.iload_n 3, 1) := by decide +kernel
theorem dX4_readItem_39 : decode cX4_readItem 39 = .ok (.iaload, 1) := by decide +kernel
theorem dX4_readItem_40 : decode cX4_readItem 40 = .ok (.if_icmp .ge 107, 3) := by decide +kernel
theorem dX4_readItem_43 : decode cX4_readItem 43 = .ok (.iload 4, 2) := by decide +kernel
theorem dX4_readItem_45 : decode cX4_readItem 45 = .ok (.getstatic 45, 3) := by decide +kernel
theorem dX4_readItem_48 : decode cX4_readItem 48 = .ok (.iload_n 3, 1) := by decide +kernel
theorem dX4_readItem_49 : decode cX4_readItem 49 = .ok (.iaload, 1) := by decide +kernel
theorem dX4_readItem_50 : decode cX4_readItem 50 = .ok (.iconst 1, 1) := by decide +kernel
theorem dX4_readItem_51 : decode cX4_readItem 51 = .ok (.isub, 1) := by decide +kernel
theorem dX4_readItem_52 : decode cX4_readItem 52 = .ok (.if_icmp .ne 8, 3) := by decide +kernel
theorem dX4_readItem_55 : decode cX4_readItem 55 = .ok (.bipush 59, 2) := by decide +kernel
theorem dX4_readItem_57 : decode cX4_readItem 57 = .ok (.goto 5, 3) := by decide +kernel
theorem dX4_readItem_60 : decode cX4_readItem 60 = .ok (.bipush 44, 2) := by decide +kernel
theorem dX4_readItem_62 : decode cX4_readItem 62 = .ok (.istore 5, 2) := by decide +kernel
theorem dX4_readItem_64 : decode cX4_readItem 64 = .ok (.aload_n 0, 1) := by decide +kernel
theorem dX4_readItem_65 : decode cX4_readItem 65 = .ok (.aload_n 2, 1) := by decide +kernel
theorem dX4_readItem_66 : decode cX4_readItem 66 = .ok (.iload 4, 2) := by decide +kernel
theorem dX4_readItem_68 : decode cX4_readItem 68 = .ok (.invokevirtual 48, 3) := by decide +kernel
theorem dX4_readItem_71 : decode cX4_readItem 71 = .ok (.ifCond .eq 16, 3) := by decide +kernel
theorem dX4_readItem_74 : decode cX4_readItem 74 = .ok (.aload_n 2, 1) := by decide +kernel
theorem dX4_readItem_75 : decode cX4_readItem 75 = .ok (.aload_n 0, 1) := by decide +kernel
theorem dX4_readItem_76 : decode cX4_readItem 76 = .ok (.getfield 20, 3) := by decide +kernel
theorem dX4_readItem_79 : decode cX4_readItem 79 = .ok (.invokevirtual 35, 3) := by decide +kernel
theorem dX4_readItem_82 : decode cX4_readItem 82 = .ok (.iload 5, 2) := by decide +kernel
theorem dX4_readItem_84 : decode cX4_readItem 84 = .ok (.if_icmp .eq 5, 3) := by decide +kernel
theorem dX4_readItem_87 : decode cX4_readItem 87 = .ok (.iconst 0, 1) := by decide +kernel
theorem dX4_readItem_88 : decode cX4_readItem 88 = .ok (.ireturn, 1) := by decide +kernel
theorem dX4_readItem_89 : decode cX4_readItem 89 = .ok (.aload_n 0, 1) := by decide +kernel
theorem dX4_readItem_90 : decode cX4_readItem 90 = .ok (.dup, 1) := by decide +kernel
theorem dX4_readItem_91 : decode cX4_readItem 91 = .ok (.getfield 20, 3) := by decide +kernel
theorem dX4_readItem_94 : decode cX4_readItem 94 = .ok (.iconst 1, 1) := by decide +kernel
theorem dX4_readItem_95 : decode cX4_readItem 95 = .ok (.iadd, 1) := by decide +kernel
theorem dX4_readItem_96 : decode cX4_readItem 96 = .ok (.putfield 20, 3) := by decide +kernel
theorem dX4_readItem_99 : decode cX4_readItem 99 = .ok (.iload_n 3, 1) := by decide +kernel
theorem dX4_readItem_100 : decode cX4_readItem 100 = .ok (.iconst 3, 1) := by decide +kernel
theorem dX4_readItem_101 : decode cX4_readItem 101 = .ok (.imul, 1) := by decide +kernel
theorem dX4_readItem_102 : decode cX4_readItem 102 = .ok (.iload 4, 2) := by decide +kernel
theorem dX4_readItem_104 : decode cX4_readItem 104 = .ok (.iadd, 1) := by decide +kernel
theorem dX4_readItem_105 : decode cX4_readItem 105 = .ok (.istore 6, 2) := by decide +kernel
theorem dX4_readItem_107 : decode cX4_readItem 107 = .ok (.aload_n 0, 1) := by decide +kernel
theorem dX4_readItem_108 : decode cX4_readItem 108 = .ok (.getfield 11, 3) := by decide +kernel
theorem dX4_readItem_111 : decode cX4_readItem 111 = .ok (.iload 4, 2) := by decide +kernel
theorem dX4_readItem_113 : decode cX4_readItem 113 = .ok (.iaload, 1) := by decide +kernel
theorem dX4_readItem_114 : decode cX4_readItem 114 = .ok (.getstatic 52, 3) := by decide +kernel
theorem dX4_readItem_117 : decode cX4_readItem 117 = .ok (.iload 6, 2) := by decide +kernel
theorem dX4_readItem_119 : decode cX4_readItem 119 = .ok (.iaload, 1) := by decide +kernel
theorem dX4_readItem_120 : decode cX4_readItem 120 = .ok (.if_icmp .lt 19, 3) := by decide +kernel
theorem dX4_readItem_123 : decode cX4_readItem 123 = .ok (.aload_n 0, 1) := by decide +kernel
theorem dX4_readItem_124 : decode cX4_readItem 124 = .ok (.getfield 11, 3) := by decide +kernel
theorem dX4_readItem_127 : decode cX4_readItem 127 = .ok (.iload 4, 2) := by decide +kernel
theorem dX4_readItem_129 : decode cX4_readItem 129 = .ok (.iaload, 1) := by decide +kernel
theorem dX4_readItem_130 : decode cX4_readItem 130 = .ok (.getstatic 55, 3) := by decide +kernel
theorem dX4_readItem_133 : decode cX4_readItem 133 = .ok (.iload 6, 2) := by decide +kernel
theorem dX4_readItem_135 : decode cX4_readItem 135 = .ok (.iaload, 1) := by decide +kernel
theorem dX4_readItem_136 : decode cX4_readItem 136 = .ok (.if_icmp .le 5, 3) := by decide +kernel
theorem dX4_readItem_139 : decode cX4_readItem 139 = .ok (.iconst 0, 1) := by decide +kernel
theorem dX4_readItem_140 : decode cX4_readItem 140 = .ok (.ireturn, 1) := by decide +kernel
theorem dX4_readItem_141 : decode cX4_readItem 141 = .ok (.iinc 4 1, 3) := by decide +kernel
theorem dX4_readItem_144 : decode cX4_readItem 144 = .ok (.goto (-111), 3) := by decide +kernel
theorem dX4_readItem_147 : decode cX4_readItem 147 = .ok (.aload_n 0, 1) := by decide +kernel
theorem dX4_readItem_148 : decode cX4_readItem 148 = .ok (.aload_n 1, 1) := by decide +kernel
theorem dX4_readItem_149 : decode cX4_readItem 149 = .ok (.iload_n 3, 1) := by decide +kernel
theorem dX4_readItem_150 : decode cX4_readItem 150 = .ok (.invokevirtual 58, 3) := by decide +kernel
theorem dX4_readItem_153 : decode cX4_readItem 153 = .ok (.ireturn, 1) := by decide +kernel
set_option maxRecDepth 20000 in
theorem ggX4_readNumber_X5_at : GoodIn wsX4_readNumber wsX5_at := goodIn_r _ [7, 8, 9, 16, 17] (by decide +kernel) (by decide +kernel)
set_option maxRecDepth 20000 in
theorem gX4_readNumber_X5_at : GoodIn wsX4_readNumber (wsV RX4 35 RX5 yX5_at wsX5_at) := goodIn_app (goodIn_of _ (by decide +kernel)) ggX4_readNumber_X5_at
set_option maxRecDepth 20000 in
theorem ggX4_readNumber_X4_isFigure : GoodIn wsX4_readNumber wsX4_isFigure := goodIn_r _ [13] (by decide +kernel) (by decide +kernel)
set_option maxRecDepth 20000 in
theorem gX4_readNumber_X4_isFigure : GoodIn wsX4_readNumber (va_wsS RX4 62 yX4_isFigure wsX4_isFigure) := goodIn_app (goodIn_of _ (by decide +kernel)) ggX4_readNumber_X4_isFigure
theorem dX4_readNumber_0 : decode cX4_readNumber 0 = .ok (.aload_n 1, 1) := by decide +kernel
theorem dX4_readNumber_1 : decode cX4_readNumber 1 = .ok (.aload_n 0, 1) := by decide +kernel
theorem dX4_readNumber_2 : decode cX4_readNumber 2 = .ok (.getfield 20, 3) := by decide +kernel
theorem dX4_readNumber_5 : decode cX4_readNumber 5 = .ok (.invokevirtual 35, 3) := by decide +kernel
theorem dX4_readNumber_8 : decode cX4_readNumber 8 = .ok (.invokestatic 62, 3) := by decide +kernel
theorem dX4_readNumber_11 : decode cX4_readNumber 11 = .ok (.ifCond .ne 5, 3) := by decide +kernel
theorem dX4_readNumber_14 : decode cX4_readNumber 14 = .ok (.iconst 0, 1) := by decide +kernel
theorem dX4_readNumber_15 : decode cX4_readNumber 15 = .ok (.ireturn, 1) := by decide +kernel
theorem dX4_readNumber_16 : decode cX4_readNumber 16 = .ok (.aload_n 0, 1) := by decide +kernel
theorem dX4_readNumber_17 : decode cX4_readNumber 17 = .ok (.getfield 11, 3) := by decide +kernel
theorem dX4_readNumber_20 : decode cX4_readNumber 20 = .ok (.iload_n 2, 1) := by decide +kernel
theorem dX4_readNumber_21 : decode cX4_readNumber 21 = .ok (.aload_n 1, 1) := by decide +kernel
theorem dX4_readNumber_22 : decode cX4_readNumber 22 = .ok (.aload_n 0, 1) := by decide +kernel
theorem dX4_readNumber_23 : decode cX4_readNumber 23 = .ok (.getfield 20, 3) := by decide +kernel
theorem dX4_readNumber_26 : decode cX4_readNumber 26 = .ok (.invokevirtual 35, 3) := by decide +kernel
theorem dX4_readNumber_29 : decode cX4_readNumber 29 = .ok (.bipush 48, 2) := by decide +kernel
theorem dX4_readNumber_31 : decode cX4_readNumber 31 = .ok (.isub, 1) := by decide +kernel
theorem dX4_readNumber_32 : decode cX4_readNumber 32 = .ok (.iastore, 1) := by decide +kernel
theorem dX4_readNumber_33 : decode cX4_readNumber 33 = .ok (.aload_n 0, 1) := by decide +kernel
theorem dX4_readNumber_34 : decode cX4_readNumber 34 = .ok (.dup, 1) := by decide +kernel
theorem dX4_readNumber_35 : decode cX4_readNumber 35 = .ok (.getfield 20, 3) := by decide +kernel
theorem dX4_readNumber_38 : decode cX4_readNumber 38 = .ok (.iconst 1, 1) := by decide +kernel
theorem dX4_readNumber_39 : decode cX4_readNumber 39 = .ok (.iadd, 1) := by decide +kernel
theorem dX4_readNumber_40 : decode cX4_readNumber 40 = .ok (.putfield 20, 3) := by decide +kernel
theorem dX4_readNumber_43 : decode cX4_readNumber 43 = .ok (.aload_n 1, 1) := by decide +kernel
theorem dX4_readNumber_44 : decode cX4_readNumber 44 = .ok (.aload_n 0, 1) := by decide +kernel
theorem dX4_readNumber_45 : decode cX4_readNumber 45 = .ok (.getfield 20, 3) := by decide +kernel
theorem dX4_readNumber_48 : decode cX4_readNumber 48 = .ok (.invokevirtual 35, 3) := by decide +kernel
theorem dX4_readNumber_51 : decode cX4_readNumber 51 = .ok (.invokestatic 62, 3) := by decide +kernel
theorem dX4_readNumber_54 : decode cX4_readNumber 54 = .ok (.ifCond .eq 40, 3) := by decide +kernel
theorem dX4_readNumber_57 : decode cX4_readNumber 57 = .ok (.aload_n 0, 1) := by decide +kernel
theorem dX4_readNumber_58 : decode cX4_readNumber 58 = .ok (.getfield 11, 3) := by decide +kernel
theorem dX4_readNumber_61 : decode cX4_readNumber 61 = .ok (.iload_n 2, 1) := by decide +kernel
theorem dX4_readNumber_62 : decode cX4_readNumber 62 = .ok (.aload_n 0, 1) := by decide +kernel
theorem dX4_readNumber_63 : decode cX4_readNumber 63 = .ok (.getfield 11, 3) := by decide +kernel
theorem dX4_readNumber_66 : decode cX4_readNumber 66 = .ok (.iload_n 2, 1) := by decide +kernel
theorem dX4_readNumber_67 : decode cX4_readNumber 67 = .ok (.iaload, 1) := by decide +kernel
theorem dX4_readNumber_68 : decode cX4_readNumber 68 = .ok (.bipush 10, 2) := by decide +kernel
theorem dX4_readNumber_70 : decode cX4_readNumber 70 = .ok (.imul, 1) := by decide +kernel
theorem dX4_readNumber_71 : decode cX4_readNumber 71 = .ok (.aload_n 1, 1) := by decide +kernel
theorem dX4_readNumber_72 : decode cX4_readNumber 72 = .ok (.aload_n 0, 1) := by decide +kernel
theorem dX4_readNumber_73 : decode cX4_readNumber 73 = .ok (.getfield 20, 3) := by decide +kernel
theorem dX4_readNumber_76 : decode cX4_readNumber 76 = .ok (.invokevirtual 35, 3) := by decide +kernel
theorem dX4_readNumber_79 : decode cX4_readNumber 79 = .ok (.iadd, 1) := by decide +kernel
theorem dX4_readNumber_80 : decode cX4_readNumber 80 = .ok (.bipush 48, 2) := by decide +kernel
theorem dX4_readNumber_82 : decode cX4_readNumber 82 = .ok (.isub, 1) := by decide +kernel
theorem dX4_readNumber_83 : decode cX4_readNumber 83 = .ok (.iastore, 1) := by decide +kernel
theorem dX4_readNumber_84 : decode cX4_readNumber 84 = .ok (.aload_n 0, 1) := by decide +kernel
theorem dX4_readNumber_85 : decode cX4_readNumber 85 = .ok (.dup, 1) := by decide +kernel
theorem dX4_readNumber_86 : decode cX4_readNumber 86 = .ok (.getfield 20, 3) := by decide +kernel
theorem dX4_readNumber_89 : decode cX4_readNumber 89 = .ok (.iconst 1, 1) := by decide +kernel
theorem dX4_readNumber_90 : decode cX4_readNumber 90 = .ok (.iadd, 1) := by decide +kernel
theorem dX4_readNumber_91 : decode cX4_readNumber 91 = .ok (.putfield 20, 3) := by decide +kernel
theorem dX4_readNumber_94 : decode cX4_readNumber 94 = .ok (.iconst 1, 1) := by decide +kernel
theorem dX4_readNumber_95 : decode cX4_readNumber 95 = .ok (.ireturn, 1) := by decide +kernel
theorem dX4_isFigure_0 : decode cX4_isFigure 0 = .ok (.iload_n 0, 1) := by decide +kernel
theorem dX4_isFigure_1 : decode cX4_isFigure 1 = .ok (.bipush 48, 2) := by decide +kernel
theorem dX4_isFigure_3 : decode cX4_isFigure 3 = .ok (.if_icmp .lt 13, 3) := by decide +kernel
theorem dX4_isFigure_6 : decode cX4_isFigure 6 = .ok (.iload_n 0, 1) := by decide +kernel
theorem dX4_isFigure_7 : decode cX4_isFigure 7 = .ok (.bipush 57, 2) := by decide +kernel
theorem dX4_isFigure_9 : decode cX4_isFigure 9 = .ok (.if_icmp .gt 7, 3) := by decide +kernel
theorem dX4_isFigure_12 : decode cX4_isFigure 12 = .ok (.iconst 1, 1) := by decide +kernel
theorem dX4_isFigure_13 : decode cX4_isFigure 13 = .ok (.goto 4, 3) := by decide +kernel
theorem dX4_isFigure_16 : decode cX4_isFigure 16 = .ok (.iconst 0, 1) := by decide +kernel
theorem dX4_isFigure_17 : decode cX4_isFigure 17 = .ok (.ireturn, 1) := by decide +kernel
set_option maxRecDepth 20000 in
theorem ggX4_enter_X4_enterStretch : GoodIn wsX4_enter wsX4_enterStretch := goodIn_r _ [12, 13, 14, 2, 15, 16, 22, 23, 24, 25, 26, 27, 28, 29, 30, 31, 32, 33, 34] (by decide +kernel) (by decide +kernel)
set_option maxRecDepth 20000 in
theorem gX4_enter_X4_enterStretch : GoodIn wsX4_enter (wsV RX4 66 RX4 yX4_enterStretch wsX4_enterStretch) := goodIn_app (goodIn_of _ (by decide +kernel)) ggX4_enter_X4_enterStretch
set_option maxRecDepth 20000 in
theorem ggX4_enter_X4_enterTie : GoodIn wsX4_enter wsX4_enterTie := goodIn_r _ [20, 2, 21, 33, 34, 22, 23, 24, 25, 26, 27, 28, 29, 30, 31, 32] (by decide +kernel) (by decide +kernel)
set_option maxRecDepth 20000 in
theorem gX4_enter_X4_enterTie : GoodIn wsX4_enter (wsV RX4 88 RX4 yX4_enterTie wsX4_enterTie) := goodIn_app (goodIn_of _ (by decide +kernel)) ggX4_enter_X4_enterTie
theorem dX4_enter_0 : decode cX4_enter 0 = .ok (.iload_n 2, 1) := by decide +kernel
theorem dX4_enter_1 : decode cX4_enter 1 = .ok (.tableswitch 117 0 3 #[31, 37, 73, 105], 31) := by decide +kernel
theorem dX4_enter_32 : decode cX4_enter 32 = .ok (.aload_n 0, 1) := by decide +kernel
theorem dX4_enter_33 : decode cX4_enter 33 = .ok (.aload_n 1, 1) := by decide +kernel
theorem dX4_enter_34 : decode cX4_enter 34 = .ok (.invokevirtual 66, 3) := by decide +kernel
theorem dX4_enter_37 : decode cX4_enter 37 = .ok (.ireturn, 1) := by decide +kernel
theorem dX4_enter_38 : decode cX4_enter 38 = .ok (.aload_n 1, 1) := by decide +kernel
theorem dX4_enter_39 : decode cX4_enter 39 = .ok (.getfield 70, 3) := by decide +kernel
theorem dX4_enter_42 : decode cX4_enter 42 = .ok (.aload_n 0, 1) := by decide +kernel
theorem dX4_enter_43 : decode cX4_enter 43 = .ok (.getfield 11, 3) := by decide +kernel
theorem dX4_enter_46 : decode cX4_enter 46 = .ok (.iconst 0, 1) := by decide +kernel
theorem dX4_enter_47 : decode cX4_enter 47 = .ok (.iaload, 1) := by decide +kernel
theorem dX4_enter_48 : decode cX4_enter 48 = .ok (.aload_n 0, 1) := by decide +kernel
theorem dX4_enter_49 : decode cX4_enter 49 = .ok (.getfield 11, 3) := by decide +kernel
theorem dX4_enter_52 : decode cX4_enter 52 = .ok (.iconst 1, 1) := by decide +kernel
theorem dX4_enter_53 : decode cX4_enter 53 = .ok (.iaload, 1) := by decide +kernel
theorem dX4_enter_54 : decode cX4_enter 54 = .ok (.iastore, 1) := by decide +kernel
theorem dX4_enter_55 : decode cX4_enter 55 = .ok (.aload_n 1, 1) := by decide +kernel
theorem dX4_enter_56 : decode cX4_enter 56 = .ok (.getfield 73, 3) := by decide +kernel
theorem dX4_enter_59 : decode cX4_enter 59 = .ok (.aload_n 0, 1) := by decide +kernel
theorem dX4_enter_60 : decode cX4_enter 60 = .ok (.getfield 11, 3) := by decide +kernel
theorem dX4_enter_63 : decode cX4_enter 63 = .ok (.iconst 0, 1) := by decide +kernel
theorem dX4_enter_64 : decode cX4_enter 64 = .ok (.iaload, 1) := by decide +kernel
theorem dX4_enter_65 : decode cX4_enter 65 = .ok (.aload_n 0, 1) := by decide +kernel
theorem dX4_enter_66 : decode cX4_enter 66 = .ok (.getfield 11, 3) := by decide +kernel
theorem dX4_enter_69 : decode cX4_enter 69 = .ok (.iconst 2, 1) := by decide +kernel
theorem dX4_enter_70 : decode cX4_enter 70 = .ok (.iaload, 1) := by decide +kernel
theorem dX4_enter_71 : decode cX4_enter 71 = .ok (.iastore, 1) := by decide +kernel
theorem dX4_enter_72 : decode cX4_enter 72 = .ok (.iconst 1, 1) := by decide +kernel
theorem dX4_enter_73 : decode cX4_enter 73 = .ok (.ireturn, 1) := by decide +kernel
theorem dX4_enter_74 : decode cX4_enter 74 = .ok (.aload_n 1, 1) := by decide +kernel
theorem dX4_enter_75 : decode cX4_enter 75 = .ok (.aload_n 0, 1) := by decide +kernel
theorem dX4_enter_76 : decode cX4_enter 76 = .ok (.getfield 11, 3) := by decide +kernel
theorem dX4_enter_79 : decode cX4_enter 79 = .ok (.iconst 0, 1) := by decide +kernel
theorem dX4_enter_80 : decode cX4_enter 80 = .ok (.iaload, 1) := by decide +kernel
theorem dX4_enter_81 : decode cX4_enter 81 = .ok (.putfield 76, 3) := by decide +kernel
theorem dX4_enter_84 : decode cX4_enter 84 = .ok (.aload_n 1, 1) := by decide +kernel
theorem dX4_enter_85 : decode cX4_enter 85 = .ok (.aload_n 0, 1) := by decide +kernel
theorem dX4_enter_86 : decode cX4_enter 86 = .ok (.getfield 11, 3) := by decide +kernel
theorem dX4_enter_89 : decode cX4_enter 89 = .ok (.iconst 1, 1) := by decide +kernel
theorem dX4_enter_90 : decode cX4_enter 90 = .ok (.iaload, 1) := by decide +kernel
theorem dX4_enter_91 : decode cX4_enter 91 = .ok (.putfield 79, 3) := by decide +kernel
theorem dX4_enter_94 : decode cX4_enter 94 = .ok (.aload_n 1, 1) := by decide +kernel
theorem dX4_enter_95 : decode cX4_enter 95 = .ok (.aload_n 0, 1) := by decide +kernel
theorem dX4_enter_96 : decode cX4_enter 96 = .ok (.getfield 11, 3) := by decide +kernel
theorem dX4_enter_99 : decode cX4_enter 99 = .ok (.iconst 2, 1) := by decide +kernel
theorem dX4_enter_100 : decode cX4_enter 100 = .ok (.iaload, 1) := by decide +kernel
theorem dX4_enter_101 : decode cX4_enter 101 = .ok (.putfield 82, 3) := by decide +kernel
theorem dX4_enter_104 : decode cX4_enter 104 = .ok (.iconst 1, 1) := by decide +kernel
theorem dX4_enter_105 : decode cX4_enter 105 = .ok (.ireturn, 1) := by decide +kernel
theorem dX4_enter_106 : decode cX4_enter 106 = .ok (.aload_n 1, 1) := by decide +kernel
theorem dX4_enter_107 : decode cX4_enter 107 = .ok (.aload_n 0, 1) := by decide +kernel
theorem dX4_enter_108 : decode cX4_enter 108 = .ok (.getfield 11, 3) := by decide +kernel
theorem dX4_enter_111 : decode cX4_enter 111 = .ok (.iconst 0, 1) := by decide +kernel
theorem dX4_enter_112 : decode cX4_enter 112 = .ok (.iaload, 1) := by decide +kernel
theorem dX4_enter_113 : decode cX4_enter 113 = .ok (.putfield 85, 3) := by decide +kernel
theorem dX4_enter_116 : decode cX4_enter 116 = .ok (.iconst 1, 1) := by decide +kernel
theorem dX4_enter_117 : decode cX4_enter 117 = .ok (.ireturn, 1) := by decide +kernel
theorem dX4_enter_118 : decode cX4_enter 118 = .ok (.aload_n 0, 1) := by decide +kernel
theorem dX4_enter_119 : decode cX4_enter 119 = .ok (.aload_n 1, 1) := by decide +kernel
theorem dX4_enter_120 : decode cX4_enter 120 = .ok (.invokevirtual 88, 3) := by decide +kernel
theorem dX4_enter_123 : decode cX4_enter 123 = .ok (.ireturn, 1) := by decide +kernel
theorem dX4_enterStretch_0 : decode cX4_enterStretch 0 = .ok (.aload_n 1, 1) := by decide +kernel
theorem dX4_enterStretch_1 : decode cX4_enterStretch 1 = .ok (.getfield 91, 3) := by decide +kernel
theorem dX4_enterStretch_4 : decode cX4_enterStretch 4 = .ok (.bipush 8, 2) := by decide +kernel
theorem dX4_enterStretch_6 : decode cX4_enterStretch 6 = .ok (.if_icmp .lt 5, 3) := by decide +kernel
theorem dX4_enterStretch_9 : decode cX4_enterStretch 9 = .ok (.iconst 0, 1) := by decide +kernel
theorem dX4_enterStretch_10 : decode cX4_enterStretch 10 = .ok (.ireturn, 1) := by decide +kernel
theorem dX4_enterStretch_11 : decode cX4_enterStretch 11 = .ok (.aload_n 1, 1) := by decide +kernel
theorem dX4_enterStretch_12 : decode cX4_enterStretch 12 = .ok (.dup, 1) := by decide +kernel
theorem dX4_enterStretch_13 : decode cX4_enterStretch 13 = .ok (.getfield 91, 3) := by decide +kernel
theorem dX4_enterStretch_16 : decode cX4_enterStretch 16 = .ok (.iconst 1, 1) := by decide +kernel
theorem dX4_enterStretch_17 : decode cX4_enterStretch 17 = .ok (.iadd, 1) := by decide +kernel
theorem dX4_enterStretch_18 : decode cX4_enterStretch 18 = .ok (.putfield 91, 3) := by decide +kernel
theorem dX4_enterStretch_21 : decode cX4_enterStretch 21 = .ok (.aload_n 1, 1) := by decide +kernel
theorem dX4_enterStretch_22 : decode cX4_enterStretch 22 = .ok (.getfield 94, 3) := by decide +kernel
theorem dX4_enterStretch_25 : decode cX4_enterStretch 25 = .ok (.aload_n 1, 1) := by decide +kernel
theorem dX4_enterStretch_26 : decode cX4_enterStretch 26 = .ok (.getfield 91, 3) := by decide +kernel
theorem dX4_enterStretch_29 : decode cX4_enterStretch 29 = .ok (.aload_n 0, 1) := by decide +kernel
theorem dX4_enterStretch_30 : decode cX4_enterStretch 30 = .ok (.getfield 11, 3) := by decide +kernel
theorem dX4_enterStretch_33 : decode cX4_enterStretch 33 = .ok (.iconst 0, 1) := by decide +kernel
theorem dX4_enterStretch_34 : decode cX4_enterStretch 34 = .ok (.iaload, 1) := by decide +kernel
theorem dX4_enterStretch_35 : decode cX4_enterStretch 35 = .ok (.iastore, 1) := by decide +kernel
theorem dX4_enterStretch_36 : decode cX4_enterStretch 36 = .ok (.aload_n 1, 1) := by decide +kernel
theorem dX4_enterStretch_37 : decode cX4_enterStretch 37 = .ok (.getfield 97, 3) := by decide +kernel
theorem dX4_enterStretch_40 : decode cX4_enterStretch 40 = .ok (.aload_n 1, 1) := by decide +kernel
theorem dX4_enterStretch_41 : decode cX4_enterStretch 41 = .ok (.getfield 91, 3) := by decide +kernel
theorem dX4_enterStretch_44 : decode cX4_enterStretch 44 = .ok (.aload_n 0, 1) := by decide +kernel
theorem dX4_enterStretch_45 : decode cX4_enterStretch 45 = .ok (.getfield 11, 3) := by decide +kernel
theorem dX4_enterStretch_48 : decode cX4_enterStretch 48 = .ok (.iconst 1, 1) := by decide +kernel
theorem dX4_enterStretch_49 : decode cX4_enterStretch 49 = .ok (.iaload, 1) := by decide +kernel
theorem dX4_enterStretch_50 : decode cX4_enterStretch 50 = .ok (.iastore, 1) := by decide +kernel
theorem dX4_enterStretch_51 : decode cX4_enterStretch 51 = .ok (.aload_n 1, 1) := by decide +kernel
theorem dX4_enterStretch_52 : decode cX4_enterStretch 52 = .ok (.getfield 100, 3) := by decide +kernel
theorem dX4_enterStretch_55 : decode cX4_enterStretch 55 = .ok (.aload_n 1, 1) := by decide +kernel
theorem dX4_enterStretch_56 : decode cX4_enterStretch 56 = .ok (.getfield 91, 3) := by decide +kernel
theorem dX4_enterStretch_59 : decode cX4_enterStretch 59 = .ok (.aload_n 0, 1) := by decide +kernel
theorem dX4_enterStretch_60 : decode cX4_enterStretch 60 = .ok (.getfield 11, 3) := by decide +kernel
theorem dX4_enterStretch_63 : decode cX4_enterStretch 63 = .ok (.iconst 2, 1) := by decide +kernel
theorem dX4_enterStretch_64 : decode cX4_enterStretch 64 = .ok (.iaload, 1) := by decide +kernel
theorem dX4_enterStretch_65 : decode cX4_enterStretch 65 = .ok (.iastore, 1) := by decide +kernel
theorem dX4_enterStretch_66 : decode cX4_enterStretch 66 = .ok (.iconst 1, 1) := by decide +kernel
theorem dX4_enterStretch_67 : decode cX4_enterStretch 67 = .ok (.ireturn, 1) := by decide +kernel
theorem dX4_enterTie_0 : decode cX4_enterTie 0 = .ok (.aload_n 0, 1) := by decide +kernel
theorem dX4_enterTie_1 : decode cX4_enterTie 1 = .ok (.getfield 11, 3) := by decide +kernel
theorem dX4_enterTie_4 : decode cX4_enterTie 4 = .ok (.iconst 0, 1) := by decide +kernel
theorem dX4_enterTie_5 : decode cX4_enterTie 5 = .ok (.iaload, 1) := by decide +kernel
theorem dX4_enterTie_6 : decode cX4_enterTie 6 = .ok (.aload_n 0, 1) := by decide +kernel
theorem dX4_enterTie_7 : decode cX4_enterTie 7 = .ok (.getfield 11, 3) := by decide +kernel
theorem dX4_enterTie_10 : decode cX4_enterTie 10 = .ok (.iconst 1, 1) := by decide +kernel
theorem dX4_enterTie_11 : decode cX4_enterTie 11 = .ok (.iaload, 1) := by decide +kernel
theorem dX4_enterTie_12 : decode cX4_enterTie 12 = .ok (.if_icmp .ne 5, 3) := by decide +kernel
theorem dX4_enterTie_15 : decode cX4_enterTie 15 = .ok (.iconst 0, 1) := by decide +kernel
theorem dX4_enterTie_16 : decode cX4_enterTie 16 = .ok (.ireturn, 1) := by decide +kernel
theorem dX4_enterTie_17 : decode cX4_enterTie 17 = .ok (.aload_n 1, 1) := by decide +kernel
theorem dX4_enterTie_18 : decode cX4_enterTie 18 = .ok (.getfield 103, 3) := by decide +kernel
theorem dX4_enterTie_21 : decode cX4_enterTie 21 = .ok (.aload_n 0, 1) := by decide +kernel
theorem dX4_enterTie_22 : decode cX4_enterTie 22 = .ok (.getfield 11, 3) := by decide +kernel
theorem dX4_enterTie_25 : decode cX4_enterTie 25 = .ok (.iconst 0, 1) := by decide +kernel
theorem dX4_enterTie_26 : decode cX4_enterTie 26 = .ok (.iaload, 1) := by decide +kernel
theorem dX4_enterTie_27 : decode cX4_enterTie 27 = .ok (.aaload, 1) := by decide +kernel
theorem dX4_enterTie_28 : decode cX4_enterTie 28 = .ok (.aload_n 0, 1) := by decide +kernel
theorem dX4_enterTie_29 : decode cX4_enterTie 29 = .ok (.getfield 11, 3) := by decide +kernel
theorem dX4_enterTie_32 : decode cX4_enterTie 32 = .ok (.iconst 1, 1) := by decide +kernel
theorem dX4_enterTie_33 : decode cX4_enterTie 33 = .ok (.iaload, 1) := by decide +kernel
theorem dX4_enterTie_34 : decode cX4_enterTie 34 = .ok (.aload_n 0, 1) := by decide +kernel
theorem dX4_enterTie_35 : decode cX4_enterTie 35 = .ok (.getfield 11, 3) := by decide +kernel
theorem dX4_enterTie_38 : decode cX4_enterTie 38 = .ok (.iconst 2, 1) := by decide +kernel
theorem dX4_enterTie_39 : decode cX4_enterTie 39 = .ok (.iaload, 1) := by decide +kernel
theorem dX4_enterTie_40 : decode cX4_enterTie 40 = .ok (.iastore, 1) := by decide +kernel
theorem dX4_enterTie_41 : decode cX4_enterTie 41 = .ok (.aload_n 1, 1) := by decide +kernel
theorem dX4_enterTie_42 : decode cX4_enterTie 42 = .ok (.getfield 103, 3) := by decide +kernel
theorem dX4_enterTie_45 : decode cX4_enterTie 45 = .ok (.aload_n 0, 1) := by decide +kernel
theorem dX4_enterTie_46 : decode cX4_enterTie 46 = .ok (.getfield 11, 3) := by decide +kernel
theorem dX4_enterTie_49 : decode cX4_enterTie 49 = .ok (.iconst 1, 1) := by decide +kernel
theorem dX4_enterTie_50 : decode cX4_enterTie 50 = .ok (.iaload, 1) := by decide +kernel
theorem dX4_enterTie_51 : decode cX4_enterTie 51 = .ok (.aaload, 1) := by decide +kernel
theorem dX4_enterTie_52 : decode cX4_enterTie 52 = .ok (.aload_n 0, 1) := by decide +kernel
theorem dX4_enterTie_53 : decode cX4_enterTie 53 = .ok (.getfield 11, 3) := by decide +kernel
theorem dX4_enterTie_56 : decode cX4_enterTie 56 = .ok (.iconst 0, 1) := by decide +kernel
theorem dX4_enterTie_57 : decode cX4_enterTie 57 = .ok (.iaload, 1) := by decide +kernel
theorem dX4_enterTie_58 : decode cX4_enterTie 58 = .ok (.aload_n 0, 1) := by decide +kernel
theorem dX4_enterTie_59 : decode cX4_enterTie 59 = .ok (.getfield 11, 3) := by decide +kernel
theorem dX4_enterTie_62 : decode cX4_enterTie 62 = .ok (.iconst 2, 1) := by decide +kernel
theorem dX4_enterTie_63 : decode cX4_enterTie 63 = .ok (.iaload, 1) := by decide +kernel
theorem dX4_enterTie_64 : decode cX4_enterTie 64 = .ok (.iastore, 1) := by decide +kernel
theorem dX4_enterTie_65 : decode cX4_enterTie 65 = .ok (.iconst 1, 1) := by decide +kernel
theorem dX4_enterTie_66 : decode cX4_enterTie 66 = .ok (.ireturn, 1) := by decide +kernel
theorem dX5_init_0 : decode cX5_init 0 = .ok (.aload_n 0, 1) := by decide +kernel
theorem dX5_init_1 : decode cX5_init 1 = .ok (.invokespecial 3, 3) := by decide +kernel
theorem dX5_init_4 : decode cX5_init 4 = .ok (.aload_n 0, 1) := by decide +kernel
theorem dX5_init_5 : decode cX5_init 5 = .ok (.sipush 200, 3) := by decide +kernel
theorem dX5_init_8 : decode cX5_init 8 = .ok (.newarray .char, 2) := by decide +kernel
theorem dX5_init_10 : decode cX5_init 10 = .ok (.putfield 9, 3) := by decide +kernel
theorem dX5_init_13 : decode cX5_init 13 = .ok (.aload_n 0, 1) := by decide +kernel
theorem dX5_init_14 : decode cX5_init 14 = .ok (.iconst 0, 1) := by decide +kernel
theorem dX5_init_15 : decode cX5_init 15 = .ok (.putfield 15, 3) := by decide +kernel
theorem dX5_init_18 : decode cX5_init 18 = .ok (.return_, 1) := by decide +kernel
theorem dX5_append_0 : decode cX5_append 0 = .ok (.aload_n 0, 1) := by decide +kernel
theorem dX5_append_1 : decode cX5_append 1 = .ok (.getfield 15, 3) := by decide +kernel
theorem dX5_append_4 : decode cX5_append 4 = .ok (.sipush 200, 3) := by decide +kernel
theorem dX5_append_7 : decode cX5_append 7 = .ok (.if_icmp .ge 23, 3) := by decide +kernel
theorem dX5_append_10 : decode cX5_append 10 = .ok (.aload_n 0, 1) := by decide +kernel
theorem dX5_append_11 : decode cX5_append 11 = .ok (.getfield 9, 3) := by decide +kernel
theorem dX5_append_14 : decode cX5_append 14 = .ok (.aload_n 0, 1) := by decide +kernel
theorem dX5_append_15 : decode cX5_append 15 = .ok (.getfield 15, 3) := by decide +kernel
theorem dX5_append_18 : decode cX5_append 18 = .ok (.iload_n 1, 1) := by decide +kernel
theorem dX5_append_19 : decode cX5_append 19 = .ok (.castore, 1) := by decide +kernel
theorem dX5_append_20 : decode cX5_append 20 = .ok (.aload_n 0, 1) := by decide +kernel
theorem dX5_append_21 : decode cX5_append 21 = .ok (.dup, 1) := by decide +kernel
theorem dX5_append_22 : decode cX5_append 22 = .ok (.getfield 15, 3) := by decide +kernel
theorem dX5_append_25 : decode cX5_append 25 = .ok (.iconst 1, 1) := by decide +kernel
theorem dX5_append_26 : decode cX5_append 26 = .ok (.iadd, 1) := by decide +kernel
theorem dX5_append_27 : decode cX5_append 27 = .ok (.putfield 15, 3) := by decide +kernel
theorem dX5_append_30 : decode cX5_append 30 = .ok (.return_, 1) := by decide +kernel
theorem dX5_at_0 : decode cX5_at 0 = .ok (.iload_n 1, 1) := by decide +kernel
theorem dX5_at_1 : decode cX5_at 1 = .ok (.ifCond .lt 27, 3) := by decide +kernel
theorem dX5_at_4 : decode cX5_at 4 = .ok (.iload_n 1, 1) := by decide +kernel
theorem dX5_at_5 : decode cX5_at 5 = .ok (.aload_n 0, 1) := by decide +kernel
theorem dX5_at_6 : decode cX5_at 6 = .ok (.getfield 15, 3) := by decide +kernel
theorem dX5_at_9 : decode cX5_at 9 = .ok (.if_icmp .ge 19, 3) := by decide +kernel
theorem dX5_at_12 : decode cX5_at 12 = .ok (.iload_n 1, 1) := by decide +kernel
theorem dX5_at_13 : decode cX5_at 13 = .ok (.sipush 200, 3) := by decide +kernel
theorem dX5_at_16 : decode cX5_at 16 = .ok (.if_icmp .ge 12, 3) := by decide +kernel
theorem dX5_at_19 : decode cX5_at 19 = .ok (.aload_n 0, 1) := by decide +kernel
theorem dX5_at_20 : decode cX5_at 20 = .ok (.getfield 9, 3) := by decide +kernel
theorem dX5_at_23 : decode cX5_at 23 = .ok (.iload_n 1, 1) := by decide +kernel
theorem dX5_at_24 : decode cX5_at 24 = .ok (.caload, 1) := by decide +kernel
theorem dX5_at_25 : decode cX5_at 25 = .ok (.goto 4, 3) := by decide +kernel
theorem dX5_at_28 : decode cX5_at 28 = .ok (.iconst 0, 1) := by decide +kernel
theorem dX5_at_29 : decode cX5_at 29 = .ok (.ireturn, 1) := by decide +kernel
theorem dX6_init_0 : decode cX6_init 0 = .ok (.aload_n 0, 1) := by decide +kernel
theorem dX6_init_1 : decode cX6_init 1 = .ok (.invokespecial 3, 3) := by decide +kernel
theorem dX6_init_4 : decode cX6_init 4 = .ok (.aload_n 0, 1) := by decide +kernel
theorem dX6_init_5 : decode cX6_init 5 = .ok (.iconst 0, 1) := by decide +kernel
theorem dX6_init_6 : decode cX6_init 6 = .ok (.putfield 9, 3) := by decide +kernel
theorem dX6_init_9 : decode cX6_init 9 = .ok (.aload_n 0, 1) := by decide +kernel
theorem dX6_init_10 : decode cX6_init 10 = .ok (.iconst 0, 1) := by decide +kernel
theorem dX6_init_11 : decode cX6_init 11 = .ok (.putfield 15, 3) := by decide +kernel
theorem dX6_init_14 : decode cX6_init 14 = .ok (.aload_n 0, 1) := by decide +kernel
theorem dX6_init_15 : decode cX6_init 15 = .ok (.bipush 6, 2) := by decide +kernel
theorem dX6_init_17 : decode cX6_init 17 = .ok (.newarray .int, 2) := by decide +kernel
theorem dX6_init_19 : decode cX6_init 19 = .ok (.putfield 18, 3) := by decide +kernel
theorem dX6_init_22 : decode cX6_init 22 = .ok (.aload_n 0, 1) := by decide +kernel
theorem dX6_init_23 : decode cX6_init 23 = .ok (.bipush 6, 2) := by decide +kernel
theorem dX6_init_25 : decode cX6_init 25 = .ok (.newarray .int, 2) := by decide +kernel
theorem dX6_init_27 : decode cX6_init 27 = .ok (.putfield 22, 3) := by decide +kernel
theorem dX6_init_30 : decode cX6_init 30 = .ok (.aload_n 0, 1) := by decide +kernel
theorem dX6_init_31 : decode cX6_init 31 = .ok (.bipush 6, 2) := by decide +kernel
theorem dX6_init_33 : decode cX6_init 33 = .ok (.newarray .int, 2) := by decide +kernel
theorem dX6_init_35 : decode cX6_init 35 = .ok (.putfield 25, 3) := by decide +kernel
theorem dX6_init_38 : decode cX6_init 38 = .ok (.aload_n 0, 1) := by decide +kernel
theorem dX6_init_39 : decode cX6_init 39 = .ok (.iconst 0, 1) := by decide +kernel
theorem dX6_init_40 : decode cX6_init 40 = .ok (.putfield 28, 3) := by decide +kernel
theorem dX6_init_43 : decode cX6_init 43 = .ok (.return_, 1) := by decide +kernel
theorem dX6_clear_0 : decode cX6_clear 0 = .ok (.aload_n 0, 1) := by decide +kernel
theorem dX6_clear_1 : decode cX6_clear 1 = .ok (.iconst 0, 1) := by decide +kernel
theorem dX6_clear_2 : decode cX6_clear 2 = .ok (.putfield 9, 3) := by decide +kernel
theorem dX6_clear_5 : decode cX6_clear 5 = .ok (.aload_n 0, 1) := by decide +kernel
theorem dX6_clear_6 : decode cX6_clear 6 = .ok (.iconst 0, 1) := by decide +kernel
theorem dX6_clear_7 : decode cX6_clear 7 = .ok (.putfield 15, 3) := by decide +kernel
theorem dX6_clear_10 : decode cX6_clear 10 = .ok (.aload_n 0, 1) := by decide +kernel
theorem dX6_clear_11 : decode cX6_clear 11 = .ok (.iconst 0, 1) := by decide +kernel
theorem dX6_clear_12 : decode cX6_clear 12 = .ok (.putfield 28, 3) := by decide +kernel
theorem dX6_clear_15 : decode cX6_clear 15 = .ok (.return_, 1) := by decide +kernel
theorem dX6_addStretch_0 : decode cX6_addStretch 0 = .ok (.aload_n 0, 1) := by decide +kernel
theorem dX6_addStretch_1 : decode cX6_addStretch 1 = .ok (.dup, 1) := by decide +kernel
theorem dX6_addStretch_2 : decode cX6_addStretch 2 = .ok (.getfield 9, 3) := by decide +kernel
theorem dX6_addStretch_5 : decode cX6_addStretch 5 = .ok (.iconst 1, 1) := by decide +kernel
theorem dX6_addStretch_6 : decode cX6_addStretch 6 = .ok (.iadd, 1) := by decide +kernel
theorem dX6_addStretch_7 : decode cX6_addStretch 7 = .ok (.putfield 9, 3) := by decide +kernel
theorem dX6_addStretch_10 : decode cX6_addStretch 10 = .ok (.aload_n 0, 1) := by decide +kernel
theorem dX6_addStretch_11 : decode cX6_addStretch 11 = .ok (.aload_n 0, 1) := by decide +kernel
theorem dX6_addStretch_12 : decode cX6_addStretch 12 = .ok (.getfield 28, 3) := by decide +kernel
theorem dX6_addStretch_15 : decode cX6_addStretch 15 = .ok (.iconst 1, 1) := by decide +kernel
theorem dX6_addStretch_16 : decode cX6_addStretch 16 = .ok (.iadd, 1) := by decide +kernel
theorem dX6_addStretch_17 : decode cX6_addStretch 17 = .ok (.bipush 8, 2) := by decide +kernel
theorem dX6_addStretch_19 : decode cX6_addStretch 19 = .ok (.invokestatic 31, 3) := by decide +kernel
theorem dX6_addStretch_22 : decode cX6_addStretch 22 = .ok (.putfield 28, 3) := by decide +kernel
theorem dX6_addStretch_25 : decode cX6_addStretch 25 = .ok (.return_, 1) := by decide +kernel
theorem dX6_addCount_0 : decode cX6_addCount 0 = .ok (.aload_n 0, 1) := by decide +kernel
theorem dX6_addCount_1 : decode cX6_addCount 1 = .ok (.getfield 18, 3) := by decide +kernel
theorem dX6_addCount_4 : decode cX6_addCount 4 = .ok (.aload_n 0, 1) := by decide +kernel
theorem dX6_addCount_5 : decode cX6_addCount 5 = .ok (.getfield 15, 3) := by decide +kernel
theorem dX6_addCount_8 : decode cX6_addCount 8 = .ok (.aload_n 0, 1) := by decide +kernel
theorem dX6_addCount_9 : decode cX6_addCount 9 = .ok (.getfield 9, 3) := by decide +kernel
theorem dX6_addCount_12 : decode cX6_addCount 12 = .ok (.iastore, 1) := by decide +kernel
theorem dX6_addCount_13 : decode cX6_addCount 13 = .ok (.aload_n 0, 1) := by decide +kernel
theorem dX6_addCount_14 : decode cX6_addCount 14 = .ok (.getfield 22, 3) := by decide +kernel
theorem dX6_addCount_17 : decode cX6_addCount 17 = .ok (.aload_n 0, 1) := by decide +kernel
theorem dX6_addCount_18 : decode cX6_addCount 18 = .ok (.getfield 15, 3) := by decide +kernel
theorem dX6_addCount_21 : decode cX6_addCount 21 = .ok (.iload_n 1, 1) := by decide +kernel
theorem dX6_addCount_22 : decode cX6_addCount 22 = .ok (.iastore, 1) := by decide +kernel
theorem dX6_addCount_23 : decode cX6_addCount 23 = .ok (.aload_n 0, 1) := by decide +kernel
theorem dX6_addCount_24 : decode cX6_addCount 24 = .ok (.getfield 25, 3) := by decide +kernel
theorem dX6_addCount_27 : decode cX6_addCount 27 = .ok (.aload_n 0, 1) := by decide +kernel
theorem dX6_addCount_28 : decode cX6_addCount 28 = .ok (.getfield 15, 3) := by decide +kernel
theorem dX6_addCount_31 : decode cX6_addCount 31 = .ok (.iload_n 2, 1) := by decide +kernel
theorem dX6_addCount_32 : decode cX6_addCount 32 = .ok (.iastore, 1) := by decide +kernel
theorem dX6_addCount_33 : decode cX6_addCount 33 = .ok (.aload_n 0, 1) := by decide +kernel
theorem dX6_addCount_34 : decode cX6_addCount 34 = .ok (.dup, 1) := by decide +kernel
theorem dX6_addCount_35 : decode cX6_addCount 35 = .ok (.getfield 15, 3) := by decide +kernel
theorem dX6_addCount_38 : decode cX6_addCount 38 = .ok (.iconst 1, 1) := by decide +kernel
theorem dX6_addCount_39 : decode cX6_addCount 39 = .ok (.iadd, 1) := by decide +kernel
theorem dX6_addCount_40 : decode cX6_addCount 40 = .ok (.putfield 15, 3) := by decide +kernel
theorem dX6_addCount_43 : decode cX6_addCount 43 = .ok (.aload_n 0, 1) := by decide +kernel
theorem dX6_addCount_44 : decode cX6_addCount 44 = .ok (.aload_n 0, 1) := by decide +kernel
theorem dX6_addCount_45 : decode cX6_addCount 45 = .ok (.getfield 28, 3) := by decide +kernel
theorem dX6_addCount_48 : decode cX6_addCount 48 = .ok (.iconst 1, 1) := by decide +kernel
theorem dX6_addCount_49 : decode cX6_addCount 49 = .ok (.iadd, 1) := by decide +kernel
theorem dX6_addCount_50 : decode cX6_addCount 50 = .ok (.bipush 8, 2) := by decide +kernel
theorem dX6_addCount_52 : decode cX6_addCount 52 = .ok (.invokestatic 31, 3) := by decide +kernel
theorem dX6_addCount_55 : decode cX6_addCount 55 = .ok (.putfield 28, 3) := by decide +kernel
theorem dX6_addCount_58 : decode cX6_addCount 58 = .ok (.return_, 1) := by decide +kernel
theorem dX6_takeBack_0 : decode cX6_takeBack 0 = .ok (.aload_n 0, 1) := by decide +kernel
theorem dX6_takeBack_1 : decode cX6_takeBack 1 = .ok (.getfield 15, 3) := by decide +kernel
theorem dX6_takeBack_4 : decode cX6_takeBack 4 = .ok (.ifCond .le 34, 3) := by decide +kernel
theorem dX6_takeBack_7 : decode cX6_takeBack 7 = .ok (.aload_n 0, 1) := by decide +kernel
theorem dX6_takeBack_8 : decode cX6_takeBack 8 = .ok (.getfield 18, 3) := by decide +kernel
theorem dX6_takeBack_11 : decode cX6_takeBack 11 = .ok (.aload_n 0, 1) := by decide +kernel
theorem dX6_takeBack_12 : decode cX6_takeBack 12 = .ok (.getfield 15, 3) := by decide +kernel
theorem dX6_takeBack_15 : decode cX6_takeBack 15 = .ok (.iconst 1, 1) := by decide +kernel
theorem dX6_takeBack_16 : decode cX6_takeBack 16 = .ok (.isub, 1) := by decide +kernel
theorem dX6_takeBack_17 : decode cX6_takeBack 17 = .ok (.iaload, 1) := by decide +kernel
theorem dX6_takeBack_18 : decode cX6_takeBack 18 = .ok (.aload_n 0, 1) := by decide +kernel
theorem dX6_takeBack_19 : decode cX6_takeBack 19 = .ok (.getfield 9, 3) := by decide +kernel
theorem dX6_takeBack_22 : decode cX6_takeBack 22 = .ok (.if_icmp .ne 16, 3) := by decide +kernel
theorem dX6_takeBack_25 : decode cX6_takeBack 25 = .ok (.aload_n 0, 1) := by decide +kernel
theorem dX6_takeBack_26 : decode cX6_takeBack 26 = .ok (.dup, 1) := by decide +kernel
theorem dX6_takeBack_27 : decode cX6_takeBack 27 = .ok (.getfield 15, 3) := by decide +kernel
theorem dX6_takeBack_30 : decode cX6_takeBack 30 = .ok (.iconst 1, 1) := by decide +kernel
theorem dX6_takeBack_31 : decode cX6_takeBack 31 = .ok (.isub, 1) := by decide +kernel
theorem dX6_takeBack_32 : decode cX6_takeBack 32 = .ok (.putfield 15, 3) := by decide +kernel
theorem dX6_takeBack_35 : decode cX6_takeBack 35 = .ok (.goto 20, 3) := by decide +kernel
theorem dX6_takeBack_38 : decode cX6_takeBack 38 = .ok (.aload_n 0, 1) := by decide +kernel
theorem dX6_takeBack_39 : decode cX6_takeBack 39 = .ok (.getfield 9, 3) := by decide +kernel
theorem dX6_takeBack_42 : decode cX6_takeBack 42 = .ok (.ifCond .le 13, 3) := by decide +kernel
theorem dX6_takeBack_45 : decode cX6_takeBack 45 = .ok (.aload_n 0, 1) := by decide +kernel
theorem dX6_takeBack_46 : decode cX6_takeBack 46 = .ok (.dup, 1) := by decide +kernel
theorem dX6_takeBack_47 : decode cX6_takeBack 47 = .ok (.getfield 9, 3) := by decide +kernel
theorem dX6_takeBack_50 : decode cX6_takeBack 50 = .ok (.iconst 1, 1) := by decide +kernel
theorem dX6_takeBack_51 : decode cX6_takeBack 51 = .ok (.isub, 1) := by decide +kernel
theorem dX6_takeBack_52 : decode cX6_takeBack 52 = .ok (.putfield 9, 3) := by decide +kernel
theorem dX6_takeBack_55 : decode cX6_takeBack 55 = .ok (.aload_n 0, 1) := by decide +kernel
theorem dX6_takeBack_56 : decode cX6_takeBack 56 = .ok (.dup, 1) := by decide +kernel
theorem dX6_takeBack_57 : decode cX6_takeBack 57 = .ok (.getfield 28, 3) := by decide +kernel
theorem dX6_takeBack_60 : decode cX6_takeBack 60 = .ok (.iconst 1, 1) := by decide +kernel
theorem dX6_takeBack_61 : decode cX6_takeBack 61 = .ok (.isub, 1) := by decide +kernel
theorem dX6_takeBack_62 : decode cX6_takeBack 62 = .ok (.putfield 28, 3) := by decide +kernel
theorem dX6_takeBack_65 : decode cX6_takeBack 65 = .ok (.return_, 1) := by decide +kernel
theorem dX6_become_0 : decode cX6_become 0 = .ok (.aload_n 0, 1) := by decide +kernel
theorem dX6_become_1 : decode cX6_become 1 = .ok (.aload_n 1, 1) := by decide +kernel
theorem dX6_become_2 : decode cX6_become 2 = .ok (.getfield 9, 3) := by decide +kernel
theorem dX6_become_5 : decode cX6_become 5 = .ok (.putfield 9, 3) := by decide +kernel
theorem dX6_become_8 : decode cX6_become 8 = .ok (.aload_n 0, 1) := by decide +kernel
theorem dX6_become_9 : decode cX6_become 9 = .ok (.aload_n 1, 1) := by decide +kernel
theorem dX6_become_10 : decode cX6_become 10 = .ok (.getfield 15, 3) := by decide +kernel
theorem dX6_become_13 : decode cX6_become 13 = .ok (.putfield 15, 3) := by decide +kernel
theorem dX6_become_16 : decode cX6_become 16 = .ok (.aload_n 0, 1) := by decide +kernel
theorem dX6_become_17 : decode cX6_become 17 = .ok (.aload_n 1, 1) := by decide +kernel
theorem dX6_become_18 : decode cX6_become 18 = .ok (.getfield 28, 3) := by decide +kernel
theorem dX6_become_21 : decode cX6_become 21 = .ok (.putfield 28, 3) := by decide +kernel
theorem dX6_become_24 : decode cX6_become 24 = .ok (.iconst 0, 1) := by decide +kernel
theorem dX6_become_25 : decode cX6_become 25 = .ok (.istore_n 2, 1) := by decide +kernel
theorem dX6_become_26 : decode cX6_become 26 = .ok (.iload_n 2, 1) := by decide +kernel
theorem dX6_become_27 : decode cX6_become 27 = .ok (.bipush 6, 2) := by decide +kernel
theorem dX6_become_29 : decode cX6_become 29 = .ok (.if_icmp .ge 45, 3) := by decide +kernel
theorem dX6_become_32 : decode cX6_become 32 = .ok (.aload_n 0, 1) := by decide +kernel
theorem dX6_become_33 : decode cX6_become 33 = .ok (.getfield 18, 3) := by decide +kernel
theorem dX6_become_36 : decode cX6_become 36 = .ok (.iload_n 2, 1) := by decide +kernel
theorem dX6_become_37 : decode cX6_become 37 = .ok (.aload_n 1, 1) := by decide +kernel
theorem dX6_become_38 : decode cX6_become 38 = .ok (.getfield 18, 3) := by decide +kernel
theorem dX6_become_41 : decode cX6_become 41 = .ok (.iload_n 2, 1) := by decide +kernel
theorem dX6_become_42 : decode cX6_become 42 = .ok (.iaload, 1) := by decide +kernel
theorem dX6_become_43 : decode cX6_become 43 = .ok (.iastore, 1) := by decide +kernel
theorem dX6_become_44 : decode cX6_become 44 = .ok (.aload_n 0, 1) := by decide +kernel
theorem dX6_become_45 : decode cX6_become 45 = .ok (.getfield 22, 3) := by decide +kernel
theorem dX6_become_48 : decode cX6_become 48 = .ok (.iload_n 2, 1) := by decide +kernel
theorem dX6_become_49 : decode cX6_become 49 = .ok (.aload_n 1, 1) := by decide +kernel
theorem dX6_become_50 : decode cX6_become 50 = .ok (.getfield 22, 3) := by decide +kernel
theorem dX6_become_53 : decode cX6_become 53 = .ok (.iload_n 2, 1) := by decide +kernel
theorem dX6_become_54 : decode cX6_become 54 = .ok (.iaload, 1) := by decide +kernel
theorem dX6_become_55 : decode cX6_become 55 = .ok (.iastore, 1) := by decide +kernel
theorem dX6_become_56 : decode cX6_become 56 = .ok (.aload_n 0, 1) := by decide +kernel
theorem dX6_become_57 : decode cX6_become 57 = .ok (.getfield 25, 3) := by decide +kernel
theorem dX6_become_60 : decode cX6_become 60 = .ok (.iload_n 2, 1) := by decide +kernel
theorem dX6_become_61 : decode cX6_become 61 = .ok (.aload_n 1, 1) := by decide +kernel
theorem dX6_become_62 : decode cX6_become 62 = .ok (.getfield 25, 3) := by decide +kernel
theorem dX6_become_65 : decode cX6_become 65 = .ok (.iload_n 2, 1) := by decide +kernel
theorem dX6_become_66 : decode cX6_become 66 = .ok (.iaload, 1) := by decide +kernel
theorem dX6_become_67 : decode cX6_become 67 = .ok (.iastore, 1) := by decide +kernel
theorem dX6_become_68 : decode cX6_become 68 = .ok (.iinc 2 1, 3) := by decide +kernel
theorem dX6_become_71 : decode cX6_become 71 = .ok (.goto (-45), 3) := by decide +kernel
theorem dX6_become_74 : decode cX6_become 74 = .ok (.return_, 1) := by decide +kernel
set_option maxRecDepth 20000 in
theorem ggX7_init_X5_init : GoodIn wsX7_init wsX5_init := goodIn_r _ [37, 38, 2, 3, 39, 40, 41, 249, 250] (by decide +kernel) (by decide +kernel)
set_option maxRecDepth 20000 in
theorem gX7_init_X5_init_n9 : GoodIn wsX7_init (wsX5_init) := ggX7_init_X5_init
set_option maxRecDepth 20000 in
theorem ggX7_init_X4_init : GoodIn wsX7_init wsX4_init := goodIn_r _ [43, 44, 2, 3, 45, 46, 261, 262] (by decide +kernel) (by decide +kernel)
set_option maxRecDepth 20000 in
theorem gX7_init_X4_init_n18 : GoodIn wsX7_init (wsX4_init) := ggX7_init_X4_init
set_option maxRecDepth 20000 in
theorem ggX7_init_X2_init : GoodIn wsX7_init wsX2_init := goodIn_r _ [48, 49, 2, 3, 45, 50, 51, 52, 53, 54, 55, 56, 263, 264, 265, 266, 267, 268, 269, 270, 271, 272, 273] (by decide +kernel) (by decide +kernel)
set_option maxRecDepth 20000 in
theorem gX7_init_X2_init_n25 : GoodIn wsX7_init (wsX2_init) := ggX7_init_X2_init
set_option maxRecDepth 20000 in
theorem ggX7_init_X6_init : GoodIn wsX7_init wsX6_init := goodIn_r _ [58, 59, 2, 3, 60, 61, 45, 62, 63, 64, 65, 274, 275, 276, 277, 278, 279] (by decide +kernel) (by decide +kernel)
set_option maxRecDepth 20000 in
theorem gX7_init_X6_init_n35 : GoodIn wsX7_init (wsX6_init) := ggX7_init_X6_init
set_option maxRecDepth 20000 in
theorem ggX7_init_X0_init : GoodIn wsX7_init wsX0_init := goodIn_r _ [67, 68, 2, 3, 69, 70, 280, 281, 282] (by decide +kernel) (by decide +kernel)
set_option maxRecDepth 20000 in
theorem gX7_init_X0_init_n50 : GoodIn wsX7_init (wsX0_init) := ggX7_init_X0_init
set_option maxRecDepth 20000 in
theorem ggX7_init_X1_init : GoodIn wsX7_init wsX1_init := goodIn_r _ [72, 73, 2, 3] (by decide +kernel) (by decide +kernel)
set_option maxRecDepth 20000 in
theorem gX7_init_X1_init_n57 : GoodIn wsX7_init (wsX1_init) := ggX7_init_X1_init
set_option maxRecDepth 20000 in
theorem ggX7_init_X3_init : GoodIn wsX7_init wsX3_init := goodIn_r _ [75, 76, 2, 3, 45, 77, 78, 286, 287, 288, 289] (by decide +kernel) (by decide +kernel)
set_option maxRecDepth 20000 in
theorem gX7_init_X3_init_n64 : GoodIn wsX7_init (wsX3_init) := ggX7_init_X3_init
set_option maxRecDepth 20000 in
theorem ggX7_init_J0_length_8abf5 : GoodIn wsX7_init wsJ0_length_8abf5 := goodIn_r _ [83, 84, 85, 86, 87, 82, 88, 89, 90] (by decide +kernel) (by decide +kernel)
set_option maxRecDepth 20000 in
theorem gX7_init_J0_length_8abf5 : GoodIn wsX7_init (wsV RX7 71 RJ0 yJ0_length_8abf5 wsJ0_length_8abf5) := goodIn_app (goodIn_of _ (by decide +kernel)) ggX7_init_J0_length_8abf5
set_option maxRecDepth 20000 in
theorem ggX7_init_J0_charAt_5068e : GoodIn wsX7_init wsJ0_charAt_5068e := goodIn_r _ [94, 84, 95, 96, 97, 82, 98, 89, 90, 99, 100, 101, 102, 103, 104, 105, 106, 107, 108, 109, 110, 111, 112, 113, 114, 115, 116, 117, 118, 119, 120, 121, 122, 123, 124, 125, 126, 127] (by decide +kernel) (by decide +kernel)
set_option maxRecDepth 20000 in
theorem gX7_init_J0_charAt_5068e : GoodIn wsX7_init (wsV RX7 77 RJ0 yJ0_charAt_5068e wsJ0_charAt_5068e) := goodIn_app (goodIn_of _ (by decide +kernel)) ggX7_init_J0_charAt_5068e
set_option maxRecDepth 20000 in
theorem ggX7_init_X5_append : GoodIn wsX7_init wsX5_append := goodIn_r _ [131, 41, 40, 249, 250] (by decide +kernel) (by decide +kernel)
set_option maxRecDepth 20000 in
theorem gX7_init_X5_append : GoodIn wsX7_init (wsV RX7 81 RX5 yX5_append wsX5_append) := goodIn_app (goodIn_of _ (by decide +kernel)) ggX7_init_X5_append
set_option maxRecDepth 20000 in
theorem ggX7_init_X4_readInto : GoodIn wsX7_init wsX4_readInto := goodIn_r _ [135, 136, 137, 138, 139, 140, 14, 141, 142, 53, 54, 143, 144, 145, 146, 56, 147, 148, 149, 10, 150, 151, 46, 152, 153, 154, 155, 156, 6, 157, 41, 40, 158, 159, 160, 82, 161, 162, 163, 164, 165, 84, 95, 96, 97, 98, 89, 90, 166, 80, 81, 83, 85, 86, 87, 88, 167, 168, 101, 169, 170, 171, 172, 173, 174, 175, 176, 177, 178, 179, 180, 181, 182, 183, 184, 113, 185, 186, 187, 188, 189, 190, 191, 192, 193, 194, 118, 119, 120, 195, 196, 197, 106, 198, 199, 109, 200, 201, 202, 203, 122, 123, 124, 125, 126, 127, 204, 205, 206, 207, 208, 209, 210, 211, 212, 213, 214, 215, 216, 217, 218, 219, 220, 221, 222, 223, 224, 225, 226, 227, 228, 229, 230, 231, 232, 233, 234, 235, 236, 237, 238, 239, 240, 241, 242, 243, 244, 245, 246, 247, 248, 261, 262, 249, 250, 263, 264, 265, 266, 267, 268, 269, 270, 271, 272, 273] (by decide +kernel) (by decide +kernel)
set_option maxRecDepth 20000 in
theorem gX7_init_X4_readInto : GoodIn wsX7_init (wsV RX7 85 RX4 yX4_readInto wsX4_readInto) := goodIn_app (goodIn_of _ (by decide +kernel)) ggX7_init_X4_readInto
theorem dX7_init_0 : decode cX7_init 0 = .ok (.aload_n 0, 1) := by decide +kernel
theorem dX7_init_1 : decode cX7_init 1 = .ok (.invokespecial 1, 3) := by decide +kernel
theorem dX7_init_4 : decode cX7_init 4 = .ok (.aload_n 0, 1) := by decide +kernel
theorem dX7_init_5 : decode cX7_init 5 = .ok (.new 7, 3) := by decide +kernel
theorem dX7_init_8 : decode cX7_init 8 = .ok (.dup, 1) := by decide +kernel
theorem dX7_init_9 : decode cX7_init 9 = .ok (.invokespecial 9, 3) := by decide +kernel
theorem dX7_init_12 : decode cX7_init 12 = .ok (.putfield 10, 3) := by decide +kernel
theorem dX7_init_15 : decode cX7_init 15 = .ok (.aload_n 0, 1) := by decide +kernel
theorem dX7_init_16 : decode cX7_init 16 = .ok (.new 16, 3) := by decide +kernel
theorem dX7_init_19 : decode cX7_init 19 = .ok (.dup, 1) := by decide +kernel
theorem dX7_init_20 : decode cX7_init 20 = .ok (.invokespecial 18, 3) := by decide +kernel
theorem dX7_init_23 : decode cX7_init 23 = .ok (.putfield 19, 3) := by decide +kernel
theorem dX7_init_26 : decode cX7_init 26 = .ok (.aload_n 0, 1) := by decide +kernel
theorem dX7_init_27 : decode cX7_init 27 = .ok (.new 23, 3) := by decide +kernel
theorem dX7_init_30 : decode cX7_init 30 = .ok (.dup, 1) := by decide +kernel
theorem dX7_init_31 : decode cX7_init 31 = .ok (.invokespecial 25, 3) := by decide +kernel
theorem dX7_init_34 : decode cX7_init 34 = .ok (.putfield 26, 3) := by decide +kernel
theorem dX7_init_37 : decode cX7_init 37 = .ok (.aload_n 0, 1) := by decide +kernel
theorem dX7_init_38 : decode cX7_init 38 = .ok (.new 23, 3) := by decide +kernel
theorem dX7_init_41 : decode cX7_init 41 = .ok (.dup, 1) := by decide +kernel
theorem dX7_init_42 : decode cX7_init 42 = .ok (.invokespecial 25, 3) := by decide +kernel
theorem dX7_init_45 : decode cX7_init 45 = .ok (.putfield 30, 3) := by decide +kernel
theorem dX7_init_48 : decode cX7_init 48 = .ok (.aload_n 0, 1) := by decide +kernel
theorem dX7_init_49 : decode cX7_init 49 = .ok (.new 33, 3) := by decide +kernel
theorem dX7_init_52 : decode cX7_init 52 = .ok (.dup, 1) := by decide +kernel
theorem dX7_init_53 : decode cX7_init 53 = .ok (.invokespecial 35, 3) := by decide +kernel
theorem dX7_init_56 : decode cX7_init 56 = .ok (.putfield 36, 3) := by decide +kernel
theorem dX7_init_59 : decode cX7_init 59 = .ok (.aload_n 0, 1) := by decide +kernel
theorem dX7_init_60 : decode cX7_init 60 = .ok (.iconst 2, 1) := by decide +kernel
theorem dX7_init_61 : decode cX7_init 61 = .ok (.anewarray 33, 3) := by decide +kernel
theorem dX7_init_64 : decode cX7_init 64 = .ok (.putfield 40, 3) := by decide +kernel
theorem dX7_init_67 : decode cX7_init 67 = .ok (.iconst 0, 1) := by decide +kernel
theorem dX7_init_68 : decode cX7_init 68 = .ok (.istore_n 1, 1) := by decide +kernel
theorem dX7_init_69 : decode cX7_init 69 = .ok (.iload_n 1, 1) := by decide +kernel
theorem dX7_init_70 : decode cX7_init 70 = .ok (.iconst 2, 1) := by decide +kernel
theorem dX7_init_71 : decode cX7_init 71 = .ok (.if_icmp .ge 22, 3) := by decide +kernel
theorem dX7_init_74 : decode cX7_init 74 = .ok (.aload_n 0, 1) := by decide +kernel
theorem dX7_init_75 : decode cX7_init 75 = .ok (.getfield 40, 3) := by decide +kernel
theorem dX7_init_78 : decode cX7_init 78 = .ok (.iload_n 1, 1) := by decide +kernel
theorem dX7_init_79 : decode cX7_init 79 = .ok (.new 33, 3) := by decide +kernel
theorem dX7_init_82 : decode cX7_init 82 = .ok (.dup, 1) := by decide +kernel
theorem dX7_init_83 : decode cX7_init 83 = .ok (.invokespecial 35, 3) := by decide +kernel
theorem dX7_init_86 : decode cX7_init 86 = .ok (.aastore, 1) := by decide +kernel
theorem dX7_init_87 : decode cX7_init 87 = .ok (.iinc 1 1, 3) := by decide +kernel
theorem dX7_init_90 : decode cX7_init 90 = .ok (.goto (-21), 3) := by decide +kernel
theorem dX7_init_93 : decode cX7_init 93 = .ok (.aload_n 0, 1) := by decide +kernel
theorem dX7_init_94 : decode cX7_init 94 = .ok (.iconst 0, 1) := by decide +kernel
theorem dX7_init_95 : decode cX7_init 95 = .ok (.putfield 44, 3) := by decide +kernel
theorem dX7_init_98 : decode cX7_init 98 = .ok (.aload_n 0, 1) := by decide +kernel
theorem dX7_init_99 : decode cX7_init 99 = .ok (.new 48, 3) := by decide +kernel
theorem dX7_init_102 : decode cX7_init 102 = .ok (.dup, 1) := by decide +kernel
theorem dX7_init_103 : decode cX7_init 103 = .ok (.invokespecial 50, 3) := by decide +kernel
theorem dX7_init_106 : decode cX7_init 106 = .ok (.putfield 51, 3) := by decide +kernel
theorem dX7_init_109 : decode cX7_init 109 = .ok (.aload_n 0, 1) := by decide +kernel
theorem dX7_init_110 : decode cX7_init 110 = .ok (.new 55, 3) := by decide +kernel
theorem dX7_init_113 : decode cX7_init 113 = .ok (.dup, 1) := by decide +kernel
theorem dX7_init_114 : decode cX7_init 114 = .ok (.invokespecial 57, 3) := by decide +kernel
theorem dX7_init_117 : decode cX7_init 117 = .ok (.putfield 58, 3) := by decide +kernel
theorem dX7_init_120 : decode cX7_init 120 = .ok (.aload_n 0, 1) := by decide +kernel
theorem dX7_init_121 : decode cX7_init 121 = .ok (.new 62, 3) := by decide +kernel
theorem dX7_init_124 : decode cX7_init 124 = .ok (.dup, 1) := by decide +kernel
theorem dX7_init_125 : decode cX7_init 125 = .ok (.invokespecial 64, 3) := by decide +kernel
theorem dX7_init_128 : decode cX7_init 128 = .ok (.putfield 65, 3) := by decide +kernel
theorem dX7_init_131 : decode cX7_init 131 = .ok (.iconst 0, 1) := by decide +kernel
theorem dX7_init_132 : decode cX7_init 132 = .ok (.istore_n 1, 1) := by decide +kernel
theorem dX7_init_133 : decode cX7_init 133 = .ok (.iload_n 1, 1) := by decide +kernel
theorem dX7_init_134 : decode cX7_init 134 = .ok (.ldc 69, 2) := by decide +kernel
theorem dX7_init_136 : decode cX7_init 136 = .ok (.invokevirtual 71, 3) := by decide +kernel
theorem dX7_init_139 : decode cX7_init 139 = .ok (.if_icmp .ge 22, 3) := by decide +kernel
theorem dX7_init_142 : decode cX7_init 142 = .ok (.aload_n 0, 1) := by decide +kernel
theorem dX7_init_143 : decode cX7_init 143 = .ok (.getfield 10, 3) := by decide +kernel
theorem dX7_init_146 : decode cX7_init 146 = .ok (.ldc 69, 2) := by decide +kernel
theorem dX7_init_148 : decode cX7_init 148 = .ok (.iload_n 1, 1) := by decide +kernel
theorem dX7_init_149 : decode cX7_init 149 = .ok (.invokevirtual 77, 3) := by decide +kernel
theorem dX7_init_152 : decode cX7_init 152 = .ok (.invokevirtual 81, 3) := by decide +kernel
theorem dX7_init_155 : decode cX7_init 155 = .ok (.iinc 1 1, 3) := by decide +kernel
theorem dX7_init_158 : decode cX7_init 158 = .ok (.goto (-25), 3) := by decide +kernel
theorem dX7_init_161 : decode cX7_init 161 = .ok (.aload_n 0, 1) := by decide +kernel
theorem dX7_init_162 : decode cX7_init 162 = .ok (.getfield 19, 3) := by decide +kernel
theorem dX7_init_165 : decode cX7_init 165 = .ok (.aload_n 0, 1) := by decide +kernel
theorem dX7_init_166 : decode cX7_init 166 = .ok (.getfield 26, 3) := by decide +kernel
theorem dX7_init_169 : decode cX7_init 169 = .ok (.aload_n 0, 1) := by decide +kernel
theorem dX7_init_170 : decode cX7_init 170 = .ok (.getfield 10, 3) := by decide +kernel
theorem dX7_init_173 : decode cX7_init 173 = .ok (.invokevirtual 85, 3) := by decide +kernel
theorem dX7_init_176 : decode cX7_init 176 = .ok (.pop, 1) := by decide +kernel
theorem dX7_init_177 : decode cX7_init 177 = .ok (.aload_n 0, 1) := by decide +kernel
theorem dX7_init_178 : decode cX7_init 178 = .ok (.getfield 10, 3) := by decide +kernel
theorem dX7_init_181 : decode cX7_init 181 = .ok (.iconst 0, 1) := by decide +kernel
theorem dX7_init_182 : decode cX7_init 182 = .ok (.putfield 89, 3) := by decide +kernel
theorem dX7_init_185 : decode cX7_init 185 = .ok (.return_, 1) := by decide +kernel
set_option maxRecDepth 20000 in
theorem ggX7_write_X5_append : GoodIn wsX7_write wsX5_append := goodIn_r _ [7, 8, 9, 20, 21] (by decide +kernel) (by decide +kernel)
set_option maxRecDepth 20000 in
theorem gX7_write_X5_append : GoodIn wsX7_write (wsV RX7 81 RX5 yX5_append wsX5_append) := goodIn_app (goodIn_of _ (by decide +kernel)) ggX7_write_X5_append
theorem dX7_write_0 : decode cX7_write 0 = .ok (.iload_n 1, 1) := by decide +kernel
theorem dX7_write_1 : decode cX7_write 1 = .ok (.bipush 32, 2) := by decide +kernel
theorem dX7_write_3 : decode cX7_write 3 = .ok (.if_icmp .lt 9, 3) := by decide +kernel
theorem dX7_write_6 : decode cX7_write 6 = .ok (.iload_n 1, 1) := by decide +kernel
theorem dX7_write_7 : decode cX7_write 7 = .ok (.bipush 126, 2) := by decide +kernel
theorem dX7_write_9 : decode cX7_write 9 = .ok (.if_icmp .le 5, 3) := by decide +kernel
theorem dX7_write_12 : decode cX7_write 12 = .ok (.iconst (-1), 1) := by decide +kernel
theorem dX7_write_13 : decode cX7_write 13 = .ok (.ireturn, 1) := by decide +kernel
theorem dX7_write_14 : decode cX7_write 14 = .ok (.aload_n 0, 1) := by decide +kernel
theorem dX7_write_15 : decode cX7_write 15 = .ok (.getfield 10, 3) := by decide +kernel
theorem dX7_write_18 : decode cX7_write 18 = .ok (.getfield 89, 3) := by decide +kernel
theorem dX7_write_21 : decode cX7_write 21 = .ok (.sipush 200, 3) := by decide +kernel
theorem dX7_write_24 : decode cX7_write 24 = .ok (.if_icmp .lt 6, 3) := by decide +kernel
theorem dX7_write_27 : decode cX7_write 27 = .ok (.bipush (-3), 2) := by decide +kernel
theorem dX7_write_29 : decode cX7_write 29 = .ok (.ireturn, 1) := by decide +kernel
theorem dX7_write_30 : decode cX7_write 30 = .ok (.aload_n 0, 1) := by decide +kernel
theorem dX7_write_31 : decode cX7_write 31 = .ok (.getfield 10, 3) := by decide +kernel
theorem dX7_write_34 : decode cX7_write 34 = .ok (.iload_n 1, 1) := by decide +kernel
theorem dX7_write_35 : decode cX7_write 35 = .ok (.i2c, 1) := by decide +kernel
theorem dX7_write_36 : decode cX7_write 36 = .ok (.invokevirtual 81, 3) := by decide +kernel
theorem dX7_write_39 : decode cX7_write 39 = .ok (.aload_n 0, 1) := by decide +kernel
theorem dX7_write_40 : decode cX7_write 40 = .ok (.getfield 10, 3) := by decide +kernel
theorem dX7_write_43 : decode cX7_write 43 = .ok (.getfield 89, 3) := by decide +kernel
theorem dX7_write_46 : decode cX7_write 46 = .ok (.ireturn, 1) := by decide +kernel
theorem dX7_wipe_0 : decode cX7_wipe 0 = .ok (.aload_n 0, 1) := by decide +kernel
theorem dX7_wipe_1 : decode cX7_wipe 1 = .ok (.getfield 10, 3) := by decide +kernel
theorem dX7_wipe_4 : decode cX7_wipe 4 = .ok (.getfield 89, 3) := by decide +kernel
theorem dX7_wipe_7 : decode cX7_wipe 7 = .ok (.istore_n 1, 1) := by decide +kernel
theorem dX7_wipe_8 : decode cX7_wipe 8 = .ok (.aload_n 0, 1) := by decide +kernel
theorem dX7_wipe_9 : decode cX7_wipe 9 = .ok (.getfield 10, 3) := by decide +kernel
theorem dX7_wipe_12 : decode cX7_wipe 12 = .ok (.iconst 0, 1) := by decide +kernel
theorem dX7_wipe_13 : decode cX7_wipe 13 = .ok (.putfield 89, 3) := by decide +kernel
theorem dX7_wipe_16 : decode cX7_wipe 16 = .ok (.iload_n 1, 1) := by decide +kernel
theorem dX7_wipe_17 : decode cX7_wipe 17 = .ok (.ireturn, 1) := by decide +kernel
set_option maxRecDepth 20000 in
theorem ggX7_fault_X4_readInto : GoodIn wsX7_fault wsX4_readInto := goodIn_r _ [8, 9, 10, 11, 12, 13, 14, 15, 16, 17, 18, 19, 20, 21, 22, 23, 24, 25, 26, 7, 27, 28, 29, 30, 31, 32, 33, 34, 35, 36, 37, 38, 39, 40, 41, 42, 43, 44, 45, 46, 47, 48, 49, 50, 51, 52, 53, 54, 55, 56, 57, 58, 59, 60, 61, 62, 63, 64, 65, 66, 67, 68, 69, 70, 71, 72, 73, 74, 75, 76, 77, 78, 79, 80, 81, 82, 83, 84, 85, 86, 87, 88, 89, 90, 91, 92, 93, 94, 95, 96, 97, 98, 99, 100, 101, 102, 103, 104, 105, 106, 107, 108, 109, 110, 111, 112, 113, 114, 115, 116, 117, 118, 119, 120, 121, 122, 123, 124, 125, 126, 127, 128, 129, 130, 131, 132, 133, 134, 135, 136, 137, 138, 139, 140, 141, 142, 143, 144, 145, 146, 147, 148, 149, 150, 151, 152, 153, 154, 155, 156, 157, 168, 169, 170, 171, 172, 173, 174, 175, 176, 177, 178, 179, 180, 181, 182] (by decide +kernel) (by decide +kernel)
set_option maxRecDepth 20000 in
theorem gX7_fault_X4_readInto : GoodIn wsX7_fault (wsV RX7 85 RX4 yX4_readInto wsX4_readInto) := goodIn_app (goodIn_of _ (by decide +kernel)) ggX7_fault_X4_readInto
theorem dX7_fault_0 : decode cX7_fault 0 = .ok (.aload_n 0, 1) := by decide +kernel
theorem dX7_fault_1 : decode cX7_fault 1 = .ok (.getfield 19, 3) := by decide +kernel
theorem dX7_fault_4 : decode cX7_fault 4 = .ok (.aload_n 0, 1) := by decide +kernel
theorem dX7_fault_5 : decode cX7_fault 5 = .ok (.getfield 30, 3) := by decide +kernel
theorem dX7_fault_8 : decode cX7_fault 8 = .ok (.aload_n 0, 1) := by decide +kernel
theorem dX7_fault_9 : decode cX7_fault 9 = .ok (.getfield 10, 3) := by decide +kernel
theorem dX7_fault_12 : decode cX7_fault 12 = .ok (.invokevirtual 85, 3) := by decide +kernel
theorem dX7_fault_15 : decode cX7_fault 15 = .ok (.ireturn, 1) := by decide +kernel
set_option maxRecDepth 20000 in
theorem ggX7_lay_X4_readInto : GoodIn wsX7_lay wsX4_readInto := goodIn_r _ [12, 13, 14, 15, 16, 17, 18, 19, 20, 21, 22, 23, 24, 25, 26, 27, 28, 29, 30, 11, 31, 32, 33, 34, 35, 36, 37, 38, 39, 40, 41, 42, 43, 44, 45, 46, 47, 48, 49, 50, 51, 52, 53, 54, 55, 56, 57, 58, 59, 60, 61, 62, 63, 64, 65, 66, 67, 68, 69, 70, 71, 72, 73, 74, 75, 76, 77, 78, 79, 80, 81, 82, 83, 84, 85, 86, 87, 88, 89, 90, 91, 92, 93, 94, 95, 96, 97, 98, 99, 100, 101, 102, 103, 104, 105, 106, 107, 108, 109, 110, 111, 112, 113, 114, 115, 116, 117, 118, 119, 120, 121, 122, 123, 124, 125, 126, 127, 128, 129, 130, 131, 132, 133, 134, 135, 136, 137, 138, 139, 140, 141, 142, 143, 144, 145, 146, 147, 148, 149, 150, 151, 152, 153, 154, 155, 156, 157, 158, 159, 160, 161, 195, 196, 197, 198, 184, 185, 186, 187, 188, 189, 190, 191, 192, 193, 194] (by decide +kernel) (by decide +kernel)
set_option maxRecDepth 20000 in
theorem gX7_lay_X4_readInto : GoodIn wsX7_lay (wsV RX7 85 RX4 yX4_readInto wsX4_readInto) := goodIn_app (goodIn_of _ (by decide +kernel)) ggX7_lay_X4_readInto
set_option maxRecDepth 20000 in
theorem ggX7_lay_X2_canBeLaid : GoodIn wsX7_lay wsX2_canBeLaid := goodIn_r _ [165, 20, 26, 27, 184, 185, 186, 187, 188, 189, 190, 191, 192, 193, 194] (by decide +kernel) (by decide +kernel)
set_option maxRecDepth 20000 in
theorem gX7_lay_X2_canBeLaid : GoodIn wsX7_lay (wsV RX7 91 RX2 yX2_canBeLaid wsX2_canBeLaid) := goodIn_app (goodIn_of _ (by decide +kernel)) ggX7_lay_X2_canBeLaid
set_option maxRecDepth 20000 in
theorem ggX7_lay_X6_clear : GoodIn wsX7_lay wsX6_clear := goodIn_r _ [170, 171, 172, 173, 199, 200, 201, 202, 203, 204] (by decide +kernel) (by decide +kernel)
set_option maxRecDepth 20000 in
theorem gX7_lay_X6_clear : GoodIn wsX7_lay (wsV RX7 95 RX6 yX6_clear wsX6_clear) := goodIn_app (goodIn_of _ (by decide +kernel)) ggX7_lay_X6_clear
theorem dX7_lay_0 : decode cX7_lay 0 = .ok (.aload_n 0, 1) := by decide +kernel
theorem dX7_lay_1 : decode cX7_lay 1 = .ok (.getfield 19, 3) := by decide +kernel
theorem dX7_lay_4 : decode cX7_lay 4 = .ok (.aload_n 0, 1) := by decide +kernel
theorem dX7_lay_5 : decode cX7_lay 5 = .ok (.getfield 30, 3) := by decide +kernel
theorem dX7_lay_8 : decode cX7_lay 8 = .ok (.aload_n 0, 1) := by decide +kernel
theorem dX7_lay_9 : decode cX7_lay 9 = .ok (.getfield 10, 3) := by decide +kernel
theorem dX7_lay_12 : decode cX7_lay 12 = .ok (.invokevirtual 85, 3) := by decide +kernel
theorem dX7_lay_15 : decode cX7_lay 15 = .ok (.bipush (-4), 2) := by decide +kernel
theorem dX7_lay_17 : decode cX7_lay 17 = .ok (.if_icmp .ne 13, 3) := by decide +kernel
theorem dX7_lay_20 : decode cX7_lay 20 = .ok (.aload_n 0, 1) := by decide +kernel
theorem dX7_lay_21 : decode cX7_lay 21 = .ok (.getfield 30, 3) := by decide +kernel
theorem dX7_lay_24 : decode cX7_lay 24 = .ok (.invokevirtual 91, 3) := by decide +kernel
theorem dX7_lay_27 : decode cX7_lay 27 = .ok (.ifCond .ne 6, 3) := by decide +kernel
theorem dX7_lay_30 : decode cX7_lay 30 = .ok (.bipush (-2), 2) := by decide +kernel
theorem dX7_lay_32 : decode cX7_lay 32 = .ok (.ireturn, 1) := by decide +kernel
theorem dX7_lay_33 : decode cX7_lay 33 = .ok (.aload_n 0, 1) := by decide +kernel
theorem dX7_lay_34 : decode cX7_lay 34 = .ok (.getfield 26, 3) := by decide +kernel
theorem dX7_lay_37 : decode cX7_lay 37 = .ok (.astore_n 1, 1) := by decide +kernel
theorem dX7_lay_38 : decode cX7_lay 38 = .ok (.aload_n 0, 1) := by decide +kernel
theorem dX7_lay_39 : decode cX7_lay 39 = .ok (.aload_n 0, 1) := by decide +kernel
theorem dX7_lay_40 : decode cX7_lay 40 = .ok (.getfield 30, 3) := by decide +kernel
theorem dX7_lay_43 : decode cX7_lay 43 = .ok (.putfield 26, 3) := by decide +kernel
theorem dX7_lay_46 : decode cX7_lay 46 = .ok (.aload_n 0, 1) := by decide +kernel
theorem dX7_lay_47 : decode cX7_lay 47 = .ok (.aload_n 1, 1) := by decide +kernel
theorem dX7_lay_48 : decode cX7_lay 48 = .ok (.putfield 30, 3) := by decide +kernel
theorem dX7_lay_51 : decode cX7_lay 51 = .ok (.aload_n 0, 1) := by decide +kernel
theorem dX7_lay_52 : decode cX7_lay 52 = .ok (.getfield 36, 3) := by decide +kernel
theorem dX7_lay_55 : decode cX7_lay 55 = .ok (.invokevirtual 95, 3) := by decide +kernel
theorem dX7_lay_58 : decode cX7_lay 58 = .ok (.aload_n 0, 1) := by decide +kernel
theorem dX7_lay_59 : decode cX7_lay 59 = .ok (.iconst 0, 1) := by decide +kernel
theorem dX7_lay_60 : decode cX7_lay 60 = .ok (.putfield 44, 3) := by decide +kernel
theorem dX7_lay_63 : decode cX7_lay 63 = .ok (.aload_n 0, 1) := by decide +kernel
theorem dX7_lay_64 : decode cX7_lay 64 = .ok (.getfield 26, 3) := by decide +kernel
theorem dX7_lay_67 : decode cX7_lay 67 = .ok (.getfield 98, 3) := by decide +kernel
theorem dX7_lay_70 : decode cX7_lay 70 = .ok (.ireturn, 1) := by decide +kernel
theorem dX7_stretch_0 : decode cX7_stretch 0 = .ok (.iload_n 1, 1) := by decide +kernel
theorem dX7_stretch_1 : decode cX7_stretch 1 = .ok (.iconst 1, 1) := by decide +kernel
theorem dX7_stretch_2 : decode cX7_stretch 2 = .ok (.if_icmp .lt 14, 3) := by decide +kernel
theorem dX7_stretch_5 : decode cX7_stretch 5 = .ok (.iload_n 1, 1) := by decide +kernel
theorem dX7_stretch_6 : decode cX7_stretch 6 = .ok (.aload_n 0, 1) := by decide +kernel
theorem dX7_stretch_7 : decode cX7_stretch 7 = .ok (.getfield 26, 3) := by decide +kernel
theorem dX7_stretch_10 : decode cX7_stretch 10 = .ok (.getfield 98, 3) := by decide +kernel
theorem dX7_stretch_13 : decode cX7_stretch 13 = .ok (.if_icmp .le 5, 3) := by decide +kernel
theorem dX7_stretch_16 : decode cX7_stretch 16 = .ok (.iconst (-1), 1) := by decide +kernel
theorem dX7_stretch_17 : decode cX7_stretch 17 = .ok (.ireturn, 1) := by decide +kernel
theorem dX7_stretch_18 : decode cX7_stretch 18 = .ok (.iload_n 2, 1) := by decide +kernel
theorem dX7_stretch_19 : decode cX7_stretch 19 = .ok (.tableswitch 55 0 2 #[25, 35, 45], 25) := by decide +kernel
theorem dX7_stretch_44 : decode cX7_stretch 44 = .ok (.aload_n 0, 1) := by decide +kernel
theorem dX7_stretch_45 : decode cX7_stretch 45 = .ok (.getfield 26, 3) := by decide +kernel
theorem dX7_stretch_48 : decode cX7_stretch 48 = .ok (.getfield 101, 3) := by decide +kernel
theorem dX7_stretch_51 : decode cX7_stretch 51 = .ok (.iload_n 1, 1) := by decide +kernel
theorem dX7_stretch_52 : decode cX7_stretch 52 = .ok (.iaload, 1) := by decide +kernel
theorem dX7_stretch_53 : decode cX7_stretch 53 = .ok (.ireturn, 1) := by decide +kernel
theorem dX7_stretch_54 : decode cX7_stretch 54 = .ok (.aload_n 0, 1) := by decide +kernel
theorem dX7_stretch_55 : decode cX7_stretch 55 = .ok (.getfield 26, 3) := by decide +kernel
theorem dX7_stretch_58 : decode cX7_stretch 58 = .ok (.getfield 105, 3) := by decide +kernel
theorem dX7_stretch_61 : decode cX7_stretch 61 = .ok (.iload_n 1, 1) := by decide +kernel
theorem dX7_stretch_62 : decode cX7_stretch 62 = .ok (.iaload, 1) := by decide +kernel
theorem dX7_stretch_63 : decode cX7_stretch 63 = .ok (.ireturn, 1) := by decide +kernel
theorem dX7_stretch_64 : decode cX7_stretch 64 = .ok (.aload_n 0, 1) := by decide +kernel
theorem dX7_stretch_65 : decode cX7_stretch 65 = .ok (.getfield 26, 3) := by decide +kernel
theorem dX7_stretch_68 : decode cX7_stretch 68 = .ok (.getfield 108, 3) := by decide +kernel
theorem dX7_stretch_71 : decode cX7_stretch 71 = .ok (.iload_n 1, 1) := by decide +kernel
theorem dX7_stretch_72 : decode cX7_stretch 72 = .ok (.iaload, 1) := by decide +kernel
theorem dX7_stretch_73 : decode cX7_stretch 73 = .ok (.ireturn, 1) := by decide +kernel
theorem dX7_stretch_74 : decode cX7_stretch 74 = .ok (.iconst (-1), 1) := by decide +kernel
theorem dX7_stretch_75 : decode cX7_stretch 75 = .ok (.ireturn, 1) := by decide +kernel
set_option maxRecDepth 20000 in
theorem ggX7_sort_X7_isSort : GoodIn wsX7_sort wsX7_isSort := goodIn_r _ [7] (by decide +kernel) (by decide +kernel)
set_option maxRecDepth 20000 in
theorem gX7_sort_X7_isSort : GoodIn wsX7_sort (va_wsS RX7 111 yX7_isSort wsX7_isSort) := goodIn_app (goodIn_of _ (by decide +kernel)) ggX7_sort_X7_isSort
theorem dX7_sort_0 : decode cX7_sort 0 = .ok (.iload_n 1, 1) := by decide +kernel
theorem dX7_sort_1 : decode cX7_sort 1 = .ok (.invokestatic 111, 3) := by decide +kernel
theorem dX7_sort_4 : decode cX7_sort 4 = .ok (.ifCond .ne 5, 3) := by decide +kernel
theorem dX7_sort_7 : decode cX7_sort 7 = .ok (.iconst (-1), 1) := by decide +kernel
theorem dX7_sort_8 : decode cX7_sort 8 = .ok (.ireturn, 1) := by decide +kernel
theorem dX7_sort_9 : decode cX7_sort 9 = .ok (.iload_n 2, 1) := by decide +kernel
theorem dX7_sort_10 : decode cX7_sort 10 = .ok (.lookupswitch 46 #[(0, 26), (1, 36)], 26) := by decide +kernel
theorem dX7_sort_36 : decode cX7_sort 36 = .ok (.aload_n 0, 1) := by decide +kernel
theorem dX7_sort_37 : decode cX7_sort 37 = .ok (.getfield 26, 3) := by decide +kernel
theorem dX7_sort_40 : decode cX7_sort 40 = .ok (.getfield 115, 3) := by decide +kernel
theorem dX7_sort_43 : decode cX7_sort 43 = .ok (.iload_n 1, 1) := by decide +kernel
theorem dX7_sort_44 : decode cX7_sort 44 = .ok (.iaload, 1) := by decide +kernel
theorem dX7_sort_45 : decode cX7_sort 45 = .ok (.ireturn, 1) := by decide +kernel
theorem dX7_sort_46 : decode cX7_sort 46 = .ok (.aload_n 0, 1) := by decide +kernel
theorem dX7_sort_47 : decode cX7_sort 47 = .ok (.getfield 26, 3) := by decide +kernel
theorem dX7_sort_50 : decode cX7_sort 50 = .ok (.getfield 118, 3) := by decide +kernel
theorem dX7_sort_53 : decode cX7_sort 53 = .ok (.iload_n 1, 1) := by decide +kernel
theorem dX7_sort_54 : decode cX7_sort 54 = .ok (.iaload, 1) := by decide +kernel
theorem dX7_sort_55 : decode cX7_sort 55 = .ok (.ireturn, 1) := by decide +kernel
theorem dX7_sort_56 : decode cX7_sort 56 = .ok (.iconst (-1), 1) := by decide +kernel
theorem dX7_sort_57 : decode cX7_sort 57 = .ok (.ireturn, 1) := by decide +kernel
theorem dX7_cost_0 : decode cX7_cost 0 = .ok (.iload_n 1, 1) := by decide +kernel
theorem dX7_cost_1 : decode cX7_cost 1 = .ok (.tableswitch 51 0 2 #[27, 35, 43], 27) := by decide +kernel
theorem dX7_cost_28 : decode cX7_cost 28 = .ok (.aload_n 0, 1) := by decide +kernel
theorem dX7_cost_29 : decode cX7_cost 29 = .ok (.getfield 26, 3) := by decide +kernel
theorem dX7_cost_32 : decode cX7_cost 32 = .ok (.getfield 121, 3) := by decide +kernel
theorem dX7_cost_35 : decode cX7_cost 35 = .ok (.ireturn, 1) := by decide +kernel
theorem dX7_cost_36 : decode cX7_cost 36 = .ok (.aload_n 0, 1) := by decide +kernel
theorem dX7_cost_37 : decode cX7_cost 37 = .ok (.getfield 26, 3) := by decide +kernel
theorem dX7_cost_40 : decode cX7_cost 40 = .ok (.getfield 124, 3) := by decide +kernel
theorem dX7_cost_43 : decode cX7_cost 43 = .ok (.ireturn, 1) := by decide +kernel
theorem dX7_cost_44 : decode cX7_cost 44 = .ok (.aload_n 0, 1) := by decide +kernel
theorem dX7_cost_45 : decode cX7_cost 45 = .ok (.getfield 26, 3) := by decide +kernel
theorem dX7_cost_48 : decode cX7_cost 48 = .ok (.getfield 127, 3) := by decide +kernel
theorem dX7_cost_51 : decode cX7_cost 51 = .ok (.ireturn, 1) := by decide +kernel
theorem dX7_cost_52 : decode cX7_cost 52 = .ok (.iconst (-1), 1) := by decide +kernel
theorem dX7_cost_53 : decode cX7_cost 53 = .ok (.ireturn, 1) := by decide +kernel
set_option maxRecDepth 20000 in
theorem ggX7_tie_X7_isFriend : GoodIn wsX7_tie wsX7_isFriend := goodIn_r _ [7, 1, 8, 9, 10, 11, 12, 13, 14, 15, 16, 17, 18, 19, 20, 21, 22, 23, 24, 25, 26, 27, 28, 29] (by decide +kernel) (by decide +kernel)
set_option maxRecDepth 20000 in
theorem gX7_tie_X7_isFriend : GoodIn wsX7_tie (wsV RX7 130 RX7 yX7_isFriend wsX7_isFriend) := goodIn_app (goodIn_of _ (by decide +kernel)) ggX7_tie_X7_isFriend
theorem dX7_tie_0 : decode cX7_tie 0 = .ok (.aload_n 0, 1) := by decide +kernel
