theorem dX7_tie_1 : decode cX7_tie 1 = .ok (.iload_n 1, 1) := by decide +kernel
theorem dX7_tie_2 : decode cX7_tie 2 = .ok (.invokevirtual 130, 3) := by decide +kernel
theorem dX7_tie_5 : decode cX7_tie 5 = .ok (.ifCond .eq 16, 3) := by decide +kernel
theorem dX7_tie_8 : decode cX7_tie 8 = .ok (.aload_n 0, 1) := by decide +kernel
theorem dX7_tie_9 : decode cX7_tie 9 = .ok (.iload_n 2, 1) := by decide +kernel
theorem dX7_tie_10 : decode cX7_tie 10 = .ok (.invokevirtual 130, 3) := by decide +kernel
theorem dX7_tie_13 : decode cX7_tie 13 = .ok (.ifCond .eq 8, 3) := by decide +kernel
theorem dX7_tie_16 : decode cX7_tie 16 = .ok (.iload_n 1, 1) := by decide +kernel
theorem dX7_tie_17 : decode cX7_tie 17 = .ok (.iload_n 2, 1) := by decide +kernel
theorem dX7_tie_18 : decode cX7_tie 18 = .ok (.if_icmp .ne 5, 3) := by decide +kernel
theorem dX7_tie_21 : decode cX7_tie 21 = .ok (.iconst (-1), 1) := by decide +kernel
theorem dX7_tie_22 : decode cX7_tie 22 = .ok (.ireturn, 1) := by decide +kernel
theorem dX7_tie_23 : decode cX7_tie 23 = .ok (.aload_n 0, 1) := by decide +kernel
theorem dX7_tie_24 : decode cX7_tie 24 = .ok (.getfield 26, 3) := by decide +kernel
theorem dX7_tie_27 : decode cX7_tie 27 = .ok (.getfield 133, 3) := by decide +kernel
theorem dX7_tie_30 : decode cX7_tie 30 = .ok (.iload_n 1, 1) := by decide +kernel
theorem dX7_tie_31 : decode cX7_tie 31 = .ok (.aaload, 1) := by decide +kernel
theorem dX7_tie_32 : decode cX7_tie 32 = .ok (.iload_n 2, 1) := by decide +kernel
theorem dX7_tie_33 : decode cX7_tie 33 = .ok (.iaload, 1) := by decide +kernel
theorem dX7_tie_34 : decode cX7_tie 34 = .ok (.ireturn, 1) := by decide +kernel
set_option maxRecDepth 20000 in
theorem ggX7_walk_X6_addStretch : GoodIn wsX7_walk wsX6_addStretch := goodIn_r _ [9, 10, 11, 12, 13, 14, 15, 26, 27, 28, 29, 30, 31] (by decide +kernel) (by decide +kernel)
set_option maxRecDepth 20000 in
theorem gX7_walk_X6_addStretch : GoodIn wsX7_walk (wsV RX7 140 RX6 yX6_addStretch wsX6_addStretch) := goodIn_app (goodIn_of _ (by decide +kernel)) ggX7_walk_X6_addStretch
theorem dX7_walk_0 : decode cX7_walk 0 = .ok (.aload_n 0, 1) := by decide +kernel
theorem dX7_walk_1 : decode cX7_walk 1 = .ok (.getfield 36, 3) := by decide +kernel
theorem dX7_walk_4 : decode cX7_walk 4 = .ok (.getfield 137, 3) := by decide +kernel
theorem dX7_walk_7 : decode cX7_walk 7 = .ok (.aload_n 0, 1) := by decide +kernel
theorem dX7_walk_8 : decode cX7_walk 8 = .ok (.getfield 26, 3) := by decide +kernel
theorem dX7_walk_11 : decode cX7_walk 11 = .ok (.getfield 98, 3) := by decide +kernel
theorem dX7_walk_14 : decode cX7_walk 14 = .ok (.if_icmp .lt 6, 3) := by decide +kernel
theorem dX7_walk_17 : decode cX7_walk 17 = .ok (.bipush (-2), 2) := by decide +kernel
theorem dX7_walk_19 : decode cX7_walk 19 = .ok (.ireturn, 1) := by decide +kernel
theorem dX7_walk_20 : decode cX7_walk 20 = .ok (.aload_n 0, 1) := by decide +kernel
theorem dX7_walk_21 : decode cX7_walk 21 = .ok (.getfield 36, 3) := by decide +kernel
theorem dX7_walk_24 : decode cX7_walk 24 = .ok (.invokevirtual 140, 3) := by decide +kernel
theorem dX7_walk_27 : decode cX7_walk 27 = .ok (.aload_n 0, 1) := by decide +kernel
theorem dX7_walk_28 : decode cX7_walk 28 = .ok (.getfield 36, 3) := by decide +kernel
theorem dX7_walk_31 : decode cX7_walk 31 = .ok (.getfield 137, 3) := by decide +kernel
theorem dX7_walk_34 : decode cX7_walk 34 = .ok (.ireturn, 1) := by decide +kernel
set_option maxRecDepth 20000 in
theorem ggX7_count_X7_isSort : GoodIn wsX7_count wsX7_isSort := goodIn_r _ [6] (by decide +kernel) (by decide +kernel)
set_option maxRecDepth 20000 in
theorem gX7_count_X7_isSort : GoodIn wsX7_count (va_wsS RX7 111 yX7_isSort wsX7_isSort) := goodIn_app (goodIn_of _ (by decide +kernel)) ggX7_count_X7_isSort
set_option maxRecDepth 20000 in
theorem ggX7_count_X6_addCount : GoodIn wsX7_count wsX6_addCount := goodIn_r _ [11, 12, 13, 14, 15, 16, 17, 18, 19, 20, 21, 32, 33, 34, 35, 36, 37] (by decide +kernel) (by decide +kernel)
set_option maxRecDepth 20000 in
theorem gX7_count_X6_addCount : GoodIn wsX7_count (wsV RX7 146 RX6 yX6_addCount wsX6_addCount) := goodIn_app (goodIn_of _ (by decide +kernel)) ggX7_count_X6_addCount
theorem dX7_count_0 : decode cX7_count 0 = .ok (.iload_n 1, 1) := by decide +kernel
theorem dX7_count_1 : decode cX7_count 1 = .ok (.invokestatic 111, 3) := by decide +kernel
theorem dX7_count_4 : decode cX7_count 4 = .ok (.ifCond .eq 14, 3) := by decide +kernel
theorem dX7_count_7 : decode cX7_count 7 = .ok (.iload_n 2, 1) := by decide +kernel
theorem dX7_count_8 : decode cX7_count 8 = .ok (.bipush (-2), 2) := by decide +kernel
theorem dX7_count_10 : decode cX7_count 10 = .ok (.if_icmp .lt 8, 3) := by decide +kernel
theorem dX7_count_13 : decode cX7_count 13 = .ok (.iload_n 2, 1) := by decide +kernel
theorem dX7_count_14 : decode cX7_count 14 = .ok (.iconst 1, 1) := by decide +kernel
theorem dX7_count_15 : decode cX7_count 15 = .ok (.if_icmp .le 5, 3) := by decide +kernel
theorem dX7_count_18 : decode cX7_count 18 = .ok (.iconst (-1), 1) := by decide +kernel
theorem dX7_count_19 : decode cX7_count 19 = .ok (.ireturn, 1) := by decide +kernel
theorem dX7_count_20 : decode cX7_count 20 = .ok (.aload_n 0, 1) := by decide +kernel
theorem dX7_count_21 : decode cX7_count 21 = .ok (.getfield 36, 3) := by decide +kernel
theorem dX7_count_24 : decode cX7_count 24 = .ok (.getfield 143, 3) := by decide +kernel
theorem dX7_count_27 : decode cX7_count 27 = .ok (.bipush 6, 2) := by decide +kernel
theorem dX7_count_29 : decode cX7_count 29 = .ok (.if_icmp .lt 6, 3) := by decide +kernel
theorem dX7_count_32 : decode cX7_count 32 = .ok (.bipush (-3), 2) := by decide +kernel
theorem dX7_count_34 : decode cX7_count 34 = .ok (.ireturn, 1) := by decide +kernel
theorem dX7_count_35 : decode cX7_count 35 = .ok (.aload_n 0, 1) := by decide +kernel
theorem dX7_count_36 : decode cX7_count 36 = .ok (.getfield 36, 3) := by decide +kernel
theorem dX7_count_39 : decode cX7_count 39 = .ok (.iload_n 1, 1) := by decide +kernel
theorem dX7_count_40 : decode cX7_count 40 = .ok (.iload_n 2, 1) := by decide +kernel
theorem dX7_count_41 : decode cX7_count 41 = .ok (.invokevirtual 146, 3) := by decide +kernel
theorem dX7_count_44 : decode cX7_count 44 = .ok (.aload_n 0, 1) := by decide +kernel
theorem dX7_count_45 : decode cX7_count 45 = .ok (.getfield 36, 3) := by decide +kernel
theorem dX7_count_48 : decode cX7_count 48 = .ok (.getfield 143, 3) := by decide +kernel
theorem dX7_count_51 : decode cX7_count 51 = .ok (.ireturn, 1) := by decide +kernel
theorem dX7_told_0 : decode cX7_told 0 = .ok (.iload_n 1, 1) := by decide +kernel
theorem dX7_told_1 : decode cX7_told 1 = .ok (.ifCond .lt 14, 3) := by decide +kernel
theorem dX7_told_4 : decode cX7_told 4 = .ok (.iload_n 1, 1) := by decide +kernel
theorem dX7_told_5 : decode cX7_told 5 = .ok (.aload_n 0, 1) := by decide +kernel
theorem dX7_told_6 : decode cX7_told 6 = .ok (.getfield 36, 3) := by decide +kernel
theorem dX7_told_9 : decode cX7_told 9 = .ok (.getfield 143, 3) := by decide +kernel
theorem dX7_told_12 : decode cX7_told 12 = .ok (.if_icmp .lt 5, 3) := by decide +kernel
theorem dX7_told_15 : decode cX7_told 15 = .ok (.iconst (-1), 1) := by decide +kernel
theorem dX7_told_16 : decode cX7_told 16 = .ok (.ireturn, 1) := by decide +kernel
theorem dX7_told_17 : decode cX7_told 17 = .ok (.iload_n 2, 1) := by decide +kernel
theorem dX7_told_18 : decode cX7_told 18 = .ok (.tableswitch 59 0 2 #[26, 36, 46], 26) := by decide +kernel
theorem dX7_told_44 : decode cX7_told 44 = .ok (.aload_n 0, 1) := by decide +kernel
theorem dX7_told_45 : decode cX7_told 45 = .ok (.getfield 36, 3) := by decide +kernel
theorem dX7_told_48 : decode cX7_told 48 = .ok (.getfield 150, 3) := by decide +kernel
theorem dX7_told_51 : decode cX7_told 51 = .ok (.iload_n 1, 1) := by decide +kernel
theorem dX7_told_52 : decode cX7_told 52 = .ok (.iaload, 1) := by decide +kernel
theorem dX7_told_53 : decode cX7_told 53 = .ok (.ireturn, 1) := by decide +kernel
theorem dX7_told_54 : decode cX7_told 54 = .ok (.aload_n 0, 1) := by decide +kernel
theorem dX7_told_55 : decode cX7_told 55 = .ok (.getfield 36, 3) := by decide +kernel
theorem dX7_told_58 : decode cX7_told 58 = .ok (.getfield 153, 3) := by decide +kernel
theorem dX7_told_61 : decode cX7_told 61 = .ok (.iload_n 1, 1) := by decide +kernel
theorem dX7_told_62 : decode cX7_told 62 = .ok (.iaload, 1) := by decide +kernel
theorem dX7_told_63 : decode cX7_told 63 = .ok (.ireturn, 1) := by decide +kernel
theorem dX7_told_64 : decode cX7_told 64 = .ok (.aload_n 0, 1) := by decide +kernel
theorem dX7_told_65 : decode cX7_told 65 = .ok (.getfield 36, 3) := by decide +kernel
theorem dX7_told_68 : decode cX7_told 68 = .ok (.getfield 156, 3) := by decide +kernel
theorem dX7_told_71 : decode cX7_told 71 = .ok (.iload_n 1, 1) := by decide +kernel
theorem dX7_told_72 : decode cX7_told 72 = .ok (.iaload, 1) := by decide +kernel
theorem dX7_told_73 : decode cX7_told 73 = .ok (.bipush (-2), 2) := by decide +kernel
theorem dX7_told_75 : decode cX7_told 75 = .ok (.isub, 1) := by decide +kernel
theorem dX7_told_76 : decode cX7_told 76 = .ok (.ireturn, 1) := by decide +kernel
theorem dX7_told_77 : decode cX7_told 77 = .ok (.iconst (-1), 1) := by decide +kernel
theorem dX7_told_78 : decode cX7_told 78 = .ok (.ireturn, 1) := by decide +kernel
set_option maxRecDepth 20000 in
theorem ggX7_undo_X6_takeBack : GoodIn wsX7_undo wsX6_takeBack := goodIn_r _ [7, 8, 9, 10, 11, 22, 23, 24, 25, 26, 27] (by decide +kernel) (by decide +kernel)
set_option maxRecDepth 20000 in
theorem gX7_undo_X6_takeBack : GoodIn wsX7_undo (wsV RX7 162 RX6 yX6_takeBack wsX6_takeBack) := goodIn_app (goodIn_of _ (by decide +kernel)) ggX7_undo_X6_takeBack
theorem dX7_undo_0 : decode cX7_undo 0 = .ok (.aload_n 0, 1) := by decide +kernel
theorem dX7_undo_1 : decode cX7_undo 1 = .ok (.getfield 36, 3) := by decide +kernel
theorem dX7_undo_4 : decode cX7_undo 4 = .ok (.getfield 159, 3) := by decide +kernel
theorem dX7_undo_7 : decode cX7_undo 7 = .ok (.ifCond .gt 6, 3) := by decide +kernel
theorem dX7_undo_10 : decode cX7_undo 10 = .ok (.bipush (-2), 2) := by decide +kernel
theorem dX7_undo_12 : decode cX7_undo 12 = .ok (.ireturn, 1) := by decide +kernel
theorem dX7_undo_13 : decode cX7_undo 13 = .ok (.aload_n 0, 1) := by decide +kernel
theorem dX7_undo_14 : decode cX7_undo 14 = .ok (.getfield 36, 3) := by decide +kernel
theorem dX7_undo_17 : decode cX7_undo 17 = .ok (.invokevirtual 162, 3) := by decide +kernel
theorem dX7_undo_20 : decode cX7_undo 20 = .ok (.aload_n 0, 1) := by decide +kernel
theorem dX7_undo_21 : decode cX7_undo 21 = .ok (.getfield 36, 3) := by decide +kernel
theorem dX7_undo_24 : decode cX7_undo 24 = .ok (.getfield 159, 3) := by decide +kernel
theorem dX7_undo_27 : decode cX7_undo 27 = .ok (.ireturn, 1) := by decide +kernel
set_option maxRecDepth 20000 in
theorem ggX7_odds_X7_isPart : GoodIn wsX7_odds wsX7_isPart := goodIn_r _ [13] (by decide +kernel) (by decide +kernel)
set_option maxRecDepth 20000 in
theorem gX7_odds_X7_isPart : GoodIn wsX7_odds (va_wsS RX7 165 yX7_isPart wsX7_isPart) := goodIn_app (goodIn_of _ (by decide +kernel)) ggX7_odds_X7_isPart
set_option maxRecDepth 20000 in
theorem ggX7_odds_X0_follow : GoodIn wsX7_odds wsX0_follow := goodIn_r _ [18, 19, 20, 21, 22, 23, 24, 25, 26, 17, 27, 28, 29, 30, 31, 32, 33, 34, 35, 36, 37, 38, 39, 40, 41, 42, 43, 44, 45, 12, 46, 74, 75, 76, 77, 78, 79, 80, 81, 82, 63, 64, 65, 66, 67, 68, 69, 70, 71, 72, 73] (by decide +kernel) (by decide +kernel)
set_option maxRecDepth 20000 in
theorem gX7_odds_X0_follow : GoodIn wsX7_odds (wsV RX7 170 RX0 yX0_follow wsX0_follow) := goodIn_app (goodIn_of _ (by decide +kernel)) ggX7_odds_X0_follow
set_option maxRecDepth 20000 in
theorem ggX7_odds_X7_lowest : GoodIn wsX7_odds wsX7_lowest := goodIn_r _ [49, 8, 50, 51, 12, 52] (by decide +kernel) (by decide +kernel)
set_option maxRecDepth 20000 in
theorem gX7_odds_X7_lowest : GoodIn wsX7_odds (va_wsS RX7 184 yX7_lowest wsX7_lowest) := goodIn_app (goodIn_of _ (by decide +kernel)) ggX7_odds_X7_lowest
theorem dX7_odds_0 : decode cX7_odds 0 = .ok (.iload_n 1, 1) := by decide +kernel
theorem dX7_odds_1 : decode cX7_odds 1 = .ok (.ifCond .lt 21, 3) := by decide +kernel
theorem dX7_odds_4 : decode cX7_odds 4 = .ok (.iload_n 1, 1) := by decide +kernel
theorem dX7_odds_5 : decode cX7_odds 5 = .ok (.aload_n 0, 1) := by decide +kernel
theorem dX7_odds_6 : decode cX7_odds 6 = .ok (.getfield 26, 3) := by decide +kernel
theorem dX7_odds_9 : decode cX7_odds 9 = .ok (.getfield 98, 3) := by decide +kernel
theorem dX7_odds_12 : decode cX7_odds 12 = .ok (.if_icmp .gt 10, 3) := by decide +kernel
theorem dX7_odds_15 : decode cX7_odds 15 = .ok (.iload_n 2, 1) := by decide +kernel
theorem dX7_odds_16 : decode cX7_odds 16 = .ok (.invokestatic 165, 3) := by decide +kernel
theorem dX7_odds_19 : decode cX7_odds 19 = .ok (.ifCond .ne 7, 3) := by decide +kernel
theorem dX7_odds_22 : decode cX7_odds 22 = .ok (.ldc2_w 168, 3) := by decide +kernel
theorem dX7_odds_25 : decode cX7_odds 25 = .ok (.lreturn, 1) := by decide +kernel
theorem dX7_odds_26 : decode cX7_odds 26 = .ok (.aload_n 0, 1) := by decide +kernel
theorem dX7_odds_27 : decode cX7_odds 27 = .ok (.getfield 51, 3) := by decide +kernel
theorem dX7_odds_30 : decode cX7_odds 30 = .ok (.aload_n 0, 1) := by decide +kernel
theorem dX7_odds_31 : decode cX7_odds 31 = .ok (.getfield 26, 3) := by decide +kernel
theorem dX7_odds_34 : decode cX7_odds 34 = .ok (.aload_n 0, 1) := by decide +kernel
theorem dX7_odds_35 : decode cX7_odds 35 = .ok (.getfield 36, 3) := by decide +kernel
theorem dX7_odds_38 : decode cX7_odds 38 = .ok (.aload_n 0, 1) := by decide +kernel
theorem dX7_odds_39 : decode cX7_odds 39 = .ok (.getfield 36, 3) := by decide +kernel
theorem dX7_odds_42 : decode cX7_odds 42 = .ok (.getfield 143, 3) := by decide +kernel
theorem dX7_odds_45 : decode cX7_odds 45 = .ok (.invokevirtual 170, 3) := by decide +kernel
theorem dX7_odds_48 : decode cX7_odds 48 = .ok (.pop, 1) := by decide +kernel
theorem dX7_odds_49 : decode cX7_odds 49 = .ok (.aload_n 0, 1) := by decide +kernel
theorem dX7_odds_50 : decode cX7_odds 50 = .ok (.getfield 51, 3) := by decide +kernel
theorem dX7_odds_53 : decode cX7_odds 53 = .ok (.getfield 174, 3) := by decide +kernel
theorem dX7_odds_56 : decode cX7_odds 56 = .ok (.lconst 0, 1) := by decide +kernel
theorem dX7_odds_57 : decode cX7_odds 57 = .ok (.lcmp, 1) := by decide +kernel
theorem dX7_odds_58 : decode cX7_odds 58 = .ok (.ifCond .ne 9, 3) := by decide +kernel
theorem dX7_odds_61 : decode cX7_odds 61 = .ok (.ldc2_w 178, 3) := by decide +kernel
theorem dX7_odds_64 : decode cX7_odds 64 = .ok (.goto 23, 3) := by decide +kernel
theorem dX7_odds_67 : decode cX7_odds 67 = .ok (.aload_n 0, 1) := by decide +kernel
theorem dX7_odds_68 : decode cX7_odds 68 = .ok (.getfield 51, 3) := by decide +kernel
theorem dX7_odds_71 : decode cX7_odds 71 = .ok (.getfield 180, 3) := by decide +kernel
theorem dX7_odds_74 : decode cX7_odds 74 = .ok (.iload_n 1, 1) := by decide +kernel
theorem dX7_odds_75 : decode cX7_odds 75 = .ok (.laload, 1) := by decide +kernel
theorem dX7_odds_76 : decode cX7_odds 76 = .ok (.aload_n 0, 1) := by decide +kernel
theorem dX7_odds_77 : decode cX7_odds 77 = .ok (.getfield 51, 3) := by decide +kernel
theorem dX7_odds_80 : decode cX7_odds 80 = .ok (.getfield 174, 3) := by decide +kernel
theorem dX7_odds_83 : decode cX7_odds 83 = .ok (.iload_n 2, 1) := by decide +kernel
theorem dX7_odds_84 : decode cX7_odds 84 = .ok (.invokestatic 184, 3) := by decide +kernel
theorem dX7_odds_87 : decode cX7_odds 87 = .ok (.lreturn, 1) := by decide +kernel
set_option maxRecDepth 20000 in
theorem ggX7_missing_X7_isPart : GoodIn wsX7_missing wsX7_isPart := goodIn_r _ [12] (by decide +kernel) (by decide +kernel)
set_option maxRecDepth 20000 in
theorem gX7_missing_X7_isPart : GoodIn wsX7_missing (va_wsS RX7 165 yX7_isPart wsX7_isPart) := goodIn_app (goodIn_of _ (by decide +kernel)) ggX7_missing_X7_isPart
set_option maxRecDepth 20000 in
theorem ggX7_missing_X0_follow : GoodIn wsX7_missing wsX0_follow := goodIn_r _ [17, 18, 19, 20, 21, 22, 23, 24, 25, 16, 26, 27, 28, 29, 30, 31, 32, 33, 34, 35, 36, 37, 38, 39, 40, 41, 42, 43, 44, 11, 45, 62, 63, 64, 65, 66, 67, 68, 69, 70, 71, 72, 73, 74, 75, 76, 77, 78, 79, 80, 81] (by decide +kernel) (by decide +kernel)
set_option maxRecDepth 20000 in
theorem gX7_missing_X0_follow : GoodIn wsX7_missing (wsV RX7 170 RX0 yX0_follow wsX0_follow) := goodIn_app (goodIn_of _ (by decide +kernel)) ggX7_missing_X0_follow
set_option maxRecDepth 20000 in
theorem ggX7_missing_X7_lowest : GoodIn wsX7_missing wsX7_lowest := goodIn_r _ [48, 7, 49, 50, 11, 51] (by decide +kernel) (by decide +kernel)
set_option maxRecDepth 20000 in
theorem gX7_missing_X7_lowest : GoodIn wsX7_missing (va_wsS RX7 184 yX7_lowest wsX7_lowest) := goodIn_app (goodIn_of _ (by decide +kernel)) ggX7_missing_X7_lowest
theorem dX7_missing_0 : decode cX7_missing 0 = .ok (.iload_n 1, 1) := by decide +kernel
theorem dX7_missing_1 : decode cX7_missing 1 = .ok (.invokestatic 165, 3) := by decide +kernel
theorem dX7_missing_4 : decode cX7_missing 4 = .ok (.ifCond .ne 7, 3) := by decide +kernel
theorem dX7_missing_7 : decode cX7_missing 7 = .ok (.ldc2_w 168, 3) := by decide +kernel
theorem dX7_missing_10 : decode cX7_missing 10 = .ok (.lreturn, 1) := by decide +kernel
theorem dX7_missing_11 : decode cX7_missing 11 = .ok (.aload_n 0, 1) := by decide +kernel
theorem dX7_missing_12 : decode cX7_missing 12 = .ok (.getfield 51, 3) := by decide +kernel
theorem dX7_missing_15 : decode cX7_missing 15 = .ok (.aload_n 0, 1) := by decide +kernel
theorem dX7_missing_16 : decode cX7_missing 16 = .ok (.getfield 26, 3) := by decide +kernel
theorem dX7_missing_19 : decode cX7_missing 19 = .ok (.aload_n 0, 1) := by decide +kernel
theorem dX7_missing_20 : decode cX7_missing 20 = .ok (.getfield 36, 3) := by decide +kernel
theorem dX7_missing_23 : decode cX7_missing 23 = .ok (.aload_n 0, 1) := by decide +kernel
theorem dX7_missing_24 : decode cX7_missing 24 = .ok (.getfield 36, 3) := by decide +kernel
theorem dX7_missing_27 : decode cX7_missing 27 = .ok (.getfield 143, 3) := by decide +kernel
theorem dX7_missing_30 : decode cX7_missing 30 = .ok (.invokevirtual 170, 3) := by decide +kernel
theorem dX7_missing_33 : decode cX7_missing 33 = .ok (.pop, 1) := by decide +kernel
theorem dX7_missing_34 : decode cX7_missing 34 = .ok (.aload_n 0, 1) := by decide +kernel
theorem dX7_missing_35 : decode cX7_missing 35 = .ok (.getfield 51, 3) := by decide +kernel
theorem dX7_missing_38 : decode cX7_missing 38 = .ok (.getfield 174, 3) := by decide +kernel
theorem dX7_missing_41 : decode cX7_missing 41 = .ok (.lconst 0, 1) := by decide +kernel
theorem dX7_missing_42 : decode cX7_missing 42 = .ok (.lcmp, 1) := by decide +kernel
theorem dX7_missing_43 : decode cX7_missing 43 = .ok (.ifCond .ne 9, 3) := by decide +kernel
theorem dX7_missing_46 : decode cX7_missing 46 = .ok (.ldc2_w 178, 3) := by decide +kernel
theorem dX7_missing_49 : decode cX7_missing 49 = .ok (.goto 21, 3) := by decide +kernel
theorem dX7_missing_52 : decode cX7_missing 52 = .ok (.aload_n 0, 1) := by decide +kernel
theorem dX7_missing_53 : decode cX7_missing 53 = .ok (.getfield 51, 3) := by decide +kernel
theorem dX7_missing_56 : decode cX7_missing 56 = .ok (.getfield 188, 3) := by decide +kernel
theorem dX7_missing_59 : decode cX7_missing 59 = .ok (.aload_n 0, 1) := by decide +kernel
theorem dX7_missing_60 : decode cX7_missing 60 = .ok (.getfield 51, 3) := by decide +kernel
theorem dX7_missing_63 : decode cX7_missing 63 = .ok (.getfield 174, 3) := by decide +kernel
theorem dX7_missing_66 : decode cX7_missing 66 = .ok (.iload_n 1, 1) := by decide +kernel
theorem dX7_missing_67 : decode cX7_missing 67 = .ok (.invokestatic 184, 3) := by decide +kernel
theorem dX7_missing_70 : decode cX7_missing 70 = .ok (.lreturn, 1) := by decide +kernel
set_option maxRecDepth 20000 in
theorem ggX7_since_X0_follow : GoodIn wsX7_since wsX0_follow := goodIn_r _ [9, 10, 11, 12, 13, 14, 15, 16, 17, 8, 18, 19, 20, 21, 22, 23, 24, 25, 26, 27, 28, 29, 30, 31, 32, 33, 34, 35, 36, 37, 38, 53, 54, 55, 56, 57, 58, 59, 60, 61, 62, 63, 64, 65, 66, 67, 68, 69, 70, 71, 72] (by decide +kernel) (by decide +kernel)
set_option maxRecDepth 20000 in
theorem gX7_since_X0_follow : GoodIn wsX7_since (wsV RX7 170 RX0 yX0_follow wsX0_follow) := goodIn_app (goodIn_of _ (by decide +kernel)) ggX7_since_X0_follow
set_option maxRecDepth 20000 in
theorem ggX7_since_X0_likeliestAway : GoodIn wsX7_since wsX0_likeliestAway := goodIn_r _ [42, 19, 59, 60, 61] (by decide +kernel) (by decide +kernel)
set_option maxRecDepth 20000 in
theorem gX7_since_X0_likeliestAway : GoodIn wsX7_since (wsV RX7 191 RX0 yX0_likeliestAway wsX0_likeliestAway) := goodIn_app (goodIn_of _ (by decide +kernel)) ggX7_since_X0_likeliestAway
theorem dX7_since_0 : decode cX7_since 0 = .ok (.aload_n 0, 1) := by decide +kernel
theorem dX7_since_1 : decode cX7_since 1 = .ok (.getfield 51, 3) := by decide +kernel
theorem dX7_since_4 : decode cX7_since 4 = .ok (.aload_n 0, 1) := by decide +kernel
theorem dX7_since_5 : decode cX7_since 5 = .ok (.getfield 26, 3) := by decide +kernel
theorem dX7_since_8 : decode cX7_since 8 = .ok (.aload_n 0, 1) := by decide +kernel
theorem dX7_since_9 : decode cX7_since 9 = .ok (.getfield 36, 3) := by decide +kernel
theorem dX7_since_12 : decode cX7_since 12 = .ok (.aload_n 0, 1) := by decide +kernel
theorem dX7_since_13 : decode cX7_since 13 = .ok (.getfield 36, 3) := by decide +kernel
theorem dX7_since_16 : decode cX7_since 16 = .ok (.getfield 143, 3) := by decide +kernel
theorem dX7_since_19 : decode cX7_since 19 = .ok (.invokevirtual 170, 3) := by decide +kernel
theorem dX7_since_22 : decode cX7_since 22 = .ok (.pop, 1) := by decide +kernel
theorem dX7_since_23 : decode cX7_since 23 = .ok (.aload_n 0, 1) := by decide +kernel
theorem dX7_since_24 : decode cX7_since 24 = .ok (.getfield 51, 3) := by decide +kernel
theorem dX7_since_27 : decode cX7_since 27 = .ok (.invokevirtual 191, 3) := by decide +kernel
theorem dX7_since_30 : decode cX7_since 30 = .ok (.ireturn, 1) := by decide +kernel
set_option maxRecDepth 20000 in
theorem ggX7_judge_X0_follow : GoodIn wsX7_judge wsX0_follow := goodIn_r _ [9, 10, 11, 12, 13, 14, 15, 16, 17, 8, 18, 19, 20, 21, 22, 23, 24, 25, 26, 27, 28, 29, 30, 31, 32, 33, 34, 35, 36, 37, 38, 49, 50, 51, 52, 53, 54, 55, 56, 57, 58, 59, 60, 61, 62, 63, 64, 65, 66, 67, 68] (by decide +kernel) (by decide +kernel)
set_option maxRecDepth 20000 in
theorem gX7_judge_X0_follow : GoodIn wsX7_judge (wsV RX7 170 RX0 yX0_follow wsX0_follow) := goodIn_app (goodIn_of _ (by decide +kernel)) ggX7_judge_X0_follow
theorem dX7_judge_0 : decode cX7_judge 0 = .ok (.aload_n 0, 1) := by decide +kernel
theorem dX7_judge_1 : decode cX7_judge 1 = .ok (.getfield 51, 3) := by decide +kernel
theorem dX7_judge_4 : decode cX7_judge 4 = .ok (.aload_n 0, 1) := by decide +kernel
theorem dX7_judge_5 : decode cX7_judge 5 = .ok (.getfield 26, 3) := by decide +kernel
theorem dX7_judge_8 : decode cX7_judge 8 = .ok (.aload_n 0, 1) := by decide +kernel
theorem dX7_judge_9 : decode cX7_judge 9 = .ok (.getfield 36, 3) := by decide +kernel
theorem dX7_judge_12 : decode cX7_judge 12 = .ok (.aload_n 0, 1) := by decide +kernel
theorem dX7_judge_13 : decode cX7_judge 13 = .ok (.getfield 36, 3) := by decide +kernel
theorem dX7_judge_16 : decode cX7_judge 16 = .ok (.getfield 143, 3) := by decide +kernel
theorem dX7_judge_19 : decode cX7_judge 19 = .ok (.invokevirtual 170, 3) := by decide +kernel
theorem dX7_judge_22 : decode cX7_judge 22 = .ok (.ireturn, 1) := by decide +kernel
set_option maxRecDepth 20000 in
theorem ggX7_backward_X7_isPart : GoodIn wsX7_backward wsX7_isPart := goodIn_r _ [13] (by decide +kernel) (by decide +kernel)
set_option maxRecDepth 20000 in
theorem gX7_backward_X7_isPart : GoodIn wsX7_backward (va_wsS RX7 165 yX7_isPart wsX7_isPart) := goodIn_app (goodIn_of _ (by decide +kernel)) ggX7_backward_X7_isPart
set_option maxRecDepth 20000 in
theorem ggX7_backward_X0_follow : GoodIn wsX7_backward wsX0_follow := goodIn_r _ [18, 19, 20, 21, 22, 23, 24, 25, 26, 17, 27, 28, 29, 30, 31, 32, 33, 34, 35, 36, 37, 38, 39, 40, 41, 42, 43, 44, 45, 12, 46, 63, 64, 65, 66, 67, 68, 69, 70, 71, 72, 73, 74, 75, 76, 77, 78, 79, 80, 81, 82] (by decide +kernel) (by decide +kernel)
set_option maxRecDepth 20000 in
theorem gX7_backward_X0_follow : GoodIn wsX7_backward (wsV RX7 170 RX0 yX0_follow wsX0_follow) := goodIn_app (goodIn_of _ (by decide +kernel)) ggX7_backward_X0_follow
set_option maxRecDepth 20000 in
theorem ggX7_backward_X7_lowest : GoodIn wsX7_backward wsX7_lowest := goodIn_r _ [49, 8, 50, 51, 12, 52] (by decide +kernel) (by decide +kernel)
set_option maxRecDepth 20000 in
theorem gX7_backward_X7_lowest : GoodIn wsX7_backward (va_wsS RX7 184 yX7_lowest wsX7_lowest) := goodIn_app (goodIn_of _ (by decide +kernel)) ggX7_backward_X7_lowest
theorem dX7_backward_0 : decode cX7_backward 0 = .ok (.iload_n 1, 1) := by decide +kernel
theorem dX7_backward_1 : decode cX7_backward 1 = .ok (.invokestatic 165, 3) := by decide +kernel
theorem dX7_backward_4 : decode cX7_backward 4 = .ok (.ifCond .ne 7, 3) := by decide +kernel
theorem dX7_backward_7 : decode cX7_backward 7 = .ok (.ldc2_w 168, 3) := by decide +kernel
theorem dX7_backward_10 : decode cX7_backward 10 = .ok (.lreturn, 1) := by decide +kernel
theorem dX7_backward_11 : decode cX7_backward 11 = .ok (.aload_n 0, 1) := by decide +kernel
theorem dX7_backward_12 : decode cX7_backward 12 = .ok (.getfield 36, 3) := by decide +kernel
theorem dX7_backward_15 : decode cX7_backward 15 = .ok (.getfield 143, 3) := by decide +kernel
theorem dX7_backward_18 : decode cX7_backward 18 = .ok (.ifCond .ne 7, 3) := by decide +kernel
theorem dX7_backward_21 : decode cX7_backward 21 = .ok (.ldc2_w 194, 3) := by decide +kernel
theorem dX7_backward_24 : decode cX7_backward 24 = .ok (.lreturn, 1) := by decide +kernel
theorem dX7_backward_25 : decode cX7_backward 25 = .ok (.aload_n 0, 1) := by decide +kernel
theorem dX7_backward_26 : decode cX7_backward 26 = .ok (.getfield 51, 3) := by decide +kernel
theorem dX7_backward_29 : decode cX7_backward 29 = .ok (.aload_n 0, 1) := by decide +kernel
theorem dX7_backward_30 : decode cX7_backward 30 = .ok (.getfield 26, 3) := by decide +kernel
theorem dX7_backward_33 : decode cX7_backward 33 = .ok (.aload_n 0, 1) := by decide +kernel
theorem dX7_backward_34 : decode cX7_backward 34 = .ok (.getfield 36, 3) := by decide +kernel
theorem dX7_backward_37 : decode cX7_backward 37 = .ok (.aload_n 0, 1) := by decide +kernel
theorem dX7_backward_38 : decode cX7_backward 38 = .ok (.getfield 36, 3) := by decide +kernel
theorem dX7_backward_41 : decode cX7_backward 41 = .ok (.getfield 143, 3) := by decide +kernel
theorem dX7_backward_44 : decode cX7_backward 44 = .ok (.iconst 1, 1) := by decide +kernel
theorem dX7_backward_45 : decode cX7_backward 45 = .ok (.isub, 1) := by decide +kernel
theorem dX7_backward_46 : decode cX7_backward 46 = .ok (.invokevirtual 170, 3) := by decide +kernel
theorem dX7_backward_49 : decode cX7_backward 49 = .ok (.pop, 1) := by decide +kernel
theorem dX7_backward_50 : decode cX7_backward 50 = .ok (.aload_n 0, 1) := by decide +kernel
theorem dX7_backward_51 : decode cX7_backward 51 = .ok (.getfield 51, 3) := by decide +kernel
theorem dX7_backward_54 : decode cX7_backward 54 = .ok (.getfield 174, 3) := by decide +kernel
theorem dX7_backward_57 : decode cX7_backward 57 = .ok (.lconst 0, 1) := by decide +kernel
theorem dX7_backward_58 : decode cX7_backward 58 = .ok (.lcmp, 1) := by decide +kernel
theorem dX7_backward_59 : decode cX7_backward 59 = .ok (.ifCond .ne 9, 3) := by decide +kernel
theorem dX7_backward_62 : decode cX7_backward 62 = .ok (.ldc2_w 178, 3) := by decide +kernel
theorem dX7_backward_65 : decode cX7_backward 65 = .ok (.goto 21, 3) := by decide +kernel
theorem dX7_backward_68 : decode cX7_backward 68 = .ok (.aload_n 0, 1) := by decide +kernel
theorem dX7_backward_69 : decode cX7_backward 69 = .ok (.getfield 51, 3) := by decide +kernel
theorem dX7_backward_72 : decode cX7_backward 72 = .ok (.getfield 188, 3) := by decide +kernel
theorem dX7_backward_75 : decode cX7_backward 75 = .ok (.aload_n 0, 1) := by decide +kernel
theorem dX7_backward_76 : decode cX7_backward 76 = .ok (.getfield 51, 3) := by decide +kernel
theorem dX7_backward_79 : decode cX7_backward 79 = .ok (.getfield 174, 3) := by decide +kernel
theorem dX7_backward_82 : decode cX7_backward 82 = .ok (.iload_n 1, 1) := by decide +kernel
theorem dX7_backward_83 : decode cX7_backward 83 = .ok (.invokestatic 184, 3) := by decide +kernel
theorem dX7_backward_86 : decode cX7_backward 86 = .ok (.lreturn, 1) := by decide +kernel
set_option maxRecDepth 20000 in
theorem ggX7_decide_X7_isOfChoice : GoodIn wsX7_decide wsX7_isOfChoice := goodIn_r _ [10] (by decide +kernel) (by decide +kernel)
set_option maxRecDepth 20000 in
theorem gX7_decide_X7_isOfChoice : GoodIn wsX7_decide (va_wsS RX7 196 yX7_isOfChoice wsX7_isOfChoice) := goodIn_app (goodIn_of _ (by decide +kernel)) ggX7_decide_X7_isOfChoice
set_option maxRecDepth 20000 in
theorem ggX7_decide_X0_follow : GoodIn wsX7_decide wsX0_follow := goodIn_r _ [15, 16, 17, 18, 19, 20, 21, 22, 23, 14, 24, 25, 26, 27, 28, 29, 30, 31, 32, 33, 34, 35, 36, 37, 38, 39, 40, 41, 42, 9, 43, 82, 83, 84, 85, 86, 87, 88, 89, 90, 91, 92, 93, 94, 95, 96, 97, 98, 99, 100, 101] (by decide +kernel) (by decide +kernel)
set_option maxRecDepth 20000 in
theorem gX7_decide_X0_follow : GoodIn wsX7_decide (wsV RX7 170 RX0 yX0_follow wsX0_follow) := goodIn_app (goodIn_of _ (by decide +kernel)) ggX7_decide_X0_follow
set_option maxRecDepth 20000 in
theorem ggX7_decide_X1_onOrBack : GoodIn wsX7_decide wsX1_onOrBack := goodIn_r _ [48, 49, 50, 51, 52, 53, 54, 55, 56, 57, 58, 59, 60, 91, 92, 93, 94, 95, 96, 97, 98, 99, 100, 101, 88, 89, 90, 102, 103, 104] (by decide +kernel) (by decide +kernel)
set_option maxRecDepth 20000 in
theorem gX7_decide_X1_onOrBack : GoodIn wsX7_decide (wsV RX7 199 RX1 yX1_onOrBack wsX1_onOrBack) := goodIn_app (goodIn_of _ (by decide +kernel)) ggX7_decide_X1_onOrBack
set_option maxRecDepth 20000 in
theorem ggX7_decide_X1_answer : GoodIn wsX7_decide wsX1_answer := goodIn_r _ [64, 60, 65, 53, 58, 66, 9, 67, 68, 69, 70, 71, 102, 103, 104] (by decide +kernel) (by decide +kernel)
set_option maxRecDepth 20000 in
theorem gX7_decide_X1_answer : GoodIn wsX7_decide (wsV RX7 203 RX1 yX1_answer wsX1_answer) := goodIn_app (goodIn_of _ (by decide +kernel)) ggX7_decide_X1_answer
theorem dX7_decide_0 : decode cX7_decide 0 = .ok (.iload_n 1, 1) := by decide +kernel
theorem dX7_decide_1 : decode cX7_decide 1 = .ok (.invokestatic 196, 3) := by decide +kernel
theorem dX7_decide_4 : decode cX7_decide 4 = .ok (.ifCond .ne 7, 3) := by decide +kernel
theorem dX7_decide_7 : decode cX7_decide 7 = .ok (.ldc2_w 168, 3) := by decide +kernel
theorem dX7_decide_10 : decode cX7_decide 10 = .ok (.lreturn, 1) := by decide +kernel
theorem dX7_decide_11 : decode cX7_decide 11 = .ok (.aload_n 0, 1) := by decide +kernel
theorem dX7_decide_12 : decode cX7_decide 12 = .ok (.getfield 51, 3) := by decide +kernel
theorem dX7_decide_15 : decode cX7_decide 15 = .ok (.aload_n 0, 1) := by decide +kernel
theorem dX7_decide_16 : decode cX7_decide 16 = .ok (.getfield 26, 3) := by decide +kernel
theorem dX7_decide_19 : decode cX7_decide 19 = .ok (.aload_n 0, 1) := by decide +kernel
theorem dX7_decide_20 : decode cX7_decide 20 = .ok (.getfield 36, 3) := by decide +kernel
theorem dX7_decide_23 : decode cX7_decide 23 = .ok (.aload_n 0, 1) := by decide +kernel
theorem dX7_decide_24 : decode cX7_decide 24 = .ok (.getfield 36, 3) := by decide +kernel
theorem dX7_decide_27 : decode cX7_decide 27 = .ok (.getfield 143, 3) := by decide +kernel
theorem dX7_decide_30 : decode cX7_decide 30 = .ok (.invokevirtual 170, 3) := by decide +kernel
theorem dX7_decide_33 : decode cX7_decide 33 = .ok (.pop, 1) := by decide +kernel
theorem dX7_decide_34 : decode cX7_decide 34 = .ok (.aload_n 0, 1) := by decide +kernel
theorem dX7_decide_35 : decode cX7_decide 35 = .ok (.getfield 58, 3) := by decide +kernel
theorem dX7_decide_38 : decode cX7_decide 38 = .ok (.aload_n 0, 1) := by decide +kernel
theorem dX7_decide_39 : decode cX7_decide 39 = .ok (.getfield 26, 3) := by decide +kernel
theorem dX7_decide_42 : decode cX7_decide 42 = .ok (.aload_n 0, 1) := by decide +kernel
theorem dX7_decide_43 : decode cX7_decide 43 = .ok (.getfield 51, 3) := by decide +kernel
theorem dX7_decide_46 : decode cX7_decide 46 = .ok (.invokevirtual 199, 3) := by decide +kernel
theorem dX7_decide_49 : decode cX7_decide 49 = .ok (.aload_n 0, 1) := by decide +kernel
theorem dX7_decide_50 : decode cX7_decide 50 = .ok (.getfield 58, 3) := by decide +kernel
theorem dX7_decide_53 : decode cX7_decide 53 = .ok (.iload_n 1, 1) := by decide +kernel
theorem dX7_decide_54 : decode cX7_decide 54 = .ok (.invokevirtual 203, 3) := by decide +kernel
theorem dX7_decide_57 : decode cX7_decide 57 = .ok (.lreturn, 1) := by decide +kernel
set_option maxRecDepth 20000 in
theorem ggX7_again_X7_isOfChoice : GoodIn wsX7_again wsX7_isOfChoice := goodIn_r _ [10] (by decide +kernel) (by decide +kernel)
set_option maxRecDepth 20000 in
theorem gX7_again_X7_isOfChoice : GoodIn wsX7_again (va_wsS RX7 196 yX7_isOfChoice wsX7_isOfChoice) := goodIn_app (goodIn_of _ (by decide +kernel)) ggX7_again_X7_isOfChoice
set_option maxRecDepth 20000 in
theorem ggX7_again_X0_follow : GoodIn wsX7_again wsX0_follow := goodIn_r _ [15, 16, 17, 18, 19, 20, 21, 22, 23, 14, 24, 25, 26, 27, 28, 29, 30, 31, 32, 33, 34, 35, 36, 37, 38, 39, 40, 41, 42, 9, 43, 92, 93, 94, 95, 96, 97, 98, 99, 100, 101, 102, 103, 104, 105, 106, 107, 108, 109, 110, 111] (by decide +kernel) (by decide +kernel)
set_option maxRecDepth 20000 in
theorem gX7_again_X0_follow : GoodIn wsX7_again (wsV RX7 170 RX0 yX0_follow wsX0_follow) := goodIn_app (goodIn_of _ (by decide +kernel)) ggX7_again_X0_follow
set_option maxRecDepth 20000 in
theorem ggX7_again_X1_anotherCount : GoodIn wsX7_again wsX1_anotherCount := goodIn_r _ [48, 49, 50, 51, 52, 53, 54, 55, 56, 47, 57, 58, 59, 60, 61, 62, 63, 64, 65, 66, 67, 68, 69, 70, 42, 9, 43, 112, 113, 114, 101, 102, 103, 104, 105, 106, 107, 108, 109, 110, 111, 98, 99, 100] (by decide +kernel) (by decide +kernel)
set_option maxRecDepth 20000 in
theorem gX7_again_X1_anotherCount : GoodIn wsX7_again (wsV RX7 207 RX1 yX1_anotherCount wsX1_anotherCount) := goodIn_app (goodIn_of _ (by decide +kernel)) ggX7_again_X1_anotherCount
set_option maxRecDepth 20000 in
theorem ggX7_again_X1_answer : GoodIn wsX7_again wsX1_answer := goodIn_r _ [74, 52, 75, 49, 50, 76, 9, 77, 78, 79, 80, 81, 112, 113, 114] (by decide +kernel) (by decide +kernel)
set_option maxRecDepth 20000 in
theorem gX7_again_X1_answer : GoodIn wsX7_again (wsV RX7 203 RX1 yX1_answer wsX1_answer) := goodIn_app (goodIn_of _ (by decide +kernel)) ggX7_again_X1_answer
theorem dX7_again_0 : decode cX7_again 0 = .ok (.iload_n 1, 1) := by decide +kernel
theorem dX7_again_1 : decode cX7_again 1 = .ok (.invokestatic 196, 3) := by decide +kernel
theorem dX7_again_4 : decode cX7_again 4 = .ok (.ifCond .ne 7, 3) := by decide +kernel
theorem dX7_again_7 : decode cX7_again 7 = .ok (.ldc2_w 168, 3) := by decide +kernel
theorem dX7_again_10 : decode cX7_again 10 = .ok (.lreturn, 1) := by decide +kernel
theorem dX7_again_11 : decode cX7_again 11 = .ok (.aload_n 0, 1) := by decide +kernel
theorem dX7_again_12 : decode cX7_again 12 = .ok (.getfield 51, 3) := by decide +kernel
theorem dX7_again_15 : decode cX7_again 15 = .ok (.aload_n 0, 1) := by decide +kernel
theorem dX7_again_16 : decode cX7_again 16 = .ok (.getfield 26, 3) := by decide +kernel
theorem dX7_again_19 : decode cX7_again 19 = .ok (.aload_n 0, 1) := by decide +kernel
theorem dX7_again_20 : decode cX7_again 20 = .ok (.getfield 36, 3) := by decide +kernel
theorem dX7_again_23 : decode cX7_again 23 = .ok (.aload_n 0, 1) := by decide +kernel
theorem dX7_again_24 : decode cX7_again 24 = .ok (.getfield 36, 3) := by decide +kernel
theorem dX7_again_27 : decode cX7_again 27 = .ok (.getfield 143, 3) := by decide +kernel
theorem dX7_again_30 : decode cX7_again 30 = .ok (.invokevirtual 170, 3) := by decide +kernel
theorem dX7_again_33 : decode cX7_again 33 = .ok (.pop, 1) := by decide +kernel
theorem dX7_again_34 : decode cX7_again 34 = .ok (.aload_n 0, 1) := by decide +kernel
theorem dX7_again_35 : decode cX7_again 35 = .ok (.getfield 58, 3) := by decide +kernel
theorem dX7_again_38 : decode cX7_again 38 = .ok (.aload_n 0, 1) := by decide +kernel
theorem dX7_again_39 : decode cX7_again 39 = .ok (.getfield 26, 3) := by decide +kernel
theorem dX7_again_42 : decode cX7_again 42 = .ok (.aload_n 0, 1) := by decide +kernel
theorem dX7_again_43 : decode cX7_again 43 = .ok (.getfield 51, 3) := by decide +kernel
theorem dX7_again_46 : decode cX7_again 46 = .ok (.invokevirtual 207, 3) := by decide +kernel
theorem dX7_again_49 : decode cX7_again 49 = .ok (.aload_n 0, 1) := by decide +kernel
theorem dX7_again_50 : decode cX7_again 50 = .ok (.getfield 58, 3) := by decide +kernel
theorem dX7_again_53 : decode cX7_again 53 = .ok (.iload_n 1, 1) := by decide +kernel
theorem dX7_again_54 : decode cX7_again 54 = .ok (.invokevirtual 203, 3) := by decide +kernel
theorem dX7_again_57 : decode cX7_again 57 = .ok (.lreturn, 1) := by decide +kernel
set_option maxRecDepth 20000 in
theorem ggX7_far_X7_isOfChoice : GoodIn wsX7_far wsX7_isOfChoice := goodIn_r _ [11] (by decide +kernel) (by decide +kernel)
set_option maxRecDepth 20000 in
theorem gX7_far_X7_isOfChoice : GoodIn wsX7_far (va_wsS RX7 196 yX7_isOfChoice wsX7_isOfChoice) := goodIn_app (goodIn_of _ (by decide +kernel)) ggX7_far_X7_isOfChoice
set_option maxRecDepth 20000 in
theorem ggX7_far_X0_follow : GoodIn wsX7_far wsX0_follow := goodIn_r _ [16, 17, 18, 19, 20, 21, 22, 23, 24, 15, 25, 26, 27, 28, 29, 30, 31, 32, 33, 34, 35, 36, 37, 38, 39, 40, 41, 42, 43, 10, 44, 86, 87, 88, 89, 90, 91, 92, 93, 94, 95, 96, 97, 98, 99, 100, 101, 102, 103, 104, 105] (by decide +kernel) (by decide +kernel)
set_option maxRecDepth 20000 in
theorem gX7_far_X0_follow : GoodIn wsX7_far (wsV RX7 170 RX0 yX0_follow wsX0_follow) := goodIn_app (goodIn_of _ (by decide +kernel)) ggX7_far_X0_follow
set_option maxRecDepth 20000 in
theorem ggX7_far_X1_howFarBack : GoodIn wsX7_far wsX1_howFarBack := goodIn_r _ [49, 50, 51, 52, 53, 54, 55, 56, 57, 58, 59, 60, 61, 62, 63, 64, 106, 107, 108, 95, 96, 97, 98, 99, 100, 101, 102, 103, 104, 105, 92, 93, 94] (by decide +kernel) (by decide +kernel)
set_option maxRecDepth 20000 in
theorem gX7_far_X1_howFarBack : GoodIn wsX7_far (wsV RX7 210 RX1 yX1_howFarBack wsX1_howFarBack) := goodIn_app (goodIn_of _ (by decide +kernel)) ggX7_far_X1_howFarBack
set_option maxRecDepth 20000 in
theorem ggX7_far_X1_answer : GoodIn wsX7_far wsX1_answer := goodIn_r _ [68, 56, 69, 50, 53, 70, 10, 71, 72, 73, 74, 75, 106, 107, 108] (by decide +kernel) (by decide +kernel)
set_option maxRecDepth 20000 in
theorem gX7_far_X1_answer : GoodIn wsX7_far (wsV RX7 203 RX1 yX1_answer wsX1_answer) := goodIn_app (goodIn_of _ (by decide +kernel)) ggX7_far_X1_answer
theorem dX7_far_0 : decode cX7_far 0 = .ok (.iload_n 1, 1) := by decide +kernel
theorem dX7_far_1 : decode cX7_far 1 = .ok (.invokestatic 196, 3) := by decide +kernel
theorem dX7_far_4 : decode cX7_far 4 = .ok (.ifCond .ne 7, 3) := by decide +kernel
theorem dX7_far_7 : decode cX7_far 7 = .ok (.ldc2_w 168, 3) := by decide +kernel
theorem dX7_far_10 : decode cX7_far 10 = .ok (.lreturn, 1) := by decide +kernel
theorem dX7_far_11 : decode cX7_far 11 = .ok (.aload_n 0, 1) := by decide +kernel
theorem dX7_far_12 : decode cX7_far 12 = .ok (.getfield 51, 3) := by decide +kernel
theorem dX7_far_15 : decode cX7_far 15 = .ok (.aload_n 0, 1) := by decide +kernel
theorem dX7_far_16 : decode cX7_far 16 = .ok (.getfield 26, 3) := by decide +kernel
theorem dX7_far_19 : decode cX7_far 19 = .ok (.aload_n 0, 1) := by decide +kernel
theorem dX7_far_20 : decode cX7_far 20 = .ok (.getfield 36, 3) := by decide +kernel
theorem dX7_far_23 : decode cX7_far 23 = .ok (.aload_n 0, 1) := by decide +kernel
theorem dX7_far_24 : decode cX7_far 24 = .ok (.getfield 36, 3) := by decide +kernel
theorem dX7_far_27 : decode cX7_far 27 = .ok (.getfield 143, 3) := by decide +kernel
theorem dX7_far_30 : decode cX7_far 30 = .ok (.invokevirtual 170, 3) := by decide +kernel
theorem dX7_far_33 : decode cX7_far 33 = .ok (.pop, 1) := by decide +kernel
theorem dX7_far_34 : decode cX7_far 34 = .ok (.aload_n 0, 1) := by decide +kernel
theorem dX7_far_35 : decode cX7_far 35 = .ok (.getfield 58, 3) := by decide +kernel
theorem dX7_far_38 : decode cX7_far 38 = .ok (.aload_n 0, 1) := by decide +kernel
theorem dX7_far_39 : decode cX7_far 39 = .ok (.getfield 26, 3) := by decide +kernel
theorem dX7_far_42 : decode cX7_far 42 = .ok (.aload_n 0, 1) := by decide +kernel
theorem dX7_far_43 : decode cX7_far 43 = .ok (.getfield 51, 3) := by decide +kernel
theorem dX7_far_46 : decode cX7_far 46 = .ok (.aload_n 0, 1) := by decide +kernel
theorem dX7_far_47 : decode cX7_far 47 = .ok (.getfield 36, 3) := by decide +kernel
theorem dX7_far_50 : decode cX7_far 50 = .ok (.getfield 137, 3) := by decide +kernel
theorem dX7_far_53 : decode cX7_far 53 = .ok (.invokevirtual 210, 3) := by decide +kernel
theorem dX7_far_56 : decode cX7_far 56 = .ok (.aload_n 0, 1) := by decide +kernel
theorem dX7_far_57 : decode cX7_far 57 = .ok (.getfield 58, 3) := by decide +kernel
theorem dX7_far_60 : decode cX7_far 60 = .ok (.iload_n 1, 1) := by decide +kernel
theorem dX7_far_61 : decode cX7_far 61 = .ok (.invokevirtual 203, 3) := by decide +kernel
theorem dX7_far_64 : decode cX7_far 64 = .ok (.lreturn, 1) := by decide +kernel
set_option maxRecDepth 20000 in
theorem ggX7_plan_X7_isOfChoice : GoodIn wsX7_plan wsX7_isOfChoice := goodIn_r _ [11] (by decide +kernel) (by decide +kernel)
set_option maxRecDepth 20000 in
theorem gX7_plan_X7_isOfChoice : GoodIn wsX7_plan (va_wsS RX7 196 yX7_isOfChoice wsX7_isOfChoice) := goodIn_app (goodIn_of _ (by decide +kernel)) ggX7_plan_X7_isOfChoice
set_option maxRecDepth 20000 in
theorem ggX7_plan_X0_follow : GoodIn wsX7_plan wsX0_follow := goodIn_r _ [16, 17, 18, 19, 20, 21, 22, 23, 24, 15, 25, 26, 27, 28, 29, 30, 31, 32, 33, 34, 35, 36, 37, 38, 39, 40, 41, 42, 43, 10, 44, 96, 97, 98, 99, 100, 101, 102, 103, 104, 105, 106, 107, 108, 109, 110, 111, 112, 113, 114, 115] (by decide +kernel) (by decide +kernel)
set_option maxRecDepth 20000 in
theorem gX7_plan_X0_follow : GoodIn wsX7_plan (wsV RX7 170 RX0 yX0_follow wsX0_follow) := goodIn_app (goodIn_of _ (by decide +kernel)) ggX7_plan_X0_follow
set_option maxRecDepth 20000 in
theorem ggX7_plan_X1_whereToCount : GoodIn wsX7_plan wsX1_whereToCount := goodIn_r _ [49, 50, 51, 52, 53, 54, 55, 56, 57, 48, 58, 59, 60, 61, 62, 63, 64, 10, 65, 66, 67, 68, 69, 70, 71, 72, 73, 74, 116, 117, 118, 102, 103, 104, 105, 106, 107, 108, 109, 110, 111, 112, 113, 114, 115] (by decide +kernel) (by decide +kernel)
set_option maxRecDepth 20000 in
theorem gX7_plan_X1_whereToCount : GoodIn wsX7_plan (wsV RX7 214 RX1 yX1_whereToCount wsX1_whereToCount) := goodIn_app (goodIn_of _ (by decide +kernel)) ggX7_plan_X1_whereToCount
set_option maxRecDepth 20000 in
theorem ggX7_plan_X1_answer : GoodIn wsX7_plan wsX1_answer := goodIn_r _ [78, 54, 79, 50, 51, 80, 10, 81, 82, 83, 84, 85, 116, 117, 118] (by decide +kernel) (by decide +kernel)
set_option maxRecDepth 20000 in
theorem gX7_plan_X1_answer : GoodIn wsX7_plan (wsV RX7 203 RX1 yX1_answer wsX1_answer) := goodIn_app (goodIn_of _ (by decide +kernel)) ggX7_plan_X1_answer
theorem dX7_plan_0 : decode cX7_plan 0 = .ok (.iload_n 1, 1) := by decide +kernel
theorem dX7_plan_1 : decode cX7_plan 1 = .ok (.ifCond .lt 16, 3) := by decide +kernel
theorem dX7_plan_4 : decode cX7_plan 4 = .ok (.iload_n 1, 1) := by decide +kernel
theorem dX7_plan_5 : decode cX7_plan 5 = .ok (.bipush 99, 2) := by decide +kernel
theorem dX7_plan_7 : decode cX7_plan 7 = .ok (.if_icmp .gt 10, 3) := by decide +kernel
theorem dX7_plan_10 : decode cX7_plan 10 = .ok (.iload_n 2, 1) := by decide +kernel
theorem dX7_plan_11 : decode cX7_plan 11 = .ok (.invokestatic 196, 3) := by decide +kernel
theorem dX7_plan_14 : decode cX7_plan 14 = .ok (.ifCond .ne 7, 3) := by decide +kernel
theorem dX7_plan_17 : decode cX7_plan 17 = .ok (.ldc2_w 168, 3) := by decide +kernel
theorem dX7_plan_20 : decode cX7_plan 20 = .ok (.lreturn, 1) := by decide +kernel
theorem dX7_plan_21 : decode cX7_plan 21 = .ok (.aload_n 0, 1) := by decide +kernel
theorem dX7_plan_22 : decode cX7_plan 22 = .ok (.getfield 51, 3) := by decide +kernel
theorem dX7_plan_25 : decode cX7_plan 25 = .ok (.aload_n 0, 1) := by decide +kernel
theorem dX7_plan_26 : decode cX7_plan 26 = .ok (.getfield 26, 3) := by decide +kernel
theorem dX7_plan_29 : decode cX7_plan 29 = .ok (.aload_n 0, 1) := by decide +kernel
theorem dX7_plan_30 : decode cX7_plan 30 = .ok (.getfield 36, 3) := by decide +kernel
theorem dX7_plan_33 : decode cX7_plan 33 = .ok (.aload_n 0, 1) := by decide +kernel
theorem dX7_plan_34 : decode cX7_plan 34 = .ok (.getfield 36, 3) := by decide +kernel
theorem dX7_plan_37 : decode cX7_plan 37 = .ok (.getfield 143, 3) := by decide +kernel
theorem dX7_plan_40 : decode cX7_plan 40 = .ok (.invokevirtual 170, 3) := by decide +kernel
theorem dX7_plan_43 : decode cX7_plan 43 = .ok (.pop, 1) := by decide +kernel
theorem dX7_plan_44 : decode cX7_plan 44 = .ok (.aload_n 0, 1) := by decide +kernel
theorem dX7_plan_45 : decode cX7_plan 45 = .ok (.getfield 58, 3) := by decide +kernel
theorem dX7_plan_48 : decode cX7_plan 48 = .ok (.aload_n 0, 1) := by decide +kernel
theorem dX7_plan_49 : decode cX7_plan 49 = .ok (.getfield 26, 3) := by decide +kernel
theorem dX7_plan_52 : decode cX7_plan 52 = .ok (.aload_n 0, 1) := by decide +kernel
theorem dX7_plan_53 : decode cX7_plan 53 = .ok (.getfield 51, 3) := by decide +kernel
theorem dX7_plan_56 : decode cX7_plan 56 = .ok (.aload_n 0, 1) := by decide +kernel
theorem dX7_plan_57 : decode cX7_plan 57 = .ok (.getfield 36, 3) := by decide +kernel
theorem dX7_plan_60 : decode cX7_plan 60 = .ok (.getfield 137, 3) := by decide +kernel
theorem dX7_plan_63 : decode cX7_plan 63 = .ok (.iload_n 1, 1) := by decide +kernel
theorem dX7_plan_64 : decode cX7_plan 64 = .ok (.invokevirtual 214, 3) := by decide +kernel
theorem dX7_plan_67 : decode cX7_plan 67 = .ok (.aload_n 0, 1) := by decide +kernel
theorem dX7_plan_68 : decode cX7_plan 68 = .ok (.getfield 58, 3) := by decide +kernel
theorem dX7_plan_71 : decode cX7_plan 71 = .ok (.iload_n 2, 1) := by decide +kernel
theorem dX7_plan_72 : decode cX7_plan 72 = .ok (.invokevirtual 203, 3) := by decide +kernel
theorem dX7_plan_75 : decode cX7_plan 75 = .ok (.lreturn, 1) := by decide +kernel
set_option maxRecDepth 20000 in
theorem ggX7_two_X7_isPart : GoodIn wsX7_two wsX7_isPart := goodIn_r _ [7] (by decide +kernel) (by decide +kernel)
set_option maxRecDepth 20000 in
theorem gX7_two_X7_isPart : GoodIn wsX7_two (va_wsS RX7 165 yX7_isPart wsX7_isPart) := goodIn_app (goodIn_of _ (by decide +kernel)) ggX7_two_X7_isPart
set_option maxRecDepth 20000 in
theorem ggX7_two_X7_lowest : GoodIn wsX7_two wsX7_lowest := goodIn_r _ [10, 11, 12, 13, 6, 14] (by decide +kernel) (by decide +kernel)
set_option maxRecDepth 20000 in
theorem gX7_two_X7_lowest : GoodIn wsX7_two (va_wsS RX7 184 yX7_lowest wsX7_lowest) := goodIn_app (goodIn_of _ (by decide +kernel)) ggX7_two_X7_lowest
theorem dX7_two_0 : decode cX7_two 0 = .ok (.iload_n 2, 1) := by decide +kernel
theorem dX7_two_1 : decode cX7_two 1 = .ok (.invokestatic 165, 3) := by decide +kernel
theorem dX7_two_4 : decode cX7_two 4 = .ok (.ifCond .ne 5, 3) := by decide +kernel
theorem dX7_two_7 : decode cX7_two 7 = .ok (.iconst (-1), 1) := by decide +kernel
theorem dX7_two_8 : decode cX7_two 8 = .ok (.ireturn, 1) := by decide +kernel
theorem dX7_two_9 : decode cX7_two 9 = .ok (.aload_n 0, 1) := by decide +kernel
theorem dX7_two_10 : decode cX7_two 10 = .ok (.getfield 26, 3) := by decide +kernel
theorem dX7_two_13 : decode cX7_two 13 = .ok (.getfield 115, 3) := by decide +kernel
theorem dX7_two_16 : decode cX7_two 16 = .ok (.iconst 0, 1) := by decide +kernel
theorem dX7_two_17 : decode cX7_two 17 = .ok (.iaload, 1) := by decide +kernel
theorem dX7_two_18 : decode cX7_two 18 = .ok (.istore_n 3, 1) := by decide +kernel
theorem dX7_two_19 : decode cX7_two 19 = .ok (.bipush 10, 2) := by decide +kernel
theorem dX7_two_21 : decode cX7_two 21 = .ok (.iconst 2, 1) := by decide +kernel
theorem dX7_two_22 : decode cX7_two 22 = .ok (.iload_n 3, 1) := by decide +kernel
theorem dX7_two_23 : decode cX7_two 23 = .ok (.imul, 1) := by decide +kernel
theorem dX7_two_24 : decode cX7_two 24 = .ok (.isub, 1) := by decide +kernel
theorem dX7_two_25 : decode cX7_two 25 = .ok (.istore 4, 2) := by decide +kernel
theorem dX7_two_27 : decode cX7_two 27 = .ok (.iload_n 1, 1) := by decide +kernel
theorem dX7_two_28 : decode cX7_two 28 = .ok (.ifCond .eq 11, 3) := by decide +kernel
theorem dX7_two_31 : decode cX7_two 31 = .ok (.iload 4, 2) := by decide +kernel
theorem dX7_two_33 : decode cX7_two 33 = .ok (.iload 4, 2) := by decide +kernel
theorem dX7_two_35 : decode cX7_two 35 = .ok (.imul, 1) := by decide +kernel
theorem dX7_two_36 : decode cX7_two 36 = .ok (.goto 8, 3) := by decide +kernel
theorem dX7_two_39 : decode cX7_two 39 = .ok (.iconst 2, 1) := by decide +kernel
theorem dX7_two_40 : decode cX7_two 40 = .ok (.iload_n 3, 1) := by decide +kernel
theorem dX7_two_41 : decode cX7_two 41 = .ok (.imul, 1) := by decide +kernel
theorem dX7_two_42 : decode cX7_two 42 = .ok (.iload_n 3, 1) := by decide +kernel
theorem dX7_two_43 : decode cX7_two 43 = .ok (.imul, 1) := by decide +kernel
theorem dX7_two_44 : decode cX7_two 44 = .ok (.istore 5, 2) := by decide +kernel
theorem dX7_two_46 : decode cX7_two 46 = .ok (.iload 5, 2) := by decide +kernel
theorem dX7_two_48 : decode cX7_two 48 = .ok (.i2l, 1) := by decide +kernel
theorem dX7_two_49 : decode cX7_two 49 = .ok (.ldc2_w 218, 3) := by decide +kernel
theorem dX7_two_52 : decode cX7_two 52 = .ok (.iload_n 2, 1) := by decide +kernel
theorem dX7_two_53 : decode cX7_two 53 = .ok (.invokestatic 184, 3) := by decide +kernel
theorem dX7_two_56 : decode cX7_two 56 = .ok (.l2i, 1) := by decide +kernel
theorem dX7_two_57 : decode cX7_two 57 = .ok (.ireturn, 1) := by decide +kernel
set_option maxRecDepth 20000 in
theorem ggX7_groups_X7_isPart : GoodIn wsX7_groups wsX7_isPart := goodIn_r _ [6] (by decide +kernel) (by decide +kernel)
set_option maxRecDepth 20000 in
theorem gX7_groups_X7_isPart : GoodIn wsX7_groups (va_wsS RX7 165 yX7_isPart wsX7_isPart) := goodIn_app (goodIn_of _ (by decide +kernel)) ggX7_groups_X7_isPart
set_option maxRecDepth 20000 in
theorem ggX7_groups_X7_power : GoodIn wsX7_groups wsX7_power := goodIn_r _ [9] (by decide +kernel) (by decide +kernel)
set_option maxRecDepth 20000 in
theorem gX7_groups_X7_power : GoodIn wsX7_groups (va_wsS RX7 220 yX7_power wsX7_power) := goodIn_app (goodIn_of _ (by decide +kernel)) ggX7_groups_X7_power
set_option maxRecDepth 20000 in
theorem ggX7_groups_X7_lowest : GoodIn wsX7_groups wsX7_lowest := goodIn_r _ [12, 13, 14, 15, 5, 16] (by decide +kernel) (by decide +kernel)
set_option maxRecDepth 20000 in
theorem gX7_groups_X7_lowest : GoodIn wsX7_groups (va_wsS RX7 184 yX7_lowest wsX7_lowest) := goodIn_app (goodIn_of _ (by decide +kernel)) ggX7_groups_X7_lowest
theorem dX7_groups_0 : decode cX7_groups 0 = .ok (.iload_n 1, 1) := by decide +kernel
theorem dX7_groups_1 : decode cX7_groups 1 = .ok (.iconst 2, 1) := by decide +kernel
theorem dX7_groups_2 : decode cX7_groups 2 = .ok (.if_icmp .lt 15, 3) := by decide +kernel
theorem dX7_groups_5 : decode cX7_groups 5 = .ok (.iload_n 1, 1) := by decide +kernel
theorem dX7_groups_6 : decode cX7_groups 6 = .ok (.iconst 5, 1) := by decide +kernel
theorem dX7_groups_7 : decode cX7_groups 7 = .ok (.if_icmp .gt 10, 3) := by decide +kernel
theorem dX7_groups_10 : decode cX7_groups 10 = .ok (.iload_n 2, 1) := by decide +kernel
theorem dX7_groups_11 : decode cX7_groups 11 = .ok (.invokestatic 165, 3) := by decide +kernel
theorem dX7_groups_14 : decode cX7_groups 14 = .ok (.ifCond .ne 5, 3) := by decide +kernel
theorem dX7_groups_17 : decode cX7_groups 17 = .ok (.iconst (-1), 1) := by decide +kernel
theorem dX7_groups_18 : decode cX7_groups 18 = .ok (.ireturn, 1) := by decide +kernel
theorem dX7_groups_19 : decode cX7_groups 19 = .ok (.aload_n 0, 1) := by decide +kernel
theorem dX7_groups_20 : decode cX7_groups 20 = .ok (.getfield 26, 3) := by decide +kernel
theorem dX7_groups_23 : decode cX7_groups 23 = .ok (.getfield 115, 3) := by decide +kernel
theorem dX7_groups_26 : decode cX7_groups 26 = .ok (.iconst 2, 1) := by decide +kernel
theorem dX7_groups_27 : decode cX7_groups 27 = .ok (.iaload, 1) := by decide +kernel
theorem dX7_groups_28 : decode cX7_groups 28 = .ok (.iload_n 1, 1) := by decide +kernel
theorem dX7_groups_29 : decode cX7_groups 29 = .ok (.iconst 1, 1) := by decide +kernel
theorem dX7_groups_30 : decode cX7_groups 30 = .ok (.isub, 1) := by decide +kernel
theorem dX7_groups_31 : decode cX7_groups 31 = .ok (.invokestatic 220, 3) := by decide +kernel
theorem dX7_groups_34 : decode cX7_groups 34 = .ok (.i2l, 1) := by decide +kernel
theorem dX7_groups_35 : decode cX7_groups 35 = .ok (.bipush 10, 2) := by decide +kernel
theorem dX7_groups_37 : decode cX7_groups 37 = .ok (.iload_n 1, 1) := by decide +kernel
theorem dX7_groups_38 : decode cX7_groups 38 = .ok (.iconst 1, 1) := by decide +kernel
theorem dX7_groups_39 : decode cX7_groups 39 = .ok (.isub, 1) := by decide +kernel
theorem dX7_groups_40 : decode cX7_groups 40 = .ok (.invokestatic 220, 3) := by decide +kernel
theorem dX7_groups_43 : decode cX7_groups 43 = .ok (.i2l, 1) := by decide +kernel
theorem dX7_groups_44 : decode cX7_groups 44 = .ok (.iload_n 2, 1) := by decide +kernel
theorem dX7_groups_45 : decode cX7_groups 45 = .ok (.invokestatic 184, 3) := by decide +kernel
theorem dX7_groups_48 : decode cX7_groups 48 = .ok (.l2i, 1) := by decide +kernel
theorem dX7_groups_49 : decode cX7_groups 49 = .ok (.ireturn, 1) := by decide +kernel
set_option maxRecDepth 20000 in
theorem ggX7_size_X7_power : GoodIn wsX7_size wsX7_power := goodIn_r _ [6] (by decide +kernel) (by decide +kernel)
set_option maxRecDepth 20000 in
theorem gX7_size_X7_power : GoodIn wsX7_size (va_wsS RX7 220 yX7_power wsX7_power) := goodIn_app (goodIn_of _ (by decide +kernel)) ggX7_size_X7_power
theorem dX7_size_0 : decode cX7_size 0 = .ok (.iload_n 1, 1) := by decide +kernel
theorem dX7_size_1 : decode cX7_size 1 = .ok (.ifCond .lt 9, 3) := by decide +kernel
theorem dX7_size_4 : decode cX7_size 4 = .ok (.iload_n 1, 1) := by decide +kernel
theorem dX7_size_5 : decode cX7_size 5 = .ok (.bipush 100, 2) := by decide +kernel
theorem dX7_size_7 : decode cX7_size 7 = .ok (.if_icmp .lt 5, 3) := by decide +kernel
theorem dX7_size_10 : decode cX7_size 10 = .ok (.iconst (-1), 1) := by decide +kernel
theorem dX7_size_11 : decode cX7_size 11 = .ok (.ireturn, 1) := by decide +kernel
theorem dX7_size_12 : decode cX7_size 12 = .ok (.iconst 2, 1) := by decide +kernel
theorem dX7_size_13 : decode cX7_size 13 = .ok (.istore_n 2, 1) := by decide +kernel
theorem dX7_size_14 : decode cX7_size 14 = .ok (.iload_n 2, 1) := by decide +kernel
theorem dX7_size_15 : decode cX7_size 15 = .ok (.iconst 5, 1) := by decide +kernel
theorem dX7_size_16 : decode cX7_size 16 = .ok (.if_icmp .gt 42, 3) := by decide +kernel
theorem dX7_size_19 : decode cX7_size 19 = .ok (.aload_n 0, 1) := by decide +kernel
theorem dX7_size_20 : decode cX7_size 20 = .ok (.getfield 26, 3) := by decide +kernel
theorem dX7_size_23 : decode cX7_size 23 = .ok (.getfield 115, 3) := by decide +kernel
theorem dX7_size_26 : decode cX7_size 26 = .ok (.iconst 2, 1) := by decide +kernel
theorem dX7_size_27 : decode cX7_size 27 = .ok (.iaload, 1) := by decide +kernel
theorem dX7_size_28 : decode cX7_size 28 = .ok (.iload_n 2, 1) := by decide +kernel
theorem dX7_size_29 : decode cX7_size 29 = .ok (.iconst 1, 1) := by decide +kernel
theorem dX7_size_30 : decode cX7_size 30 = .ok (.isub, 1) := by decide +kernel
theorem dX7_size_31 : decode cX7_size 31 = .ok (.invokestatic 220, 3) := by decide +kernel
theorem dX7_size_34 : decode cX7_size 34 = .ok (.bipush 100, 2) := by decide +kernel
theorem dX7_size_36 : decode cX7_size 36 = .ok (.imul, 1) := by decide +kernel
theorem dX7_size_37 : decode cX7_size 37 = .ok (.iload_n 1, 1) := by decide +kernel
theorem dX7_size_38 : decode cX7_size 38 = .ok (.bipush 10, 2) := by decide +kernel
theorem dX7_size_40 : decode cX7_size 40 = .ok (.iload_n 2, 1) := by decide +kernel
theorem dX7_size_41 : decode cX7_size 41 = .ok (.iconst 1, 1) := by decide +kernel
theorem dX7_size_42 : decode cX7_size 42 = .ok (.isub, 1) := by decide +kernel
theorem dX7_size_43 : decode cX7_size 43 = .ok (.invokestatic 220, 3) := by decide +kernel
theorem dX7_size_46 : decode cX7_size 46 = .ok (.imul, 1) := by decide +kernel
theorem dX7_size_47 : decode cX7_size 47 = .ok (.if_icmp .gt 5, 3) := by decide +kernel
theorem dX7_size_50 : decode cX7_size 50 = .ok (.iload_n 2, 1) := by decide +kernel
theorem dX7_size_51 : decode cX7_size 51 = .ok (.ireturn, 1) := by decide +kernel
theorem dX7_size_52 : decode cX7_size 52 = .ok (.iinc 2 1, 3) := by decide +kernel
theorem dX7_size_55 : decode cX7_size 55 = .ok (.goto (-41), 3) := by decide +kernel
theorem dX7_size_58 : decode cX7_size 58 = .ok (.bipush (-4), 2) := by decide +kernel
theorem dX7_size_60 : decode cX7_size 60 = .ok (.ireturn, 1) := by decide +kernel
set_option maxRecDepth 20000 in
theorem ggX7_answered_X7_isFriend : GoodIn wsX7_answered wsX7_isFriend := goodIn_r _ [8, 1, 2, 19, 20, 21, 22, 23, 24, 25, 26, 27, 28, 29, 30, 31, 32, 33, 34, 35, 36, 37, 38, 39] (by decide +kernel) (by decide +kernel)
set_option maxRecDepth 20000 in
theorem gX7_answered_X7_isFriend : GoodIn wsX7_answered (wsV RX7 130 RX7 yX7_isFriend wsX7_isFriend) := goodIn_app (goodIn_of _ (by decide +kernel)) ggX7_answered_X7_isFriend
set_option maxRecDepth 20000 in
theorem ggX7_answered_X7_isOfChoice : GoodIn wsX7_answered wsX7_isOfChoice := goodIn_r _ [11] (by decide +kernel) (by decide +kernel)
set_option maxRecDepth 20000 in
theorem gX7_answered_X7_isOfChoice : GoodIn wsX7_answered (va_wsS RX7 196 yX7_isOfChoice wsX7_isOfChoice) := goodIn_app (goodIn_of _ (by decide +kernel)) ggX7_answered_X7_isOfChoice
set_option maxRecDepth 20000 in
theorem ggX7_answered_X7_lowest : GoodIn wsX7_answered wsX7_lowest := goodIn_r _ [14, 15, 16, 17, 7, 18] (by decide +kernel) (by decide +kernel)
set_option maxRecDepth 20000 in
theorem gX7_answered_X7_lowest : GoodIn wsX7_answered (va_wsS RX7 184 yX7_lowest wsX7_lowest) := goodIn_app (goodIn_of _ (by decide +kernel)) ggX7_answered_X7_lowest
theorem dX7_answered_0 : decode cX7_answered 0 = .ok (.aload_n 0, 1) := by decide +kernel
theorem dX7_answered_1 : decode cX7_answered 1 = .ok (.iload_n 1, 1) := by decide +kernel
theorem dX7_answered_2 : decode cX7_answered 2 = .ok (.invokevirtual 130, 3) := by decide +kernel
theorem dX7_answered_5 : decode cX7_answered 5 = .ok (.ifCond .eq 10, 3) := by decide +kernel
theorem dX7_answered_8 : decode cX7_answered 8 = .ok (.iload_n 2, 1) := by decide +kernel
theorem dX7_answered_9 : decode cX7_answered 9 = .ok (.invokestatic 196, 3) := by decide +kernel
theorem dX7_answered_12 : decode cX7_answered 12 = .ok (.ifCond .ne 5, 3) := by decide +kernel
theorem dX7_answered_15 : decode cX7_answered 15 = .ok (.iconst (-1), 1) := by decide +kernel
theorem dX7_answered_16 : decode cX7_answered 16 = .ok (.ireturn, 1) := by decide +kernel
theorem dX7_answered_17 : decode cX7_answered 17 = .ok (.iconst 0, 1) := by decide +kernel
theorem dX7_answered_18 : decode cX7_answered 18 = .ok (.istore_n 3, 1) := by decide +kernel
theorem dX7_answered_19 : decode cX7_answered 19 = .ok (.iconst 0, 1) := by decide +kernel
theorem dX7_answered_20 : decode cX7_answered 20 = .ok (.istore 4, 2) := by decide +kernel
theorem dX7_answered_22 : decode cX7_answered 22 = .ok (.iconst 0, 1) := by decide +kernel
theorem dX7_answered_23 : decode cX7_answered 23 = .ok (.istore 5, 2) := by decide +kernel
theorem dX7_answered_25 : decode cX7_answered 25 = .ok (.iload 5, 2) := by decide +kernel
theorem dX7_answered_27 : decode cX7_answered 27 = .ok (.aload_n 0, 1) := by decide +kernel
theorem dX7_answered_28 : decode cX7_answered 28 = .ok (.getfield 26, 3) := by decide +kernel
theorem dX7_answered_31 : decode cX7_answered 31 = .ok (.getfield 224, 3) := by decide +kernel
theorem dX7_answered_34 : decode cX7_answered 34 = .ok (.if_icmp .ge 55, 3) := by decide +kernel
theorem dX7_answered_37 : decode cX7_answered 37 = .ok (.iload 4, 2) := by decide +kernel
theorem dX7_answered_39 : decode cX7_answered 39 = .ok (.aload_n 0, 1) := by decide +kernel
theorem dX7_answered_40 : decode cX7_answered 40 = .ok (.getfield 26, 3) := by decide +kernel
theorem dX7_answered_43 : decode cX7_answered 43 = .ok (.getfield 133, 3) := by decide +kernel
theorem dX7_answered_46 : decode cX7_answered 46 = .ok (.iload_n 1, 1) := by decide +kernel
theorem dX7_answered_47 : decode cX7_answered 47 = .ok (.aaload, 1) := by decide +kernel
theorem dX7_answered_48 : decode cX7_answered 48 = .ok (.iload 5, 2) := by decide +kernel
theorem dX7_answered_50 : decode cX7_answered 50 = .ok (.iaload, 1) := by decide +kernel
theorem dX7_answered_51 : decode cX7_answered 51 = .ok (.iadd, 1) := by decide +kernel
theorem dX7_answered_52 : decode cX7_answered 52 = .ok (.istore 4, 2) := by decide +kernel
theorem dX7_answered_54 : decode cX7_answered 54 = .ok (.aload_n 0, 1) := by decide +kernel
theorem dX7_answered_55 : decode cX7_answered 55 = .ok (.getfield 26, 3) := by decide +kernel
theorem dX7_answered_58 : decode cX7_answered 58 = .ok (.getfield 133, 3) := by decide +kernel
theorem dX7_answered_61 : decode cX7_answered 61 = .ok (.iload_n 1, 1) := by decide +kernel
theorem dX7_answered_62 : decode cX7_answered 62 = .ok (.aaload, 1) := by decide +kernel
theorem dX7_answered_63 : decode cX7_answered 63 = .ok (.iload 5, 2) := by decide +kernel
theorem dX7_answered_65 : decode cX7_answered 65 = .ok (.iaload, 1) := by decide +kernel
theorem dX7_answered_66 : decode cX7_answered 66 = .ok (.aload_n 0, 1) := by decide +kernel
theorem dX7_answered_67 : decode cX7_answered 67 = .ok (.getfield 26, 3) := by decide +kernel
theorem dX7_answered_70 : decode cX7_answered 70 = .ok (.getfield 133, 3) := by decide +kernel
theorem dX7_answered_73 : decode cX7_answered 73 = .ok (.iload_n 1, 1) := by decide +kernel
theorem dX7_answered_74 : decode cX7_answered 74 = .ok (.aaload, 1) := by decide +kernel
theorem dX7_answered_75 : decode cX7_answered 75 = .ok (.iload_n 3, 1) := by decide +kernel
theorem dX7_answered_76 : decode cX7_answered 76 = .ok (.iaload, 1) := by decide +kernel
theorem dX7_answered_77 : decode cX7_answered 77 = .ok (.if_icmp .le 6, 3) := by decide +kernel
theorem dX7_answered_80 : decode cX7_answered 80 = .ok (.iload 5, 2) := by decide +kernel
theorem dX7_answered_82 : decode cX7_answered 82 = .ok (.istore_n 3, 1) := by decide +kernel
theorem dX7_answered_83 : decode cX7_answered 83 = .ok (.iinc 5 1, 3) := by decide +kernel
theorem dX7_answered_86 : decode cX7_answered 86 = .ok (.goto (-61), 3) := by decide +kernel
theorem dX7_answered_89 : decode cX7_answered 89 = .ok (.iload 4, 2) := by decide +kernel
theorem dX7_answered_91 : decode cX7_answered 91 = .ok (.ifCond .ne 6, 3) := by decide +kernel
theorem dX7_answered_94 : decode cX7_answered 94 = .ok (.bipush (-4), 2) := by decide +kernel
theorem dX7_answered_96 : decode cX7_answered 96 = .ok (.ireturn, 1) := by decide +kernel
theorem dX7_answered_97 : decode cX7_answered 97 = .ok (.iload_n 2, 1) := by decide +kernel
theorem dX7_answered_98 : decode cX7_answered 98 = .ok (.ifCond .ne 7, 3) := by decide +kernel
theorem dX7_answered_101 : decode cX7_answered 101 = .ok (.iload_n 3, 1) := by decide +kernel
theorem dX7_answered_102 : decode cX7_answered 102 = .ok (.goto 25, 3) := by decide +kernel
theorem dX7_answered_105 : decode cX7_answered 105 = .ok (.aload_n 0, 1) := by decide +kernel
theorem dX7_answered_106 : decode cX7_answered 106 = .ok (.getfield 26, 3) := by decide +kernel
theorem dX7_answered_109 : decode cX7_answered 109 = .ok (.getfield 133, 3) := by decide +kernel
theorem dX7_answered_112 : decode cX7_answered 112 = .ok (.iload_n 1, 1) := by decide +kernel
theorem dX7_answered_113 : decode cX7_answered 113 = .ok (.aaload, 1) := by decide +kernel
theorem dX7_answered_114 : decode cX7_answered 114 = .ok (.iload_n 3, 1) := by decide +kernel
theorem dX7_answered_115 : decode cX7_answered 115 = .ok (.iaload, 1) := by decide +kernel
theorem dX7_answered_116 : decode cX7_answered 116 = .ok (.i2l, 1) := by decide +kernel
theorem dX7_answered_117 : decode cX7_answered 117 = .ok (.iload 4, 2) := by decide +kernel
theorem dX7_answered_119 : decode cX7_answered 119 = .ok (.i2l, 1) := by decide +kernel
theorem dX7_answered_120 : decode cX7_answered 120 = .ok (.iload_n 2, 1) := by decide +kernel
theorem dX7_answered_121 : decode cX7_answered 121 = .ok (.iconst 1, 1) := by decide +kernel
theorem dX7_answered_122 : decode cX7_answered 122 = .ok (.isub, 1) := by decide +kernel
theorem dX7_answered_123 : decode cX7_answered 123 = .ok (.invokestatic 184, 3) := by decide +kernel
theorem dX7_answered_126 : decode cX7_answered 126 = .ok (.l2i, 1) := by decide +kernel
theorem dX7_answered_127 : decode cX7_answered 127 = .ok (.ireturn, 1) := by decide +kernel
set_option maxRecDepth 20000 in
theorem ggX7_march_X7_isFriend : GoodIn wsX7_march wsX7_isFriend := goodIn_r _ [9, 2, 10, 30, 31, 32, 33, 34, 35, 36, 37, 38, 39, 44, 45, 46, 47, 48, 49, 50, 51, 52, 53, 54] (by decide +kernel) (by decide +kernel)
set_option maxRecDepth 20000 in
theorem gX7_march_X7_isFriend : GoodIn wsX7_march (wsV RX7 130 RX7 yX7_isFriend wsX7_isFriend) := goodIn_app (goodIn_of _ (by decide +kernel)) ggX7_march_X7_isFriend
set_option maxRecDepth 20000 in
theorem ggX7_march_X3_seek : GoodIn wsX7_march wsX3_seek := goodIn_r _ [15, 16, 17, 18, 19, 20, 21, 22, 23, 14, 24, 25, 26, 27, 28, 29, 40, 41, 42, 43, 44, 45, 46, 47, 48, 49, 50, 51, 52, 53, 54] (by decide +kernel) (by decide +kernel)
set_option maxRecDepth 20000 in
theorem gX7_march_X3_seek : GoodIn wsX7_march (wsV RX7 227 RX3 yX3_seek wsX3_seek) := goodIn_app (goodIn_of _ (by decide +kernel)) ggX7_march_X3_seek
theorem dX7_march_0 : decode cX7_march 0 = .ok (.iload_n 1, 1) := by decide +kernel
theorem dX7_march_1 : decode cX7_march 1 = .ok (.iconst (-1), 1) := by decide +kernel
theorem dX7_march_2 : decode cX7_march 2 = .ok (.if_icmp .eq 13, 3) := by decide +kernel
theorem dX7_march_5 : decode cX7_march 5 = .ok (.aload_n 0, 1) := by decide +kernel
theorem dX7_march_6 : decode cX7_march 6 = .ok (.iload_n 1, 1) := by decide +kernel
theorem dX7_march_7 : decode cX7_march 7 = .ok (.invokevirtual 130, 3) := by decide +kernel
theorem dX7_march_10 : decode cX7_march 10 = .ok (.ifCond .ne 5, 3) := by decide +kernel
theorem dX7_march_13 : decode cX7_march 13 = .ok (.iconst (-1), 1) := by decide +kernel
theorem dX7_march_14 : decode cX7_march 14 = .ok (.ireturn, 1) := by decide +kernel
theorem dX7_march_15 : decode cX7_march 15 = .ok (.aload_n 0, 1) := by decide +kernel
theorem dX7_march_16 : decode cX7_march 16 = .ok (.getfield 65, 3) := by decide +kernel
theorem dX7_march_19 : decode cX7_march 19 = .ok (.aload_n 0, 1) := by decide +kernel
theorem dX7_march_20 : decode cX7_march 20 = .ok (.getfield 26, 3) := by decide +kernel
theorem dX7_march_23 : decode cX7_march 23 = .ok (.invokevirtual 227, 3) := by decide +kernel
theorem dX7_march_26 : decode cX7_march 26 = .ok (.iload_n 1, 1) := by decide +kernel
theorem dX7_march_27 : decode cX7_march 27 = .ok (.iconst (-1), 1) := by decide +kernel
theorem dX7_march_28 : decode cX7_march 28 = .ok (.if_icmp .ne 13, 3) := by decide +kernel
theorem dX7_march_31 : decode cX7_march 31 = .ok (.aload_n 0, 1) := by decide +kernel
theorem dX7_march_32 : decode cX7_march 32 = .ok (.getfield 65, 3) := by decide +kernel
theorem dX7_march_35 : decode cX7_march 35 = .ok (.getfield 231, 3) := by decide +kernel
theorem dX7_march_38 : decode cX7_march 38 = .ok (.goto 12, 3) := by decide +kernel
theorem dX7_march_41 : decode cX7_march 41 = .ok (.aload_n 0, 1) := by decide +kernel
theorem dX7_march_42 : decode cX7_march 42 = .ok (.getfield 65, 3) := by decide +kernel
theorem dX7_march_45 : decode cX7_march 45 = .ok (.getfield 234, 3) := by decide +kernel
theorem dX7_march_48 : decode cX7_march 48 = .ok (.iload_n 1, 1) := by decide +kernel
theorem dX7_march_49 : decode cX7_march 49 = .ok (.iaload, 1) := by decide +kernel
theorem dX7_march_50 : decode cX7_march 50 = .ok (.ireturn, 1) := by decide +kernel
set_option maxRecDepth 20000 in
theorem ggX7_schools_X7_isOfSchool : GoodIn wsX7_schools wsX7_isOfSchool := goodIn_r _ [8] (by decide +kernel) (by decide +kernel)
set_option maxRecDepth 20000 in
theorem gX7_schools_X7_isOfSchool : GoodIn wsX7_schools (va_wsS RX7 237 yX7_isOfSchool wsX7_isOfSchool) := goodIn_app (goodIn_of _ (by decide +kernel)) ggX7_schools_X7_isOfSchool
theorem dX7_schools_0 : decode cX7_schools 0 = .ok (.iload_n 1, 1) := by decide +kernel
theorem dX7_schools_1 : decode cX7_schools 1 = .ok (.invokestatic 237, 3) := by decide +kernel
theorem dX7_schools_4 : decode cX7_schools 4 = .ok (.ifCond .eq 19, 3) := by decide +kernel
theorem dX7_schools_7 : decode cX7_schools 7 = .ok (.iload_n 2, 1) := by decide +kernel
theorem dX7_schools_8 : decode cX7_schools 8 = .ok (.invokestatic 237, 3) := by decide +kernel
theorem dX7_schools_11 : decode cX7_schools 11 = .ok (.ifCond .eq 12, 3) := by decide +kernel
theorem dX7_schools_14 : decode cX7_schools 14 = .ok (.iload_n 3, 1) := by decide +kernel
theorem dX7_schools_15 : decode cX7_schools 15 = .ok (.ifCond .eq 10, 3) := by decide +kernel
theorem dX7_schools_18 : decode cX7_schools 18 = .ok (.iload_n 3, 1) := by decide +kernel
theorem dX7_schools_19 : decode cX7_schools 19 = .ok (.iconst 1, 1) := by decide +kernel
theorem dX7_schools_20 : decode cX7_schools 20 = .ok (.if_icmp .eq 5, 3) := by decide +kernel
theorem dX7_schools_23 : decode cX7_schools 23 = .ok (.iconst (-1), 1) := by decide +kernel
theorem dX7_schools_24 : decode cX7_schools 24 = .ok (.ireturn, 1) := by decide +kernel
theorem dX7_schools_25 : decode cX7_schools 25 = .ok (.iload_n 3, 1) := by decide +kernel
theorem dX7_schools_26 : decode cX7_schools 26 = .ok (.ifCond .eq 11, 3) := by decide +kernel
theorem dX7_schools_29 : decode cX7_schools 29 = .ok (.iload_n 1, 1) := by decide +kernel
theorem dX7_schools_30 : decode cX7_schools 30 = .ok (.ifCond .eq 7, 3) := by decide +kernel
theorem dX7_schools_33 : decode cX7_schools 33 = .ok (.iload_n 2, 1) := by decide +kernel
theorem dX7_schools_34 : decode cX7_schools 34 = .ok (.ifCond .ne 9, 3) := by decide +kernel
theorem dX7_schools_37 : decode cX7_schools 37 = .ok (.iload_n 1, 1) := by decide +kernel
theorem dX7_schools_38 : decode cX7_schools 38 = .ok (.iload_n 2, 1) := by decide +kernel
theorem dX7_schools_39 : decode cX7_schools 39 = .ok (.invokestatic 240, 3) := by decide +kernel
theorem dX7_schools_42 : decode cX7_schools 42 = .ok (.ireturn, 1) := by decide +kernel
theorem dX7_schools_43 : decode cX7_schools 43 = .ok (.iload_n 1, 1) := by decide +kernel
theorem dX7_schools_44 : decode cX7_schools 44 = .ok (.iload_n 2, 1) := by decide +kernel
theorem dX7_schools_45 : decode cX7_schools 45 = .ok (.iadd, 1) := by decide +kernel
theorem dX7_schools_46 : decode cX7_schools 46 = .ok (.iconst 1, 1) := by decide +kernel
theorem dX7_schools_47 : decode cX7_schools 47 = .ok (.isub, 1) := by decide +kernel
theorem dX7_schools_48 : decode cX7_schools 48 = .ok (.ireturn, 1) := by decide +kernel
set_option maxRecDepth 20000 in
theorem ggX7_day_X7_draw : GoodIn wsX7_day wsX7_draw := goodIn_r _ [9, 10, 11, 12, 13, 14] (by decide +kernel) (by decide +kernel)
set_option maxRecDepth 20000 in
theorem gX7_day_X7_draw : GoodIn wsX7_day (va_wsS RX7 245 yX7_draw wsX7_draw) := goodIn_app (goodIn_of _ (by decide +kernel)) ggX7_day_X7_draw
set_option maxRecDepth 20000 in
theorem ggX7_day_X7_holds : GoodIn wsX7_day wsX7_holds := goodIn_r _ [17] (by decide +kernel) (by decide +kernel)
set_option maxRecDepth 20000 in
theorem gX7_day_X7_holds : GoodIn wsX7_day (va_wsS RX7 248 yX7_holds wsX7_holds) := goodIn_app (goodIn_of _ (by decide +kernel)) ggX7_day_X7_holds
theorem dX7_day_0 : decode cX7_day 0 = .ok (.iload_n 1, 1) := by decide +kernel
theorem dX7_day_1 : decode cX7_day 1 = .ok (.ifCond .lt 36, 3) := by decide +kernel
theorem dX7_day_4 : decode cX7_day 4 = .ok (.iload_n 1, 1) := by decide +kernel
theorem dX7_day_5 : decode cX7_day 5 = .ok (.sipush 9999, 3) := by decide +kernel
theorem dX7_day_8 : decode cX7_day 8 = .ok (.if_icmp .gt 29, 3) := by decide +kernel
theorem dX7_day_11 : decode cX7_day 11 = .ok (.iload_n 2, 1) := by decide +kernel
theorem dX7_day_12 : decode cX7_day 12 = .ok (.ifCond .lt 25, 3) := by decide +kernel
theorem dX7_day_15 : decode cX7_day 15 = .ok (.iload_n 2, 1) := by decide +kernel
theorem dX7_day_16 : decode cX7_day 16 = .ok (.iconst 1, 1) := by decide +kernel
theorem dX7_day_17 : decode cX7_day 17 = .ok (.aload_n 0, 1) := by decide +kernel
theorem dX7_day_18 : decode cX7_day 18 = .ok (.getfield 26, 3) := by decide +kernel
theorem dX7_day_21 : decode cX7_day 21 = .ok (.getfield 98, 3) := by decide +kernel
theorem dX7_day_24 : decode cX7_day 24 = .ok (.ishl, 1) := by decide +kernel
theorem dX7_day_25 : decode cX7_day 25 = .ok (.if_icmp .ge 12, 3) := by decide +kernel
theorem dX7_day_28 : decode cX7_day 28 = .ok (.iload_n 3, 1) := by decide +kernel
theorem dX7_day_29 : decode cX7_day 29 = .ok (.ifCond .eq 10, 3) := by decide +kernel
theorem dX7_day_32 : decode cX7_day 32 = .ok (.iload_n 3, 1) := by decide +kernel
theorem dX7_day_33 : decode cX7_day 33 = .ok (.iconst 1, 1) := by decide +kernel
theorem dX7_day_34 : decode cX7_day 34 = .ok (.if_icmp .eq 5, 3) := by decide +kernel
theorem dX7_day_37 : decode cX7_day 37 = .ok (.iconst (-1), 1) := by decide +kernel
theorem dX7_day_38 : decode cX7_day 38 = .ok (.ireturn, 1) := by decide +kernel
theorem dX7_day_39 : decode cX7_day 39 = .ok (.iconst 0, 1) := by decide +kernel
theorem dX7_day_40 : decode cX7_day 40 = .ok (.istore 4, 2) := by decide +kernel
theorem dX7_day_42 : decode cX7_day 42 = .ok (.iconst 0, 1) := by decide +kernel
theorem dX7_day_43 : decode cX7_day 43 = .ok (.istore 5, 2) := by decide +kernel
theorem dX7_day_45 : decode cX7_day 45 = .ok (.iconst 0, 1) := by decide +kernel
theorem dX7_day_46 : decode cX7_day 46 = .ok (.istore 6, 2) := by decide +kernel
theorem dX7_day_48 : decode cX7_day 48 = .ok (.iconst 1, 1) := by decide +kernel
theorem dX7_day_49 : decode cX7_day 49 = .ok (.istore 7, 2) := by decide +kernel
theorem dX7_day_51 : decode cX7_day 51 = .ok (.iload 7, 2) := by decide +kernel
theorem dX7_day_53 : decode cX7_day 53 = .ok (.aload_n 0, 1) := by decide +kernel
theorem dX7_day_54 : decode cX7_day 54 = .ok (.getfield 26, 3) := by decide +kernel
theorem dX7_day_57 : decode cX7_day 57 = .ok (.getfield 98, 3) := by decide +kernel
theorem dX7_day_60 : decode cX7_day 60 = .ok (.if_icmp .gt 100, 3) := by decide +kernel
theorem dX7_day_63 : decode cX7_day 63 = .ok (.iload_n 1, 1) := by decide +kernel
theorem dX7_day_64 : decode cX7_day 64 = .ok (.iload 7, 2) := by decide +kernel
theorem dX7_day_66 : decode cX7_day 66 = .ok (.invokestatic 245, 3) := by decide +kernel
theorem dX7_day_69 : decode cX7_day 69 = .ok (.istore 8, 2) := by decide +kernel
theorem dX7_day_71 : decode cX7_day 71 = .ok (.iload 4, 2) := by decide +kernel
theorem dX7_day_73 : decode cX7_day 73 = .ok (.ifCond .eq 28, 3) := by decide +kernel
theorem dX7_day_76 : decode cX7_day 76 = .ok (.iload 8, 2) := by decide +kernel
theorem dX7_day_78 : decode cX7_day 78 = .ok (.aload_n 0, 1) := by decide +kernel
theorem dX7_day_79 : decode cX7_day 79 = .ok (.getfield 26, 3) := by decide +kernel
theorem dX7_day_82 : decode cX7_day 82 = .ok (.getfield 108, 3) := by decide +kernel
theorem dX7_day_85 : decode cX7_day 85 = .ok (.iload 7, 2) := by decide +kernel
theorem dX7_day_87 : decode cX7_day 87 = .ok (.iaload, 1) := by decide +kernel
theorem dX7_day_88 : decode cX7_day 88 = .ok (.if_icmp .lt 7, 3) := by decide +kernel
theorem dX7_day_91 : decode cX7_day 91 = .ok (.iconst 1, 1) := by decide +kernel
theorem dX7_day_92 : decode cX7_day 92 = .ok (.goto 4, 3) := by decide +kernel
theorem dX7_day_95 : decode cX7_day 95 = .ok (.iconst 0, 1) := by decide +kernel
theorem dX7_day_96 : decode cX7_day 96 = .ok (.istore 4, 2) := by decide +kernel
theorem dX7_day_98 : decode cX7_day 98 = .ok (.goto 24, 3) := by decide +kernel
theorem dX7_day_101 : decode cX7_day 101 = .ok (.iload 8, 2) := by decide +kernel
theorem dX7_day_103 : decode cX7_day 103 = .ok (.aload_n 0, 1) := by decide +kernel
theorem dX7_day_104 : decode cX7_day 104 = .ok (.getfield 26, 3) := by decide +kernel
theorem dX7_day_107 : decode cX7_day 107 = .ok (.getfield 105, 3) := by decide +kernel
theorem dX7_day_110 : decode cX7_day 110 = .ok (.iload 7, 2) := by decide +kernel
theorem dX7_day_112 : decode cX7_day 112 = .ok (.iaload, 1) := by decide +kernel
theorem dX7_day_113 : decode cX7_day 113 = .ok (.if_icmp .ge 9, 3) := by decide +kernel
theorem dX7_day_116 : decode cX7_day 116 = .ok (.iconst 1, 1) := by decide +kernel
theorem dX7_day_117 : decode cX7_day 117 = .ok (.istore 4, 2) := by decide +kernel
theorem dX7_day_119 : decode cX7_day 119 = .ok (.iinc 6 1, 3) := by decide +kernel
theorem dX7_day_122 : decode cX7_day 122 = .ok (.iload 4, 2) := by decide +kernel
theorem dX7_day_124 : decode cX7_day 124 = .ok (.ifCond .eq 18, 3) := by decide +kernel
theorem dX7_day_127 : decode cX7_day 127 = .ok (.iload 5, 2) := by decide +kernel
theorem dX7_day_129 : decode cX7_day 129 = .ok (.aload_n 0, 1) := by decide +kernel
theorem dX7_day_130 : decode cX7_day 130 = .ok (.getfield 26, 3) := by decide +kernel
theorem dX7_day_133 : decode cX7_day 133 = .ok (.getfield 101, 3) := by decide +kernel
theorem dX7_day_136 : decode cX7_day 136 = .ok (.iload 7, 2) := by decide +kernel
theorem dX7_day_138 : decode cX7_day 138 = .ok (.iaload, 1) := by decide +kernel
theorem dX7_day_139 : decode cX7_day 139 = .ok (.iadd, 1) := by decide +kernel
theorem dX7_day_140 : decode cX7_day 140 = .ok (.istore 5, 2) := by decide +kernel
theorem dX7_day_142 : decode cX7_day 142 = .ok (.iload_n 2, 1) := by decide +kernel
theorem dX7_day_143 : decode cX7_day 143 = .ok (.iload 7, 2) := by decide +kernel
theorem dX7_day_145 : decode cX7_day 145 = .ok (.invokestatic 248, 3) := by decide +kernel
theorem dX7_day_148 : decode cX7_day 148 = .ok (.ifCond .eq 6, 3) := by decide +kernel
theorem dX7_day_151 : decode cX7_day 151 = .ok (.iconst 0, 1) := by decide +kernel
theorem dX7_day_152 : decode cX7_day 152 = .ok (.istore 4, 2) := by decide +kernel
theorem dX7_day_154 : decode cX7_day 154 = .ok (.iinc 7 1, 3) := by decide +kernel
theorem dX7_day_157 : decode cX7_day 157 = .ok (.goto (-106), 3) := by decide +kernel
theorem dX7_day_160 : decode cX7_day 160 = .ok (.iload_n 3, 1) := by decide +kernel
theorem dX7_day_161 : decode cX7_day 161 = .ok (.ifCond .ne 8, 3) := by decide +kernel
theorem dX7_day_164 : decode cX7_day 164 = .ok (.iload 5, 2) := by decide +kernel
theorem dX7_day_166 : decode cX7_day 166 = .ok (.goto 5, 3) := by decide +kernel
theorem dX7_day_169 : decode cX7_day 169 = .ok (.iload 6, 2) := by decide +kernel
theorem dX7_day_171 : decode cX7_day 171 = .ok (.ireturn, 1) := by decide +kernel
set_option maxRecDepth 20000 in
theorem ggX7_keep_X6_become : GoodIn wsX7_keep wsX6_become := goodIn_r _ [8, 9, 10, 11, 12, 13, 14, 25, 26, 27, 28, 29, 30] (by decide +kernel) (by decide +kernel)
set_option maxRecDepth 20000 in
theorem gX7_keep_X6_become : GoodIn wsX7_keep (wsV RX7 252 RX6 yX6_become wsX6_become) := goodIn_app (goodIn_of _ (by decide +kernel)) ggX7_keep_X6_become
theorem dX7_keep_0 : decode cX7_keep 0 = .ok (.aload_n 0, 1) := by decide +kernel
theorem dX7_keep_1 : decode cX7_keep 1 = .ok (.getfield 44, 3) := by decide +kernel
theorem dX7_keep_4 : decode cX7_keep 4 = .ok (.iconst 2, 1) := by decide +kernel
theorem dX7_keep_5 : decode cX7_keep 5 = .ok (.if_icmp .lt 6, 3) := by decide +kernel
theorem dX7_keep_8 : decode cX7_keep 8 = .ok (.bipush (-3), 2) := by decide +kernel
theorem dX7_keep_10 : decode cX7_keep 10 = .ok (.ireturn, 1) := by decide +kernel
theorem dX7_keep_11 : decode cX7_keep 11 = .ok (.aload_n 0, 1) := by decide +kernel
theorem dX7_keep_12 : decode cX7_keep 12 = .ok (.getfield 40, 3) := by decide +kernel
theorem dX7_keep_15 : decode cX7_keep 15 = .ok (.aload_n 0, 1) := by decide +kernel
theorem dX7_keep_16 : decode cX7_keep 16 = .ok (.getfield 44, 3) := by decide +kernel
theorem dX7_keep_19 : decode cX7_keep 19 = .ok (.aaload, 1) := by decide +kernel
theorem dX7_keep_20 : decode cX7_keep 20 = .ok (.aload_n 0, 1) := by decide +kernel
theorem dX7_keep_21 : decode cX7_keep 21 = .ok (.getfield 36, 3) := by decide +kernel
theorem dX7_keep_24 : decode cX7_keep 24 = .ok (.invokevirtual 252, 3) := by decide +kernel
theorem dX7_keep_27 : decode cX7_keep 27 = .ok (.aload_n 0, 1) := by decide +kernel
theorem dX7_keep_28 : decode cX7_keep 28 = .ok (.dup, 1) := by decide +kernel
theorem dX7_keep_29 : decode cX7_keep 29 = .ok (.getfield 44, 3) := by decide +kernel
theorem dX7_keep_32 : decode cX7_keep 32 = .ok (.iconst 1, 1) := by decide +kernel
theorem dX7_keep_33 : decode cX7_keep 33 = .ok (.iadd, 1) := by decide +kernel
theorem dX7_keep_34 : decode cX7_keep 34 = .ok (.putfield 44, 3) := by decide +kernel
theorem dX7_keep_37 : decode cX7_keep 37 = .ok (.aload_n 0, 1) := by decide +kernel
theorem dX7_keep_38 : decode cX7_keep 38 = .ok (.getfield 44, 3) := by decide +kernel
theorem dX7_keep_41 : decode cX7_keep 41 = .ok (.ireturn, 1) := by decide +kernel
set_option maxRecDepth 20000 in
theorem ggX7_back_X6_become : GoodIn wsX7_back wsX6_become := goodIn_r _ [9, 10, 11, 12, 13, 14, 15, 26, 27, 28, 29, 30, 31] (by decide +kernel) (by decide +kernel)
set_option maxRecDepth 20000 in
theorem gX7_back_X6_become : GoodIn wsX7_back (wsV RX7 252 RX6 yX6_become wsX6_become) := goodIn_app (goodIn_of _ (by decide +kernel)) ggX7_back_X6_become
theorem dX7_back_0 : decode cX7_back 0 = .ok (.aload_n 0, 1) := by decide +kernel
theorem dX7_back_1 : decode cX7_back 1 = .ok (.getfield 44, 3) := by decide +kernel
theorem dX7_back_4 : decode cX7_back 4 = .ok (.ifCond .gt 6, 3) := by decide +kernel
theorem dX7_back_7 : decode cX7_back 7 = .ok (.bipush (-2), 2) := by decide +kernel
theorem dX7_back_9 : decode cX7_back 9 = .ok (.ireturn, 1) := by decide +kernel
theorem dX7_back_10 : decode cX7_back 10 = .ok (.aload_n 0, 1) := by decide +kernel
theorem dX7_back_11 : decode cX7_back 11 = .ok (.dup, 1) := by decide +kernel
theorem dX7_back_12 : decode cX7_back 12 = .ok (.getfield 44, 3) := by decide +kernel
theorem dX7_back_15 : decode cX7_back 15 = .ok (.iconst 1, 1) := by decide +kernel
theorem dX7_back_16 : decode cX7_back 16 = .ok (.isub, 1) := by decide +kernel
theorem dX7_back_17 : decode cX7_back 17 = .ok (.putfield 44, 3) := by decide +kernel
theorem dX7_back_20 : decode cX7_back 20 = .ok (.aload_n 0, 1) := by decide +kernel
theorem dX7_back_21 : decode cX7_back 21 = .ok (.getfield 36, 3) := by decide +kernel
theorem dX7_back_24 : decode cX7_back 24 = .ok (.aload_n 0, 1) := by decide +kernel
theorem dX7_back_25 : decode cX7_back 25 = .ok (.getfield 40, 3) := by decide +kernel
theorem dX7_back_28 : decode cX7_back 28 = .ok (.aload_n 0, 1) := by decide +kernel
theorem dX7_back_29 : decode cX7_back 29 = .ok (.getfield 44, 3) := by decide +kernel
theorem dX7_back_32 : decode cX7_back 32 = .ok (.aaload, 1) := by decide +kernel
theorem dX7_back_33 : decode cX7_back 33 = .ok (.invokevirtual 252, 3) := by decide +kernel
theorem dX7_back_36 : decode cX7_back 36 = .ok (.aload_n 0, 1) := by decide +kernel
theorem dX7_back_37 : decode cX7_back 37 = .ok (.getfield 36, 3) := by decide +kernel
theorem dX7_back_40 : decode cX7_back 40 = .ok (.iconst 0, 1) := by decide +kernel
theorem dX7_back_41 : decode cX7_back 41 = .ok (.putfield 159, 3) := by decide +kernel
theorem dX7_back_44 : decode cX7_back 44 = .ok (.aload_n 0, 1) := by decide +kernel
theorem dX7_back_45 : decode cX7_back 45 = .ok (.getfield 44, 3) := by decide +kernel
theorem dX7_back_48 : decode cX7_back 48 = .ok (.ireturn, 1) := by decide +kernel
set_option maxRecDepth 20000 in
theorem ggX7_many_X7_minutesSpent : GoodIn wsX7_many wsX7_minutesSpent := goodIn_r _ [15, 1, 3, 4, 5, 16, 17, 18, 19, 20, 21, 22, 23, 24, 25, 26, 27, 28, 29, 30, 31, 32, 33, 45, 46, 47, 48, 49, 50, 34, 35, 36, 37, 38, 39, 40, 41, 42, 43, 44] (by decide +kernel) (by decide +kernel)
set_option maxRecDepth 20000 in
theorem gX7_many_X7_minutesSpent : GoodIn wsX7_many (wsV RX7 256 RX7 yX7_minutesSpent wsX7_minutesSpent) := goodIn_app (goodIn_of _ (by decide +kernel)) ggX7_many_X7_minutesSpent
theorem dX7_many_0 : decode cX7_many 0 = .ok (.iload_n 1, 1) := by decide +kernel
theorem dX7_many_1 : decode cX7_many 1 = .ok (.tableswitch 105 0 7 #[47, 55, 63, 71, 79, 84, 92, 97], 47) := by decide +kernel
theorem dX7_many_48 : decode cX7_many 48 = .ok (.aload_n 0, 1) := by decide +kernel
theorem dX7_many_49 : decode cX7_many 49 = .ok (.getfield 26, 3) := by decide +kernel
theorem dX7_many_52 : decode cX7_many 52 = .ok (.getfield 98, 3) := by decide +kernel
theorem dX7_many_55 : decode cX7_many 55 = .ok (.ireturn, 1) := by decide +kernel
theorem dX7_many_56 : decode cX7_many 56 = .ok (.aload_n 0, 1) := by decide +kernel
theorem dX7_many_57 : decode cX7_many 57 = .ok (.getfield 36, 3) := by decide +kernel
theorem dX7_many_60 : decode cX7_many 60 = .ok (.getfield 137, 3) := by decide +kernel
theorem dX7_many_63 : decode cX7_many 63 = .ok (.ireturn, 1) := by decide +kernel
theorem dX7_many_64 : decode cX7_many 64 = .ok (.aload_n 0, 1) := by decide +kernel
theorem dX7_many_65 : decode cX7_many 65 = .ok (.getfield 36, 3) := by decide +kernel
theorem dX7_many_68 : decode cX7_many 68 = .ok (.getfield 143, 3) := by decide +kernel
theorem dX7_many_71 : decode cX7_many 71 = .ok (.ireturn, 1) := by decide +kernel
theorem dX7_many_72 : decode cX7_many 72 = .ok (.aload_n 0, 1) := by decide +kernel
theorem dX7_many_73 : decode cX7_many 73 = .ok (.getfield 26, 3) := by decide +kernel
theorem dX7_many_76 : decode cX7_many 76 = .ok (.getfield 224, 3) := by decide +kernel
theorem dX7_many_79 : decode cX7_many 79 = .ok (.ireturn, 1) := by decide +kernel
theorem dX7_many_80 : decode cX7_many 80 = .ok (.aload_n 0, 1) := by decide +kernel
theorem dX7_many_81 : decode cX7_many 81 = .ok (.invokevirtual 256, 3) := by decide +kernel
theorem dX7_many_84 : decode cX7_many 84 = .ok (.ireturn, 1) := by decide +kernel
theorem dX7_many_85 : decode cX7_many 85 = .ok (.aload_n 0, 1) := by decide +kernel
theorem dX7_many_86 : decode cX7_many 86 = .ok (.getfield 36, 3) := by decide +kernel
theorem dX7_many_89 : decode cX7_many 89 = .ok (.getfield 159, 3) := by decide +kernel
theorem dX7_many_92 : decode cX7_many 92 = .ok (.ireturn, 1) := by decide +kernel
theorem dX7_many_93 : decode cX7_many 93 = .ok (.aload_n 0, 1) := by decide +kernel
theorem dX7_many_94 : decode cX7_many 94 = .ok (.getfield 44, 3) := by decide +kernel
theorem dX7_many_97 : decode cX7_many 97 = .ok (.ireturn, 1) := by decide +kernel
theorem dX7_many_98 : decode cX7_many 98 = .ok (.aload_n 0, 1) := by decide +kernel
theorem dX7_many_99 : decode cX7_many 99 = .ok (.getfield 10, 3) := by decide +kernel
theorem dX7_many_102 : decode cX7_many 102 = .ok (.getfield 89, 3) := by decide +kernel
theorem dX7_many_105 : decode cX7_many 105 = .ok (.ireturn, 1) := by decide +kernel
theorem dX7_many_106 : decode cX7_many 106 = .ok (.iconst (-1), 1) := by decide +kernel
theorem dX7_many_107 : decode cX7_many 107 = .ok (.ireturn, 1) := by decide +kernel
set_option maxRecDepth 20000 in
theorem ggX7_minutesSpent_X2_minutesOver : GoodIn wsX7_minutesSpent wsX2_minutesOver := goodIn_r _ [11, 12, 29, 30, 31, 32, 33, 34, 35, 36, 37, 38, 39] (by decide +kernel) (by decide +kernel)
set_option maxRecDepth 20000 in
theorem gX7_minutesSpent_X2_minutesOver : GoodIn wsX7_minutesSpent (wsV RX7 259 RX2 yX2_minutesOver wsX2_minutesOver) := goodIn_app (goodIn_of _ (by decide +kernel)) ggX7_minutesSpent_X2_minutesOver
theorem dX7_minutesSpent_0 : decode cX7_minutesSpent 0 = .ok (.aload_n 0, 1) := by decide +kernel
theorem dX7_minutesSpent_1 : decode cX7_minutesSpent 1 = .ok (.getfield 26, 3) := by decide +kernel
theorem dX7_minutesSpent_4 : decode cX7_minutesSpent 4 = .ok (.iconst 1, 1) := by decide +kernel
theorem dX7_minutesSpent_5 : decode cX7_minutesSpent 5 = .ok (.aload_n 0, 1) := by decide +kernel
theorem dX7_minutesSpent_6 : decode cX7_minutesSpent 6 = .ok (.getfield 36, 3) := by decide +kernel
theorem dX7_minutesSpent_9 : decode cX7_minutesSpent 9 = .ok (.getfield 137, 3) := by decide +kernel
theorem dX7_minutesSpent_12 : decode cX7_minutesSpent 12 = .ok (.invokevirtual 259, 3) := by decide +kernel
theorem dX7_minutesSpent_15 : decode cX7_minutesSpent 15 = .ok (.istore_n 1, 1) := by decide +kernel
theorem dX7_minutesSpent_16 : decode cX7_minutesSpent 16 = .ok (.iconst 0, 1) := by decide +kernel
theorem dX7_minutesSpent_17 : decode cX7_minutesSpent 17 = .ok (.istore_n 2, 1) := by decide +kernel
theorem dX7_minutesSpent_18 : decode cX7_minutesSpent 18 = .ok (.iload_n 2, 1) := by decide +kernel
theorem dX7_minutesSpent_19 : decode cX7_minutesSpent 19 = .ok (.aload_n 0, 1) := by decide +kernel
theorem dX7_minutesSpent_20 : decode cX7_minutesSpent 20 = .ok (.getfield 36, 3) := by decide +kernel
theorem dX7_minutesSpent_23 : decode cX7_minutesSpent 23 = .ok (.getfield 143, 3) := by decide +kernel
theorem dX7_minutesSpent_26 : decode cX7_minutesSpent 26 = .ok (.if_icmp .ge 29, 3) := by decide +kernel
theorem dX7_minutesSpent_29 : decode cX7_minutesSpent 29 = .ok (.iload_n 1, 1) := by decide +kernel
theorem dX7_minutesSpent_30 : decode cX7_minutesSpent 30 = .ok (.aload_n 0, 1) := by decide +kernel
theorem dX7_minutesSpent_31 : decode cX7_minutesSpent 31 = .ok (.getfield 26, 3) := by decide +kernel
theorem dX7_minutesSpent_34 : decode cX7_minutesSpent 34 = .ok (.getfield 118, 3) := by decide +kernel
theorem dX7_minutesSpent_37 : decode cX7_minutesSpent 37 = .ok (.aload_n 0, 1) := by decide +kernel
theorem dX7_minutesSpent_38 : decode cX7_minutesSpent 38 = .ok (.getfield 36, 3) := by decide +kernel
theorem dX7_minutesSpent_41 : decode cX7_minutesSpent 41 = .ok (.getfield 153, 3) := by decide +kernel
theorem dX7_minutesSpent_44 : decode cX7_minutesSpent 44 = .ok (.iload_n 2, 1) := by decide +kernel
