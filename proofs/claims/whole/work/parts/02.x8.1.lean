theorem dX8_sort_6 : decode cX8_sort 6 = .ok (.invokestatic 63, 3) := by decide +kernel
theorem dX8_sort_9 : decode cX8_sort 9 = .ok (.ifCond .eq 29, 3) := by decide +kernel
theorem dX8_sort_12 : decode cX8_sort 12 = .ok (.iload_n 2, 1) := by decide +kernel
theorem dX8_sort_13 : decode cX8_sort 13 = .ok (.i2l, 1) := by decide +kernel
theorem dX8_sort_14 : decode cX8_sort 14 = .ok (.lconst 0, 1) := by decide +kernel
theorem dX8_sort_15 : decode cX8_sort 15 = .ok (.lconst 1, 1) := by decide +kernel
theorem dX8_sort_16 : decode cX8_sort 16 = .ok (.invokestatic 63, 3) := by decide +kernel
theorem dX8_sort_19 : decode cX8_sort 19 = .ok (.ifCond .eq 19, 3) := by decide +kernel
theorem dX8_sort_22 : decode cX8_sort 22 = .ok (.aload_n 0, 1) := by decide +kernel
theorem dX8_sort_23 : decode cX8_sort 23 = .ok (.getfield 7, 3) := by decide +kernel
theorem dX8_sort_26 : decode cX8_sort 26 = .ok (.bipush 29, 2) := by decide +kernel
theorem dX8_sort_28 : decode cX8_sort 28 = .ok (.iconst 2, 1) := by decide +kernel
theorem dX8_sort_29 : decode cX8_sort 29 = .ok (.iload_n 1, 1) := by decide +kernel
theorem dX8_sort_30 : decode cX8_sort 30 = .ok (.imul, 1) := by decide +kernel
theorem dX8_sort_31 : decode cX8_sort 31 = .ok (.iadd, 1) := by decide +kernel
theorem dX8_sort_32 : decode cX8_sort 32 = .ok (.iload_n 2, 1) := by decide +kernel
theorem dX8_sort_33 : decode cX8_sort 33 = .ok (.iadd, 1) := by decide +kernel
theorem dX8_sort_34 : decode cX8_sort 34 = .ok (.iaload, 1) := by decide +kernel
theorem dX8_sort_35 : decode cX8_sort 35 = .ok (.goto 4, 3) := by decide +kernel
theorem dX8_sort_38 : decode cX8_sort 38 = .ok (.iconst (-1), 1) := by decide +kernel
theorem dX8_sort_39 : decode cX8_sort 39 = .ok (.ireturn, 1) := by decide +kernel
set_option maxRecDepth 20000 in
theorem ggX8_cost_X8_in : GoodIn wsX8_cost wsX8_in := goodIn_r _ [6] (by decide +kernel) (by decide +kernel)
set_option maxRecDepth 20000 in
theorem gX8_cost_X8_in : GoodIn wsX8_cost (va_wsS RX8 63 yX8_in wsX8_in) := goodIn_app (goodIn_of _ (by decide +kernel)) ggX8_cost_X8_in
theorem dX8_cost_0 : decode cX8_cost 0 = .ok (.iload_n 1, 1) := by decide +kernel
theorem dX8_cost_1 : decode cX8_cost 1 = .ok (.i2l, 1) := by decide +kernel
theorem dX8_cost_2 : decode cX8_cost 2 = .ok (.lconst 0, 1) := by decide +kernel
theorem dX8_cost_3 : decode cX8_cost 3 = .ok (.ldc2_w 82, 3) := by decide +kernel
theorem dX8_cost_6 : decode cX8_cost 6 = .ok (.invokestatic 63, 3) := by decide +kernel
theorem dX8_cost_9 : decode cX8_cost 9 = .ok (.ifCond .eq 14, 3) := by decide +kernel
theorem dX8_cost_12 : decode cX8_cost 12 = .ok (.aload_n 0, 1) := by decide +kernel
theorem dX8_cost_13 : decode cX8_cost 13 = .ok (.getfield 7, 3) := by decide +kernel
theorem dX8_cost_16 : decode cX8_cost 16 = .ok (.iconst 2, 1) := by decide +kernel
theorem dX8_cost_17 : decode cX8_cost 17 = .ok (.iload_n 1, 1) := by decide +kernel
theorem dX8_cost_18 : decode cX8_cost 18 = .ok (.iadd, 1) := by decide +kernel
theorem dX8_cost_19 : decode cX8_cost 19 = .ok (.iaload, 1) := by decide +kernel
theorem dX8_cost_20 : decode cX8_cost 20 = .ok (.goto 4, 3) := by decide +kernel
theorem dX8_cost_23 : decode cX8_cost 23 = .ok (.iconst (-1), 1) := by decide +kernel
theorem dX8_cost_24 : decode cX8_cost 24 = .ok (.ireturn, 1) := by decide +kernel
set_option maxRecDepth 20000 in
theorem ggX8_isFriend_X8_in : GoodIn wsX8_isFriend wsX8_in := goodIn_r _ [5] (by decide +kernel) (by decide +kernel)
set_option maxRecDepth 20000 in
theorem gX8_isFriend_X8_in : GoodIn wsX8_isFriend (va_wsS RX8 63 yX8_in wsX8_in) := goodIn_app (goodIn_of _ (by decide +kernel)) ggX8_isFriend_X8_in
theorem dX8_isFriend_0 : decode cX8_isFriend 0 = .ok (.iload_n 1, 1) := by decide +kernel
theorem dX8_isFriend_1 : decode cX8_isFriend 1 = .ok (.i2l, 1) := by decide +kernel
theorem dX8_isFriend_2 : decode cX8_isFriend 2 = .ok (.lconst 0, 1) := by decide +kernel
theorem dX8_isFriend_3 : decode cX8_isFriend 3 = .ok (.aload_n 0, 1) := by decide +kernel
theorem dX8_isFriend_4 : decode cX8_isFriend 4 = .ok (.getfield 7, 3) := by decide +kernel
theorem dX8_isFriend_7 : decode cX8_isFriend 7 = .ok (.iconst 1, 1) := by decide +kernel
theorem dX8_isFriend_8 : decode cX8_isFriend 8 = .ok (.iaload, 1) := by decide +kernel
theorem dX8_isFriend_9 : decode cX8_isFriend 9 = .ok (.iconst 1, 1) := by decide +kernel
theorem dX8_isFriend_10 : decode cX8_isFriend 10 = .ok (.isub, 1) := by decide +kernel
theorem dX8_isFriend_11 : decode cX8_isFriend 11 = .ok (.i2l, 1) := by decide +kernel
theorem dX8_isFriend_12 : decode cX8_isFriend 12 = .ok (.invokestatic 63, 3) := by decide +kernel
theorem dX8_isFriend_15 : decode cX8_isFriend 15 = .ok (.ireturn, 1) := by decide +kernel
set_option maxRecDepth 20000 in
theorem ggX8_tie_X8_isFriend : GoodIn wsX8_tie wsX8_isFriend := goodIn_r _ [6, 1, 7, 8, 5, 9, 10, 11, 12, 13, 14, 15, 16, 17, 18, 19, 20, 21, 22, 23, 24, 25, 26, 27, 28, 29, 30, 31] (by decide +kernel) (by decide +kernel)
set_option maxRecDepth 20000 in
theorem gX8_tie_X8_isFriend : GoodIn wsX8_tie (wsV RX8 125 RX8 yX8_isFriend wsX8_isFriend) := goodIn_app (goodIn_of _ (by decide +kernel)) ggX8_tie_X8_isFriend
theorem dX8_tie_0 : decode cX8_tie 0 = .ok (.aload_n 0, 1) := by decide +kernel
theorem dX8_tie_1 : decode cX8_tie 1 = .ok (.iload_n 1, 1) := by decide +kernel
theorem dX8_tie_2 : decode cX8_tie 2 = .ok (.invokevirtual 125, 3) := by decide +kernel
theorem dX8_tie_5 : decode cX8_tie 5 = .ok (.ifCond .eq 33, 3) := by decide +kernel
theorem dX8_tie_8 : decode cX8_tie 8 = .ok (.aload_n 0, 1) := by decide +kernel
theorem dX8_tie_9 : decode cX8_tie 9 = .ok (.iload_n 2, 1) := by decide +kernel
theorem dX8_tie_10 : decode cX8_tie 10 = .ok (.invokevirtual 125, 3) := by decide +kernel
theorem dX8_tie_13 : decode cX8_tie 13 = .ok (.ifCond .eq 25, 3) := by decide +kernel
theorem dX8_tie_16 : decode cX8_tie 16 = .ok (.iload_n 1, 1) := by decide +kernel
theorem dX8_tie_17 : decode cX8_tie 17 = .ok (.iload_n 2, 1) := by decide +kernel
theorem dX8_tie_18 : decode cX8_tie 18 = .ok (.if_icmp .eq 20, 3) := by decide +kernel
theorem dX8_tie_21 : decode cX8_tie 21 = .ok (.aload_n 0, 1) := by decide +kernel
theorem dX8_tie_22 : decode cX8_tie 22 = .ok (.getfield 7, 3) := by decide +kernel
theorem dX8_tie_25 : decode cX8_tie 25 = .ok (.bipush 37, 2) := by decide +kernel
theorem dX8_tie_27 : decode cX8_tie 27 = .ok (.bipush 6, 2) := by decide +kernel
theorem dX8_tie_29 : decode cX8_tie 29 = .ok (.iload_n 1, 1) := by decide +kernel
theorem dX8_tie_30 : decode cX8_tie 30 = .ok (.imul, 1) := by decide +kernel
theorem dX8_tie_31 : decode cX8_tie 31 = .ok (.iadd, 1) := by decide +kernel
theorem dX8_tie_32 : decode cX8_tie 32 = .ok (.iload_n 2, 1) := by decide +kernel
theorem dX8_tie_33 : decode cX8_tie 33 = .ok (.iadd, 1) := by decide +kernel
theorem dX8_tie_34 : decode cX8_tie 34 = .ok (.iaload, 1) := by decide +kernel
theorem dX8_tie_35 : decode cX8_tie 35 = .ok (.goto 4, 3) := by decide +kernel
theorem dX8_tie_38 : decode cX8_tie 38 = .ok (.iconst (-1), 1) := by decide +kernel
theorem dX8_tie_39 : decode cX8_tie 39 = .ok (.ireturn, 1) := by decide +kernel
theorem dX8_notes_0 : decode cX8_notes 0 = .ok (.aload_n 0, 1) := by decide +kernel
theorem dX8_notes_1 : decode cX8_notes 1 = .ok (.getfield 117, 3) := by decide +kernel
theorem dX8_notes_4 : decode cX8_notes 4 = .ok (.bipush 8, 2) := by decide +kernel
theorem dX8_notes_6 : decode cX8_notes 6 = .ok (.if_icmp .ne 37, 3) := by decide +kernel
theorem dX8_notes_9 : decode cX8_notes 9 = .ok (.iconst 1, 1) := by decide +kernel
theorem dX8_notes_10 : decode cX8_notes 10 = .ok (.istore_n 2, 1) := by decide +kernel
theorem dX8_notes_11 : decode cX8_notes 11 = .ok (.iload_n 2, 1) := by decide +kernel
theorem dX8_notes_12 : decode cX8_notes 12 = .ok (.bipush 8, 2) := by decide +kernel
theorem dX8_notes_14 : decode cX8_notes 14 = .ok (.if_icmp .ge 23, 3) := by decide +kernel
theorem dX8_notes_17 : decode cX8_notes 17 = .ok (.aload_n 0, 1) := by decide +kernel
theorem dX8_notes_18 : decode cX8_notes 18 = .ok (.getfield 31, 3) := by decide +kernel
theorem dX8_notes_21 : decode cX8_notes 21 = .ok (.iload_n 2, 1) := by decide +kernel
theorem dX8_notes_22 : decode cX8_notes 22 = .ok (.iconst 1, 1) := by decide +kernel
theorem dX8_notes_23 : decode cX8_notes 23 = .ok (.isub, 1) := by decide +kernel
theorem dX8_notes_24 : decode cX8_notes 24 = .ok (.aload_n 0, 1) := by decide +kernel
theorem dX8_notes_25 : decode cX8_notes 25 = .ok (.getfield 31, 3) := by decide +kernel
theorem dX8_notes_28 : decode cX8_notes 28 = .ok (.iload_n 2, 1) := by decide +kernel
theorem dX8_notes_29 : decode cX8_notes 29 = .ok (.iaload, 1) := by decide +kernel
theorem dX8_notes_30 : decode cX8_notes 30 = .ok (.iastore, 1) := by decide +kernel
theorem dX8_notes_31 : decode cX8_notes 31 = .ok (.iinc 2 1, 3) := by decide +kernel
theorem dX8_notes_34 : decode cX8_notes 34 = .ok (.goto (-23), 3) := by decide +kernel
theorem dX8_notes_37 : decode cX8_notes 37 = .ok (.aload_n 0, 1) := by decide +kernel
theorem dX8_notes_38 : decode cX8_notes 38 = .ok (.bipush 7, 2) := by decide +kernel
theorem dX8_notes_40 : decode cX8_notes 40 = .ok (.putfield 117, 3) := by decide +kernel
theorem dX8_notes_43 : decode cX8_notes 43 = .ok (.aload_n 0, 1) := by decide +kernel
theorem dX8_notes_44 : decode cX8_notes 44 = .ok (.getfield 31, 3) := by decide +kernel
theorem dX8_notes_47 : decode cX8_notes 47 = .ok (.aload_n 0, 1) := by decide +kernel
theorem dX8_notes_48 : decode cX8_notes 48 = .ok (.getfield 117, 3) := by decide +kernel
theorem dX8_notes_51 : decode cX8_notes 51 = .ok (.iload_n 1, 1) := by decide +kernel
theorem dX8_notes_52 : decode cX8_notes 52 = .ok (.iastore, 1) := by decide +kernel
theorem dX8_notes_53 : decode cX8_notes 53 = .ok (.aload_n 0, 1) := by decide +kernel
theorem dX8_notes_54 : decode cX8_notes 54 = .ok (.dup, 1) := by decide +kernel
theorem dX8_notes_55 : decode cX8_notes 55 = .ok (.getfield 117, 3) := by decide +kernel
theorem dX8_notes_58 : decode cX8_notes 58 = .ok (.iconst 1, 1) := by decide +kernel
theorem dX8_notes_59 : decode cX8_notes 59 = .ok (.iadd, 1) := by decide +kernel
theorem dX8_notes_60 : decode cX8_notes 60 = .ok (.putfield 117, 3) := by decide +kernel
theorem dX8_notes_63 : decode cX8_notes 63 = .ok (.return_, 1) := by decide +kernel
set_option maxRecDepth 20000 in
theorem ggX8_walk_X8_notes : GoodIn wsX8_walk wsX8_notes := goodIn_r _ [7, 8, 9, 10, 11, 12, 13, 14, 15, 16, 17, 18, 19, 20, 21, 22, 23, 24, 25, 26, 27, 28, 29, 30, 31] (by decide +kernel) (by decide +kernel)
set_option maxRecDepth 20000 in
theorem gX8_walk_X8_notes : GoodIn wsX8_walk (wsV RX8 128 RX8 yX8_notes wsX8_notes) := goodIn_app (goodIn_of _ (by decide +kernel)) ggX8_walk_X8_notes
theorem dX8_walk_0 : decode cX8_walk 0 = .ok (.aload_n 0, 1) := by decide +kernel
theorem dX8_walk_1 : decode cX8_walk 1 = .ok (.getfield 111, 3) := by decide +kernel
theorem dX8_walk_4 : decode cX8_walk 4 = .ok (.aload_n 0, 1) := by decide +kernel
theorem dX8_walk_5 : decode cX8_walk 5 = .ok (.getfield 7, 3) := by decide +kernel
theorem dX8_walk_8 : decode cX8_walk 8 = .ok (.iconst 0, 1) := by decide +kernel
theorem dX8_walk_9 : decode cX8_walk 9 = .ok (.iaload, 1) := by decide +kernel
theorem dX8_walk_10 : decode cX8_walk 10 = .ok (.if_icmp .ne 6, 3) := by decide +kernel
theorem dX8_walk_13 : decode cX8_walk 13 = .ok (.bipush (-2), 2) := by decide +kernel
theorem dX8_walk_15 : decode cX8_walk 15 = .ok (.ireturn, 1) := by decide +kernel
theorem dX8_walk_16 : decode cX8_walk 16 = .ok (.aload_n 0, 1) := by decide +kernel
theorem dX8_walk_17 : decode cX8_walk 17 = .ok (.dup, 1) := by decide +kernel
theorem dX8_walk_18 : decode cX8_walk 18 = .ok (.getfield 111, 3) := by decide +kernel
theorem dX8_walk_21 : decode cX8_walk 21 = .ok (.iconst 1, 1) := by decide +kernel
theorem dX8_walk_22 : decode cX8_walk 22 = .ok (.iadd, 1) := by decide +kernel
theorem dX8_walk_23 : decode cX8_walk 23 = .ok (.putfield 111, 3) := by decide +kernel
theorem dX8_walk_26 : decode cX8_walk 26 = .ok (.aload_n 0, 1) := by decide +kernel
theorem dX8_walk_27 : decode cX8_walk 27 = .ok (.iconst 1, 1) := by decide +kernel
theorem dX8_walk_28 : decode cX8_walk 28 = .ok (.invokevirtual 128, 3) := by decide +kernel
theorem dX8_walk_31 : decode cX8_walk 31 = .ok (.aload_n 0, 1) := by decide +kernel
theorem dX8_walk_32 : decode cX8_walk 32 = .ok (.getfield 111, 3) := by decide +kernel
theorem dX8_walk_35 : decode cX8_walk 35 = .ok (.ireturn, 1) := by decide +kernel
set_option maxRecDepth 20000 in
theorem ggX8_count_X8_in : GoodIn wsX8_count wsX8_in := goodIn_r _ [11] (by decide +kernel) (by decide +kernel)
set_option maxRecDepth 20000 in
theorem gX8_count_X8_in : GoodIn wsX8_count (va_wsS RX8 63 yX8_in wsX8_in) := goodIn_app (goodIn_of _ (by decide +kernel)) ggX8_count_X8_in
set_option maxRecDepth 20000 in
theorem ggX8_count_X8_notes : GoodIn wsX8_count wsX8_notes := goodIn_r _ [15, 16, 17, 18, 19, 20, 21, 22, 23, 24, 25, 26, 27, 28, 29, 30, 31, 32, 33, 34, 35, 36, 37, 38, 39] (by decide +kernel) (by decide +kernel)
set_option maxRecDepth 20000 in
theorem gX8_count_X8_notes : GoodIn wsX8_count (wsV RX8 128 RX8 yX8_notes wsX8_notes) := goodIn_app (goodIn_of _ (by decide +kernel)) ggX8_count_X8_notes
theorem dX8_count_0 : decode cX8_count 0 = .ok (.iload_n 1, 1) := by decide +kernel
theorem dX8_count_1 : decode cX8_count 1 = .ok (.i2l, 1) := by decide +kernel
theorem dX8_count_2 : decode cX8_count 2 = .ok (.lconst 0, 1) := by decide +kernel
theorem dX8_count_3 : decode cX8_count 3 = .ok (.ldc2_w 123, 3) := by decide +kernel
theorem dX8_count_6 : decode cX8_count 6 = .ok (.invokestatic 63, 3) := by decide +kernel
theorem dX8_count_9 : decode cX8_count 9 = .ok (.ifCond .eq 15, 3) := by decide +kernel
theorem dX8_count_12 : decode cX8_count 12 = .ok (.iload_n 2, 1) := by decide +kernel
theorem dX8_count_13 : decode cX8_count 13 = .ok (.i2l, 1) := by decide +kernel
theorem dX8_count_14 : decode cX8_count 14 = .ok (.ldc2_w 132, 3) := by decide +kernel
theorem dX8_count_17 : decode cX8_count 17 = .ok (.lconst 1, 1) := by decide +kernel
theorem dX8_count_18 : decode cX8_count 18 = .ok (.invokestatic 63, 3) := by decide +kernel
theorem dX8_count_21 : decode cX8_count 21 = .ok (.ifCond .ne 5, 3) := by decide +kernel
theorem dX8_count_24 : decode cX8_count 24 = .ok (.iconst (-1), 1) := by decide +kernel
theorem dX8_count_25 : decode cX8_count 25 = .ok (.ireturn, 1) := by decide +kernel
theorem dX8_count_26 : decode cX8_count 26 = .ok (.aload_n 0, 1) := by decide +kernel
theorem dX8_count_27 : decode cX8_count 27 = .ok (.getfield 114, 3) := by decide +kernel
theorem dX8_count_30 : decode cX8_count 30 = .ok (.bipush 6, 2) := by decide +kernel
theorem dX8_count_32 : decode cX8_count 32 = .ok (.if_icmp .ne 6, 3) := by decide +kernel
theorem dX8_count_35 : decode cX8_count 35 = .ok (.bipush (-3), 2) := by decide +kernel
theorem dX8_count_37 : decode cX8_count 37 = .ok (.ireturn, 1) := by decide +kernel
theorem dX8_count_38 : decode cX8_count 38 = .ok (.aload_n 0, 1) := by decide +kernel
theorem dX8_count_39 : decode cX8_count 39 = .ok (.getfield 22, 3) := by decide +kernel
theorem dX8_count_42 : decode cX8_count 42 = .ok (.aload_n 0, 1) := by decide +kernel
theorem dX8_count_43 : decode cX8_count 43 = .ok (.getfield 114, 3) := by decide +kernel
theorem dX8_count_46 : decode cX8_count 46 = .ok (.aload_n 0, 1) := by decide +kernel
theorem dX8_count_47 : decode cX8_count 47 = .ok (.getfield 111, 3) := by decide +kernel
theorem dX8_count_50 : decode cX8_count 50 = .ok (.iastore, 1) := by decide +kernel
theorem dX8_count_51 : decode cX8_count 51 = .ok (.aload_n 0, 1) := by decide +kernel
theorem dX8_count_52 : decode cX8_count 52 = .ok (.getfield 25, 3) := by decide +kernel
theorem dX8_count_55 : decode cX8_count 55 = .ok (.aload_n 0, 1) := by decide +kernel
theorem dX8_count_56 : decode cX8_count 56 = .ok (.getfield 114, 3) := by decide +kernel
theorem dX8_count_59 : decode cX8_count 59 = .ok (.iload_n 1, 1) := by decide +kernel
theorem dX8_count_60 : decode cX8_count 60 = .ok (.iastore, 1) := by decide +kernel
theorem dX8_count_61 : decode cX8_count 61 = .ok (.aload_n 0, 1) := by decide +kernel
theorem dX8_count_62 : decode cX8_count 62 = .ok (.getfield 28, 3) := by decide +kernel
theorem dX8_count_65 : decode cX8_count 65 = .ok (.aload_n 0, 1) := by decide +kernel
theorem dX8_count_66 : decode cX8_count 66 = .ok (.getfield 114, 3) := by decide +kernel
theorem dX8_count_69 : decode cX8_count 69 = .ok (.iload_n 2, 1) := by decide +kernel
theorem dX8_count_70 : decode cX8_count 70 = .ok (.iastore, 1) := by decide +kernel
theorem dX8_count_71 : decode cX8_count 71 = .ok (.aload_n 0, 1) := by decide +kernel
theorem dX8_count_72 : decode cX8_count 72 = .ok (.dup, 1) := by decide +kernel
theorem dX8_count_73 : decode cX8_count 73 = .ok (.getfield 114, 3) := by decide +kernel
theorem dX8_count_76 : decode cX8_count 76 = .ok (.iconst 1, 1) := by decide +kernel
theorem dX8_count_77 : decode cX8_count 77 = .ok (.iadd, 1) := by decide +kernel
theorem dX8_count_78 : decode cX8_count 78 = .ok (.putfield 114, 3) := by decide +kernel
theorem dX8_count_81 : decode cX8_count 81 = .ok (.aload_n 0, 1) := by decide +kernel
theorem dX8_count_82 : decode cX8_count 82 = .ok (.iconst 2, 1) := by decide +kernel
theorem dX8_count_83 : decode cX8_count 83 = .ok (.invokevirtual 128, 3) := by decide +kernel
theorem dX8_count_86 : decode cX8_count 86 = .ok (.aload_n 0, 1) := by decide +kernel
theorem dX8_count_87 : decode cX8_count 87 = .ok (.getfield 114, 3) := by decide +kernel
theorem dX8_count_90 : decode cX8_count 90 = .ok (.ireturn, 1) := by decide +kernel
set_option maxRecDepth 20000 in
theorem ggX8_told_X8_in : GoodIn wsX8_told wsX8_in := goodIn_r _ [9] (by decide +kernel) (by decide +kernel)
set_option maxRecDepth 20000 in
theorem gX8_told_X8_in : GoodIn wsX8_told (va_wsS RX8 63 yX8_in wsX8_in) := goodIn_app (goodIn_of _ (by decide +kernel)) ggX8_told_X8_in
theorem dX8_told_0 : decode cX8_told 0 = .ok (.iload_n 1, 1) := by decide +kernel
theorem dX8_told_1 : decode cX8_told 1 = .ok (.i2l, 1) := by decide +kernel
theorem dX8_told_2 : decode cX8_told 2 = .ok (.lconst 0, 1) := by decide +kernel
theorem dX8_told_3 : decode cX8_told 3 = .ok (.aload_n 0, 1) := by decide +kernel
theorem dX8_told_4 : decode cX8_told 4 = .ok (.getfield 114, 3) := by decide +kernel
theorem dX8_told_7 : decode cX8_told 7 = .ok (.iconst 1, 1) := by decide +kernel
theorem dX8_told_8 : decode cX8_told 8 = .ok (.isub, 1) := by decide +kernel
theorem dX8_told_9 : decode cX8_told 9 = .ok (.i2l, 1) := by decide +kernel
theorem dX8_told_10 : decode cX8_told 10 = .ok (.invokestatic 63, 3) := by decide +kernel
theorem dX8_told_13 : decode cX8_told 13 = .ok (.ifCond .eq 15, 3) := by decide +kernel
theorem dX8_told_16 : decode cX8_told 16 = .ok (.iload_n 2, 1) := by decide +kernel
theorem dX8_told_17 : decode cX8_told 17 = .ok (.i2l, 1) := by decide +kernel
theorem dX8_told_18 : decode cX8_told 18 = .ok (.lconst 0, 1) := by decide +kernel
theorem dX8_told_19 : decode cX8_told 19 = .ok (.ldc2_w 82, 3) := by decide +kernel
theorem dX8_told_22 : decode cX8_told 22 = .ok (.invokestatic 63, 3) := by decide +kernel
theorem dX8_told_25 : decode cX8_told 25 = .ok (.ifCond .ne 5, 3) := by decide +kernel
theorem dX8_told_28 : decode cX8_told 28 = .ok (.iconst (-1), 1) := by decide +kernel
theorem dX8_told_29 : decode cX8_told 29 = .ok (.ireturn, 1) := by decide +kernel
theorem dX8_told_30 : decode cX8_told 30 = .ok (.iload_n 2, 1) := by decide +kernel
theorem dX8_told_31 : decode cX8_told 31 = .ok (.ifCond .ne 12, 3) := by decide +kernel
theorem dX8_told_34 : decode cX8_told 34 = .ok (.aload_n 0, 1) := by decide +kernel
theorem dX8_told_35 : decode cX8_told 35 = .ok (.getfield 22, 3) := by decide +kernel
theorem dX8_told_38 : decode cX8_told 38 = .ok (.iload_n 1, 1) := by decide +kernel
theorem dX8_told_39 : decode cX8_told 39 = .ok (.iaload, 1) := by decide +kernel
theorem dX8_told_40 : decode cX8_told 40 = .ok (.goto 25, 3) := by decide +kernel
theorem dX8_told_43 : decode cX8_told 43 = .ok (.iload_n 2, 1) := by decide +kernel
theorem dX8_told_44 : decode cX8_told 44 = .ok (.iconst 1, 1) := by decide +kernel
theorem dX8_told_45 : decode cX8_told 45 = .ok (.if_icmp .ne 12, 3) := by decide +kernel
theorem dX8_told_48 : decode cX8_told 48 = .ok (.aload_n 0, 1) := by decide +kernel
theorem dX8_told_49 : decode cX8_told 49 = .ok (.getfield 25, 3) := by decide +kernel
theorem dX8_told_52 : decode cX8_told 52 = .ok (.iload_n 1, 1) := by decide +kernel
theorem dX8_told_53 : decode cX8_told 53 = .ok (.iaload, 1) := by decide +kernel
theorem dX8_told_54 : decode cX8_told 54 = .ok (.goto 11, 3) := by decide +kernel
theorem dX8_told_57 : decode cX8_told 57 = .ok (.aload_n 0, 1) := by decide +kernel
theorem dX8_told_58 : decode cX8_told 58 = .ok (.getfield 28, 3) := by decide +kernel
theorem dX8_told_61 : decode cX8_told 61 = .ok (.iload_n 1, 1) := by decide +kernel
theorem dX8_told_62 : decode cX8_told 62 = .ok (.iaload, 1) := by decide +kernel
theorem dX8_told_63 : decode cX8_told 63 = .ok (.iconst 2, 1) := by decide +kernel
theorem dX8_told_64 : decode cX8_told 64 = .ok (.iadd, 1) := by decide +kernel
theorem dX8_told_65 : decode cX8_told 65 = .ok (.ireturn, 1) := by decide +kernel
theorem dX8_undo_0 : decode cX8_undo 0 = .ok (.aload_n 0, 1) := by decide +kernel
theorem dX8_undo_1 : decode cX8_undo 1 = .ok (.getfield 117, 3) := by decide +kernel
theorem dX8_undo_4 : decode cX8_undo 4 = .ok (.ifCond .ne 6, 3) := by decide +kernel
theorem dX8_undo_7 : decode cX8_undo 7 = .ok (.bipush (-2), 2) := by decide +kernel
theorem dX8_undo_9 : decode cX8_undo 9 = .ok (.ireturn, 1) := by decide +kernel
theorem dX8_undo_10 : decode cX8_undo 10 = .ok (.aload_n 0, 1) := by decide +kernel
theorem dX8_undo_11 : decode cX8_undo 11 = .ok (.dup, 1) := by decide +kernel
theorem dX8_undo_12 : decode cX8_undo 12 = .ok (.getfield 117, 3) := by decide +kernel
theorem dX8_undo_15 : decode cX8_undo 15 = .ok (.iconst 1, 1) := by decide +kernel
theorem dX8_undo_16 : decode cX8_undo 16 = .ok (.isub, 1) := by decide +kernel
theorem dX8_undo_17 : decode cX8_undo 17 = .ok (.putfield 117, 3) := by decide +kernel
theorem dX8_undo_20 : decode cX8_undo 20 = .ok (.aload_n 0, 1) := by decide +kernel
theorem dX8_undo_21 : decode cX8_undo 21 = .ok (.dup, 1) := by decide +kernel
theorem dX8_undo_22 : decode cX8_undo 22 = .ok (.getfield 111, 3) := by decide +kernel
theorem dX8_undo_25 : decode cX8_undo 25 = .ok (.aload_n 0, 1) := by decide +kernel
theorem dX8_undo_26 : decode cX8_undo 26 = .ok (.getfield 31, 3) := by decide +kernel
theorem dX8_undo_29 : decode cX8_undo 29 = .ok (.aload_n 0, 1) := by decide +kernel
theorem dX8_undo_30 : decode cX8_undo 30 = .ok (.getfield 117, 3) := by decide +kernel
theorem dX8_undo_33 : decode cX8_undo 33 = .ok (.iaload, 1) := by decide +kernel
theorem dX8_undo_34 : decode cX8_undo 34 = .ok (.iconst 1, 1) := by decide +kernel
theorem dX8_undo_35 : decode cX8_undo 35 = .ok (.if_icmp .ne 7, 3) := by decide +kernel
theorem dX8_undo_38 : decode cX8_undo 38 = .ok (.iconst 1, 1) := by decide +kernel
theorem dX8_undo_39 : decode cX8_undo 39 = .ok (.goto 4, 3) := by decide +kernel
theorem dX8_undo_42 : decode cX8_undo 42 = .ok (.iconst 0, 1) := by decide +kernel
theorem dX8_undo_43 : decode cX8_undo 43 = .ok (.isub, 1) := by decide +kernel
theorem dX8_undo_44 : decode cX8_undo 44 = .ok (.putfield 111, 3) := by decide +kernel
theorem dX8_undo_47 : decode cX8_undo 47 = .ok (.aload_n 0, 1) := by decide +kernel
theorem dX8_undo_48 : decode cX8_undo 48 = .ok (.dup, 1) := by decide +kernel
theorem dX8_undo_49 : decode cX8_undo 49 = .ok (.getfield 114, 3) := by decide +kernel
theorem dX8_undo_52 : decode cX8_undo 52 = .ok (.aload_n 0, 1) := by decide +kernel
theorem dX8_undo_53 : decode cX8_undo 53 = .ok (.getfield 31, 3) := by decide +kernel
theorem dX8_undo_56 : decode cX8_undo 56 = .ok (.aload_n 0, 1) := by decide +kernel
theorem dX8_undo_57 : decode cX8_undo 57 = .ok (.getfield 117, 3) := by decide +kernel
theorem dX8_undo_60 : decode cX8_undo 60 = .ok (.iaload, 1) := by decide +kernel
theorem dX8_undo_61 : decode cX8_undo 61 = .ok (.iconst 2, 1) := by decide +kernel
theorem dX8_undo_62 : decode cX8_undo 62 = .ok (.if_icmp .ne 7, 3) := by decide +kernel
theorem dX8_undo_65 : decode cX8_undo 65 = .ok (.iconst 1, 1) := by decide +kernel
theorem dX8_undo_66 : decode cX8_undo 66 = .ok (.goto 4, 3) := by decide +kernel
theorem dX8_undo_69 : decode cX8_undo 69 = .ok (.iconst 0, 1) := by decide +kernel
theorem dX8_undo_70 : decode cX8_undo 70 = .ok (.isub, 1) := by decide +kernel
theorem dX8_undo_71 : decode cX8_undo 71 = .ok (.putfield 114, 3) := by decide +kernel
theorem dX8_undo_74 : decode cX8_undo 74 = .ok (.aload_n 0, 1) := by decide +kernel
theorem dX8_undo_75 : decode cX8_undo 75 = .ok (.getfield 117, 3) := by decide +kernel
theorem dX8_undo_78 : decode cX8_undo 78 = .ok (.ireturn, 1) := by decide +kernel
theorem dX8_common_0 : decode cX8_common 0 = .ok (.lload_n 0, 1) := by decide +kernel
theorem dX8_common_1 : decode cX8_common 1 = .ok (.lstore 4, 2) := by decide +kernel
theorem dX8_common_3 : decode cX8_common 3 = .ok (.lload_n 2, 1) := by decide +kernel
theorem dX8_common_4 : decode cX8_common 4 = .ok (.lstore 6, 2) := by decide +kernel
theorem dX8_common_6 : decode cX8_common 6 = .ok (.lload 6, 2) := by decide +kernel
theorem dX8_common_8 : decode cX8_common 8 = .ok (.lconst 0, 1) := by decide +kernel
theorem dX8_common_9 : decode cX8_common 9 = .ok (.lcmp, 1) := by decide +kernel
theorem dX8_common_10 : decode cX8_common 10 = .ok (.ifCond .eq 21, 3) := by decide +kernel
theorem dX8_common_13 : decode cX8_common 13 = .ok (.lload 4, 2) := by decide +kernel
theorem dX8_common_15 : decode cX8_common 15 = .ok (.lload 6, 2) := by decide +kernel
theorem dX8_common_17 : decode cX8_common 17 = .ok (.lrem, 1) := by decide +kernel
theorem dX8_common_18 : decode cX8_common 18 = .ok (.lstore 8, 2) := by decide +kernel
theorem dX8_common_20 : decode cX8_common 20 = .ok (.lload 6, 2) := by decide +kernel
theorem dX8_common_22 : decode cX8_common 22 = .ok (.lstore 4, 2) := by decide +kernel
theorem dX8_common_24 : decode cX8_common 24 = .ok (.lload 8, 2) := by decide +kernel
theorem dX8_common_26 : decode cX8_common 26 = .ok (.lstore 6, 2) := by decide +kernel
theorem dX8_common_28 : decode cX8_common 28 = .ok (.goto (-22), 3) := by decide +kernel
theorem dX8_common_31 : decode cX8_common 31 = .ok (.lload 4, 2) := by decide +kernel
theorem dX8_common_33 : decode cX8_common 33 = .ok (.lreturn, 1) := by decide +kernel
set_option maxRecDepth 20000 in
theorem ggX8_lessens_X8_common : GoodIn wsX8_lessens wsX8_common := goodIn_r _ [6] (by decide +kernel) (by decide +kernel)
set_option maxRecDepth 20000 in
theorem gX8_lessens_X8_common : GoodIn wsX8_lessens (va_wsS RX8 134 yX8_common wsX8_common) := goodIn_app (goodIn_of _ (by decide +kernel)) ggX8_lessens_X8_common
theorem dX8_lessens_0 : decode cX8_lessens 0 = .ok (.lconst 0, 1) := by decide +kernel
theorem dX8_lessens_1 : decode cX8_lessens 1 = .ok (.lstore_n 1, 1) := by decide +kernel
theorem dX8_lessens_2 : decode cX8_lessens 2 = .ok (.iconst 0, 1) := by decide +kernel
theorem dX8_lessens_3 : decode cX8_lessens 3 = .ok (.istore_n 3, 1) := by decide +kernel
theorem dX8_lessens_4 : decode cX8_lessens 4 = .ok (.iload_n 3, 1) := by decide +kernel
theorem dX8_lessens_5 : decode cX8_lessens 5 = .ok (.bipush 9, 2) := by decide +kernel
theorem dX8_lessens_7 : decode cX8_lessens 7 = .ok (.if_icmp .ge 20, 3) := by decide +kernel
theorem dX8_lessens_10 : decode cX8_lessens 10 = .ok (.lload_n 1, 1) := by decide +kernel
theorem dX8_lessens_11 : decode cX8_lessens 11 = .ok (.aload_n 0, 1) := by decide +kernel
theorem dX8_lessens_12 : decode cX8_lessens 12 = .ok (.getfield 34, 3) := by decide +kernel
theorem dX8_lessens_15 : decode cX8_lessens 15 = .ok (.iload_n 3, 1) := by decide +kernel
theorem dX8_lessens_16 : decode cX8_lessens 16 = .ok (.laload, 1) := by decide +kernel
theorem dX8_lessens_17 : decode cX8_lessens 17 = .ok (.invokestatic 134, 3) := by decide +kernel
theorem dX8_lessens_20 : decode cX8_lessens 20 = .ok (.lstore_n 1, 1) := by decide +kernel
theorem dX8_lessens_21 : decode cX8_lessens 21 = .ok (.iinc 3 1, 3) := by decide +kernel
theorem dX8_lessens_24 : decode cX8_lessens 24 = .ok (.goto (-20), 3) := by decide +kernel
theorem dX8_lessens_27 : decode cX8_lessens 27 = .ok (.aload_n 0, 1) := by decide +kernel
theorem dX8_lessens_28 : decode cX8_lessens 28 = .ok (.lconst 0, 1) := by decide +kernel
theorem dX8_lessens_29 : decode cX8_lessens 29 = .ok (.putfield 138, 3) := by decide +kernel
theorem dX8_lessens_32 : decode cX8_lessens 32 = .ok (.iconst 0, 1) := by decide +kernel
theorem dX8_lessens_33 : decode cX8_lessens 33 = .ok (.istore_n 3, 1) := by decide +kernel
theorem dX8_lessens_34 : decode cX8_lessens 34 = .ok (.iload_n 3, 1) := by decide +kernel
theorem dX8_lessens_35 : decode cX8_lessens 35 = .ok (.bipush 9, 2) := by decide +kernel
theorem dX8_lessens_37 : decode cX8_lessens 37 = .ok (.if_icmp .ge 48, 3) := by decide +kernel
theorem dX8_lessens_40 : decode cX8_lessens 40 = .ok (.aload_n 0, 1) := by decide +kernel
theorem dX8_lessens_41 : decode cX8_lessens 41 = .ok (.getfield 34, 3) := by decide +kernel
theorem dX8_lessens_44 : decode cX8_lessens 44 = .ok (.iload_n 3, 1) := by decide +kernel
theorem dX8_lessens_45 : decode cX8_lessens 45 = .ok (.lload_n 1, 1) := by decide +kernel
theorem dX8_lessens_46 : decode cX8_lessens 46 = .ok (.lconst 0, 1) := by decide +kernel
theorem dX8_lessens_47 : decode cX8_lessens 47 = .ok (.lcmp, 1) := by decide +kernel
theorem dX8_lessens_48 : decode cX8_lessens 48 = .ok (.ifCond .ne 7, 3) := by decide +kernel
theorem dX8_lessens_51 : decode cX8_lessens 51 = .ok (.lconst 0, 1) := by decide +kernel
theorem dX8_lessens_52 : decode cX8_lessens 52 = .ok (.goto 11, 3) := by decide +kernel
theorem dX8_lessens_55 : decode cX8_lessens 55 = .ok (.aload_n 0, 1) := by decide +kernel
theorem dX8_lessens_56 : decode cX8_lessens 56 = .ok (.getfield 34, 3) := by decide +kernel
theorem dX8_lessens_59 : decode cX8_lessens 59 = .ok (.iload_n 3, 1) := by decide +kernel
theorem dX8_lessens_60 : decode cX8_lessens 60 = .ok (.laload, 1) := by decide +kernel
theorem dX8_lessens_61 : decode cX8_lessens 61 = .ok (.lload_n 1, 1) := by decide +kernel
theorem dX8_lessens_62 : decode cX8_lessens 62 = .ok (.ldiv, 1) := by decide +kernel
theorem dX8_lessens_63 : decode cX8_lessens 63 = .ok (.lastore, 1) := by decide +kernel
theorem dX8_lessens_64 : decode cX8_lessens 64 = .ok (.aload_n 0, 1) := by decide +kernel
theorem dX8_lessens_65 : decode cX8_lessens 65 = .ok (.dup, 1) := by decide +kernel
theorem dX8_lessens_66 : decode cX8_lessens 66 = .ok (.getfield 138, 3) := by decide +kernel
theorem dX8_lessens_69 : decode cX8_lessens 69 = .ok (.aload_n 0, 1) := by decide +kernel
theorem dX8_lessens_70 : decode cX8_lessens 70 = .ok (.getfield 34, 3) := by decide +kernel
theorem dX8_lessens_73 : decode cX8_lessens 73 = .ok (.iload_n 3, 1) := by decide +kernel
theorem dX8_lessens_74 : decode cX8_lessens 74 = .ok (.laload, 1) := by decide +kernel
theorem dX8_lessens_75 : decode cX8_lessens 75 = .ok (.ladd, 1) := by decide +kernel
theorem dX8_lessens_76 : decode cX8_lessens 76 = .ok (.putfield 138, 3) := by decide +kernel
theorem dX8_lessens_79 : decode cX8_lessens 79 = .ok (.iinc 3 1, 3) := by decide +kernel
theorem dX8_lessens_82 : decode cX8_lessens 82 = .ok (.goto (-48), 3) := by decide +kernel
theorem dX8_lessens_85 : decode cX8_lessens 85 = .ok (.return_, 1) := by decide +kernel
set_option maxRecDepth 20000 in
theorem ggX8_walks_X8_lessens : GoodIn wsX8_walks wsX8_lessens := goodIn_r _ [7, 2, 8, 9, 10, 6, 11, 12, 13, 14, 15, 16, 17, 18, 19, 20, 21, 22, 23, 24, 25, 26, 27, 28, 29, 30, 31, 32, 33] (by decide +kernel) (by decide +kernel)
set_option maxRecDepth 20000 in
theorem gX8_walks_X8_lessens : GoodIn wsX8_walks (wsV RX8 142 RX8 yX8_lessens wsX8_lessens) := goodIn_app (goodIn_of _ (by decide +kernel)) ggX8_walks_X8_lessens
theorem dX8_walks_0 : decode cX8_walks 0 = .ok (.aload_n 0, 1) := by decide +kernel
theorem dX8_walks_1 : decode cX8_walks 1 = .ok (.getfield 7, 3) := by decide +kernel
theorem dX8_walks_4 : decode cX8_walks 4 = .ok (.iconst 3, 1) := by decide +kernel
theorem dX8_walks_5 : decode cX8_walks 5 = .ok (.iconst 3, 1) := by decide +kernel
theorem dX8_walks_6 : decode cX8_walks 6 = .ok (.iload_n 1, 1) := by decide +kernel
theorem dX8_walks_7 : decode cX8_walks 7 = .ok (.imul, 1) := by decide +kernel
theorem dX8_walks_8 : decode cX8_walks 8 = .ok (.iadd, 1) := by decide +kernel
theorem dX8_walks_9 : decode cX8_walks 9 = .ok (.iaload, 1) := by decide +kernel
theorem dX8_walks_10 : decode cX8_walks 10 = .ok (.istore_n 2, 1) := by decide +kernel
theorem dX8_walks_11 : decode cX8_walks 11 = .ok (.aload_n 0, 1) := by decide +kernel
theorem dX8_walks_12 : decode cX8_walks 12 = .ok (.getfield 7, 3) := by decide +kernel
theorem dX8_walks_15 : decode cX8_walks 15 = .ok (.iconst 4, 1) := by decide +kernel
theorem dX8_walks_16 : decode cX8_walks 16 = .ok (.iconst 3, 1) := by decide +kernel
theorem dX8_walks_17 : decode cX8_walks 17 = .ok (.iload_n 1, 1) := by decide +kernel
theorem dX8_walks_18 : decode cX8_walks 18 = .ok (.imul, 1) := by decide +kernel
theorem dX8_walks_19 : decode cX8_walks 19 = .ok (.iadd, 1) := by decide +kernel
theorem dX8_walks_20 : decode cX8_walks 20 = .ok (.iaload, 1) := by decide +kernel
theorem dX8_walks_21 : decode cX8_walks 21 = .ok (.istore_n 3, 1) := by decide +kernel
theorem dX8_walks_22 : decode cX8_walks 22 = .ok (.aload_n 0, 1) := by decide +kernel
theorem dX8_walks_23 : decode cX8_walks 23 = .ok (.getfield 34, 3) := by decide +kernel
theorem dX8_walks_26 : decode cX8_walks 26 = .ok (.iconst 0, 1) := by decide +kernel
theorem dX8_walks_27 : decode cX8_walks 27 = .ok (.laload, 1) := by decide +kernel
theorem dX8_walks_28 : decode cX8_walks 28 = .ok (.bipush 10, 2) := by decide +kernel
theorem dX8_walks_30 : decode cX8_walks 30 = .ok (.iload_n 2, 1) := by decide +kernel
theorem dX8_walks_31 : decode cX8_walks 31 = .ok (.isub, 1) := by decide +kernel
theorem dX8_walks_32 : decode cX8_walks 32 = .ok (.i2l, 1) := by decide +kernel
theorem dX8_walks_33 : decode cX8_walks 33 = .ok (.lmul, 1) := by decide +kernel
theorem dX8_walks_34 : decode cX8_walks 34 = .ok (.lstore 4, 2) := by decide +kernel
theorem dX8_walks_36 : decode cX8_walks 36 = .ok (.aload_n 0, 1) := by decide +kernel
theorem dX8_walks_37 : decode cX8_walks 37 = .ok (.getfield 34, 3) := by decide +kernel
theorem dX8_walks_40 : decode cX8_walks 40 = .ok (.iconst 0, 1) := by decide +kernel
theorem dX8_walks_41 : decode cX8_walks 41 = .ok (.laload, 1) := by decide +kernel
theorem dX8_walks_42 : decode cX8_walks 42 = .ok (.iload_n 2, 1) := by decide +kernel
theorem dX8_walks_43 : decode cX8_walks 43 = .ok (.i2l, 1) := by decide +kernel
theorem dX8_walks_44 : decode cX8_walks 44 = .ok (.lmul, 1) := by decide +kernel
theorem dX8_walks_45 : decode cX8_walks 45 = .ok (.lstore 6, 2) := by decide +kernel
theorem dX8_walks_47 : decode cX8_walks 47 = .ok (.iconst 1, 1) := by decide +kernel
theorem dX8_walks_48 : decode cX8_walks 48 = .ok (.istore 8, 2) := by decide +kernel
theorem dX8_walks_50 : decode cX8_walks 50 = .ok (.iload 8, 2) := by decide +kernel
theorem dX8_walks_52 : decode cX8_walks 52 = .ok (.bipush 9, 2) := by decide +kernel
theorem dX8_walks_54 : decode cX8_walks 54 = .ok (.if_icmp .ge 39, 3) := by decide +kernel
theorem dX8_walks_57 : decode cX8_walks 57 = .ok (.lload 4, 2) := by decide +kernel
theorem dX8_walks_59 : decode cX8_walks 59 = .ok (.aload_n 0, 1) := by decide +kernel
theorem dX8_walks_60 : decode cX8_walks 60 = .ok (.getfield 34, 3) := by decide +kernel
theorem dX8_walks_63 : decode cX8_walks 63 = .ok (.iload 8, 2) := by decide +kernel
theorem dX8_walks_65 : decode cX8_walks 65 = .ok (.laload, 1) := by decide +kernel
theorem dX8_walks_66 : decode cX8_walks 66 = .ok (.iload_n 3, 1) := by decide +kernel
theorem dX8_walks_67 : decode cX8_walks 67 = .ok (.i2l, 1) := by decide +kernel
theorem dX8_walks_68 : decode cX8_walks 68 = .ok (.lmul, 1) := by decide +kernel
theorem dX8_walks_69 : decode cX8_walks 69 = .ok (.ladd, 1) := by decide +kernel
theorem dX8_walks_70 : decode cX8_walks 70 = .ok (.lstore 4, 2) := by decide +kernel
theorem dX8_walks_72 : decode cX8_walks 72 = .ok (.aload_n 0, 1) := by decide +kernel
theorem dX8_walks_73 : decode cX8_walks 73 = .ok (.getfield 34, 3) := by decide +kernel
theorem dX8_walks_76 : decode cX8_walks 76 = .ok (.iload 8, 2) := by decide +kernel
theorem dX8_walks_78 : decode cX8_walks 78 = .ok (.dup2, 1) := by decide +kernel
theorem dX8_walks_79 : decode cX8_walks 79 = .ok (.laload, 1) := by decide +kernel
theorem dX8_walks_80 : decode cX8_walks 80 = .ok (.bipush 10, 2) := by decide +kernel
theorem dX8_walks_82 : decode cX8_walks 82 = .ok (.iload_n 3, 1) := by decide +kernel
theorem dX8_walks_83 : decode cX8_walks 83 = .ok (.isub, 1) := by decide +kernel
theorem dX8_walks_84 : decode cX8_walks 84 = .ok (.i2l, 1) := by decide +kernel
theorem dX8_walks_85 : decode cX8_walks 85 = .ok (.lmul, 1) := by decide +kernel
theorem dX8_walks_86 : decode cX8_walks 86 = .ok (.lastore, 1) := by decide +kernel
theorem dX8_walks_87 : decode cX8_walks 87 = .ok (.iinc 8 1, 3) := by decide +kernel
theorem dX8_walks_90 : decode cX8_walks 90 = .ok (.goto (-40), 3) := by decide +kernel
theorem dX8_walks_93 : decode cX8_walks 93 = .ok (.aload_n 0, 1) := by decide +kernel
theorem dX8_walks_94 : decode cX8_walks 94 = .ok (.getfield 34, 3) := by decide +kernel
theorem dX8_walks_97 : decode cX8_walks 97 = .ok (.iconst 0, 1) := by decide +kernel
theorem dX8_walks_98 : decode cX8_walks 98 = .ok (.lload 4, 2) := by decide +kernel
theorem dX8_walks_100 : decode cX8_walks 100 = .ok (.lastore, 1) := by decide +kernel
theorem dX8_walks_101 : decode cX8_walks 101 = .ok (.aload_n 0, 1) := by decide +kernel
theorem dX8_walks_102 : decode cX8_walks 102 = .ok (.getfield 34, 3) := by decide +kernel
theorem dX8_walks_105 : decode cX8_walks 105 = .ok (.iload_n 1, 1) := by decide +kernel
theorem dX8_walks_106 : decode cX8_walks 106 = .ok (.dup2, 1) := by decide +kernel
theorem dX8_walks_107 : decode cX8_walks 107 = .ok (.laload, 1) := by decide +kernel
theorem dX8_walks_108 : decode cX8_walks 108 = .ok (.lload 6, 2) := by decide +kernel
theorem dX8_walks_110 : decode cX8_walks 110 = .ok (.ladd, 1) := by decide +kernel
theorem dX8_walks_111 : decode cX8_walks 111 = .ok (.lastore, 1) := by decide +kernel
theorem dX8_walks_112 : decode cX8_walks 112 = .ok (.aload_n 0, 1) := by decide +kernel
theorem dX8_walks_113 : decode cX8_walks 113 = .ok (.invokevirtual 142, 3) := by decide +kernel
theorem dX8_walks_116 : decode cX8_walks 116 = .ok (.return_, 1) := by decide +kernel
theorem dX8_tellsBy_0 : decode cX8_tellsBy 0 = .ok (.aload_n 0, 1) := by decide +kernel
theorem dX8_tellsBy_1 : decode cX8_tellsBy 1 = .ok (.getfield 7, 3) := by decide +kernel
theorem dX8_tellsBy_4 : decode cX8_tellsBy 4 = .ok (.bipush 29, 2) := by decide +kernel
theorem dX8_tellsBy_6 : decode cX8_tellsBy 6 = .ok (.iconst 2, 1) := by decide +kernel
theorem dX8_tellsBy_7 : decode cX8_tellsBy 7 = .ok (.iload_n 1, 1) := by decide +kernel
theorem dX8_tellsBy_8 : decode cX8_tellsBy 8 = .ok (.imul, 1) := by decide +kernel
theorem dX8_tellsBy_9 : decode cX8_tellsBy 9 = .ok (.iadd, 1) := by decide +kernel
theorem dX8_tellsBy_10 : decode cX8_tellsBy 10 = .ok (.iaload, 1) := by decide +kernel
theorem dX8_tellsBy_11 : decode cX8_tellsBy 11 = .ok (.istore 4, 2) := by decide +kernel
theorem dX8_tellsBy_13 : decode cX8_tellsBy 13 = .ok (.iload_n 1, 1) := by decide +kernel
theorem dX8_tellsBy_14 : decode cX8_tellsBy 14 = .ok (.ifCond .ne 39, 3) := by decide +kernel
theorem dX8_tellsBy_17 : decode cX8_tellsBy 17 = .ok (.iload_n 2, 1) := by decide +kernel
theorem dX8_tellsBy_18 : decode cX8_tellsBy 18 = .ok (.iload_n 3, 1) := by decide +kernel
theorem dX8_tellsBy_19 : decode cX8_tellsBy 19 = .ok (.if_icmp .ne 13, 3) := by decide +kernel
theorem dX8_tellsBy_22 : decode cX8_tellsBy 22 = .ok (.bipush 10, 2) := by decide +kernel
theorem dX8_tellsBy_24 : decode cX8_tellsBy 24 = .ok (.iconst 2, 1) := by decide +kernel
theorem dX8_tellsBy_25 : decode cX8_tellsBy 25 = .ok (.iload 4, 2) := by decide +kernel
theorem dX8_tellsBy_27 : decode cX8_tellsBy 27 = .ok (.imul, 1) := by decide +kernel
theorem dX8_tellsBy_28 : decode cX8_tellsBy 28 = .ok (.isub, 1) := by decide +kernel
theorem dX8_tellsBy_29 : decode cX8_tellsBy 29 = .ok (.goto 23, 3) := by decide +kernel
theorem dX8_tellsBy_32 : decode cX8_tellsBy 32 = .ok (.iload_n 2, 1) := by decide +kernel
theorem dX8_tellsBy_33 : decode cX8_tellsBy 33 = .ok (.iload_n 3, 1) := by decide +kernel
theorem dX8_tellsBy_34 : decode cX8_tellsBy 34 = .ok (.iconst 1, 1) := by decide +kernel
theorem dX8_tellsBy_35 : decode cX8_tellsBy 35 = .ok (.isub, 1) := by decide +kernel
theorem dX8_tellsBy_36 : decode cX8_tellsBy 36 = .ok (.if_icmp .eq 10, 3) := by decide +kernel
theorem dX8_tellsBy_39 : decode cX8_tellsBy 39 = .ok (.iload_n 2, 1) := by decide +kernel
theorem dX8_tellsBy_40 : decode cX8_tellsBy 40 = .ok (.iload_n 3, 1) := by decide +kernel
theorem dX8_tellsBy_41 : decode cX8_tellsBy 41 = .ok (.iconst 1, 1) := by decide +kernel
theorem dX8_tellsBy_42 : decode cX8_tellsBy 42 = .ok (.iadd, 1) := by decide +kernel
theorem dX8_tellsBy_43 : decode cX8_tellsBy 43 = .ok (.if_icmp .ne 8, 3) := by decide +kernel
theorem dX8_tellsBy_46 : decode cX8_tellsBy 46 = .ok (.iload 4, 2) := by decide +kernel
theorem dX8_tellsBy_48 : decode cX8_tellsBy 48 = .ok (.goto 4, 3) := by decide +kernel
theorem dX8_tellsBy_51 : decode cX8_tellsBy 51 = .ok (.iconst 0, 1) := by decide +kernel
theorem dX8_tellsBy_52 : decode cX8_tellsBy 52 = .ok (.ireturn, 1) := by decide +kernel
theorem dX8_tellsBy_53 : decode cX8_tellsBy 53 = .ok (.iload_n 1, 1) := by decide +kernel
theorem dX8_tellsBy_54 : decode cX8_tellsBy 54 = .ok (.iconst 1, 1) := by decide +kernel
theorem dX8_tellsBy_55 : decode cX8_tellsBy 55 = .ok (.if_icmp .eq 7, 3) := by decide +kernel
theorem dX8_tellsBy_58 : decode cX8_tellsBy 58 = .ok (.iload_n 3, 1) := by decide +kernel
theorem dX8_tellsBy_59 : decode cX8_tellsBy 59 = .ok (.ifCond .ne 15, 3) := by decide +kernel
theorem dX8_tellsBy_62 : decode cX8_tellsBy 62 = .ok (.iload_n 2, 1) := by decide +kernel
theorem dX8_tellsBy_63 : decode cX8_tellsBy 63 = .ok (.iload_n 3, 1) := by decide +kernel
theorem dX8_tellsBy_64 : decode cX8_tellsBy 64 = .ok (.if_icmp .ne 8, 3) := by decide +kernel
theorem dX8_tellsBy_67 : decode cX8_tellsBy 67 = .ok (.bipush 10, 2) := by decide +kernel
theorem dX8_tellsBy_69 : decode cX8_tellsBy 69 = .ok (.goto 4, 3) := by decide +kernel
theorem dX8_tellsBy_72 : decode cX8_tellsBy 72 = .ok (.iconst 0, 1) := by decide +kernel
theorem dX8_tellsBy_73 : decode cX8_tellsBy 73 = .ok (.ireturn, 1) := by decide +kernel
theorem dX8_tellsBy_74 : decode cX8_tellsBy 74 = .ok (.iload_n 2, 1) := by decide +kernel
theorem dX8_tellsBy_75 : decode cX8_tellsBy 75 = .ok (.ifCond .ne 8, 3) := by decide +kernel
theorem dX8_tellsBy_78 : decode cX8_tellsBy 78 = .ok (.iload 4, 2) := by decide +kernel
theorem dX8_tellsBy_80 : decode cX8_tellsBy 80 = .ok (.goto 17, 3) := by decide +kernel
theorem dX8_tellsBy_83 : decode cX8_tellsBy 83 = .ok (.iload_n 2, 1) := by decide +kernel
theorem dX8_tellsBy_84 : decode cX8_tellsBy 84 = .ok (.iconst (-1), 1) := by decide +kernel
theorem dX8_tellsBy_85 : decode cX8_tellsBy 85 = .ok (.if_icmp .ne 11, 3) := by decide +kernel
theorem dX8_tellsBy_88 : decode cX8_tellsBy 88 = .ok (.bipush 10, 2) := by decide +kernel
theorem dX8_tellsBy_90 : decode cX8_tellsBy 90 = .ok (.iload 4, 2) := by decide +kernel
theorem dX8_tellsBy_92 : decode cX8_tellsBy 92 = .ok (.isub, 1) := by decide +kernel
theorem dX8_tellsBy_93 : decode cX8_tellsBy 93 = .ok (.goto 4, 3) := by decide +kernel
theorem dX8_tellsBy_96 : decode cX8_tellsBy 96 = .ok (.iconst 0, 1) := by decide +kernel
theorem dX8_tellsBy_97 : decode cX8_tellsBy 97 = .ok (.ireturn, 1) := by decide +kernel
set_option maxRecDepth 20000 in
theorem ggX8_counted_X8_tellsBy : GoodIn wsX8_counted wsX8_tellsBy := goodIn_r _ [8, 9, 18, 19, 20, 21, 22, 23, 24, 25, 26, 27, 28, 29, 30, 31, 32, 33, 34, 35, 36, 37, 38, 39] (by decide +kernel) (by decide +kernel)
set_option maxRecDepth 20000 in
theorem gX8_counted_X8_tellsBy : GoodIn wsX8_counted (wsV RX8 145 RX8 yX8_tellsBy wsX8_tellsBy) := goodIn_app (goodIn_of _ (by decide +kernel)) ggX8_counted_X8_tellsBy
set_option maxRecDepth 20000 in
theorem ggX8_counted_X8_lessens : GoodIn wsX8_counted wsX8_lessens := goodIn_r _ [13, 1, 14, 15, 16, 7, 17, 18, 19, 20, 21, 22, 23, 24, 25, 26, 27, 28, 29, 30, 31, 32, 33, 34, 35, 36, 37, 38, 39] (by decide +kernel) (by decide +kernel)
set_option maxRecDepth 20000 in
theorem gX8_counted_X8_lessens : GoodIn wsX8_counted (wsV RX8 142 RX8 yX8_lessens wsX8_lessens) := goodIn_app (goodIn_of _ (by decide +kernel)) ggX8_counted_X8_lessens
theorem dX8_counted_0 : decode cX8_counted 0 = .ok (.iconst 0, 1) := by decide +kernel
theorem dX8_counted_1 : decode cX8_counted 1 = .ok (.istore_n 2, 1) := by decide +kernel
theorem dX8_counted_2 : decode cX8_counted 2 = .ok (.iload_n 2, 1) := by decide +kernel
theorem dX8_counted_3 : decode cX8_counted 3 = .ok (.bipush 9, 2) := by decide +kernel
theorem dX8_counted_5 : decode cX8_counted 5 = .ok (.if_icmp .ge 44, 3) := by decide +kernel
theorem dX8_counted_8 : decode cX8_counted 8 = .ok (.aload_n 0, 1) := by decide +kernel
theorem dX8_counted_9 : decode cX8_counted 9 = .ok (.getfield 34, 3) := by decide +kernel
theorem dX8_counted_12 : decode cX8_counted 12 = .ok (.iload_n 2, 1) := by decide +kernel
theorem dX8_counted_13 : decode cX8_counted 13 = .ok (.dup2, 1) := by decide +kernel
theorem dX8_counted_14 : decode cX8_counted 14 = .ok (.laload, 1) := by decide +kernel
theorem dX8_counted_15 : decode cX8_counted 15 = .ok (.aload_n 0, 1) := by decide +kernel
theorem dX8_counted_16 : decode cX8_counted 16 = .ok (.aload_n 0, 1) := by decide +kernel
theorem dX8_counted_17 : decode cX8_counted 17 = .ok (.getfield 25, 3) := by decide +kernel
theorem dX8_counted_20 : decode cX8_counted 20 = .ok (.iload_n 1, 1) := by decide +kernel
theorem dX8_counted_21 : decode cX8_counted 21 = .ok (.iaload, 1) := by decide +kernel
theorem dX8_counted_22 : decode cX8_counted 22 = .ok (.aload_n 0, 1) := by decide +kernel
theorem dX8_counted_23 : decode cX8_counted 23 = .ok (.getfield 28, 3) := by decide +kernel
theorem dX8_counted_26 : decode cX8_counted 26 = .ok (.iload_n 1, 1) := by decide +kernel
theorem dX8_counted_27 : decode cX8_counted 27 = .ok (.iaload, 1) := by decide +kernel
theorem dX8_counted_28 : decode cX8_counted 28 = .ok (.iload_n 2, 1) := by decide +kernel
theorem dX8_counted_29 : decode cX8_counted 29 = .ok (.ifCond .ne 7, 3) := by decide +kernel
theorem dX8_counted_32 : decode cX8_counted 32 = .ok (.iconst 0, 1) := by decide +kernel
theorem dX8_counted_33 : decode cX8_counted 33 = .ok (.goto 4, 3) := by decide +kernel
theorem dX8_counted_36 : decode cX8_counted 36 = .ok (.iconst (-1), 1) := by decide +kernel
theorem dX8_counted_37 : decode cX8_counted 37 = .ok (.invokevirtual 145, 3) := by decide +kernel
theorem dX8_counted_40 : decode cX8_counted 40 = .ok (.i2l, 1) := by decide +kernel
theorem dX8_counted_41 : decode cX8_counted 41 = .ok (.lmul, 1) := by decide +kernel
theorem dX8_counted_42 : decode cX8_counted 42 = .ok (.lastore, 1) := by decide +kernel
theorem dX8_counted_43 : decode cX8_counted 43 = .ok (.iinc 2 1, 3) := by decide +kernel
theorem dX8_counted_46 : decode cX8_counted 46 = .ok (.goto (-44), 3) := by decide +kernel
theorem dX8_counted_49 : decode cX8_counted 49 = .ok (.aload_n 0, 1) := by decide +kernel
theorem dX8_counted_50 : decode cX8_counted 50 = .ok (.invokevirtual 142, 3) := by decide +kernel
theorem dX8_counted_53 : decode cX8_counted 53 = .ok (.return_, 1) := by decide +kernel
set_option maxRecDepth 20000 in
theorem ggX8_goes_X8_walks : GoodIn wsX8_goes wsX8_walks := goodIn_r _ [9, 10, 1, 11, 12, 13, 8, 14, 2, 15, 16, 17, 28, 29, 30, 31, 32, 33, 34, 35, 36, 37, 38, 39, 40, 41, 42, 43, 44, 45, 46, 47, 48, 49] (by decide +kernel) (by decide +kernel)
set_option maxRecDepth 20000 in
theorem gX8_goes_X8_walks : GoodIn wsX8_goes (wsV RX8 149 RX8 yX8_walks wsX8_walks) := goodIn_app (goodIn_of _ (by decide +kernel)) ggX8_goes_X8_walks
set_option maxRecDepth 20000 in
theorem ggX8_goes_X8_counted : GoodIn wsX8_goes wsX8_counted := goodIn_r _ [21, 1, 22, 23, 24, 25, 26, 8, 27, 10, 11, 12, 13, 14, 2, 15, 16, 17, 28, 29, 30, 31, 32, 33, 34, 35, 36, 37, 38, 39, 40, 41, 42, 43, 44, 45, 46, 47, 48, 49] (by decide +kernel) (by decide +kernel)
set_option maxRecDepth 20000 in
theorem gX8_goes_X8_counted : GoodIn wsX8_goes (wsV RX8 152 RX8 yX8_counted wsX8_counted) := goodIn_app (goodIn_of _ (by decide +kernel)) ggX8_goes_X8_counted
theorem dX8_goes_0 : decode cX8_goes 0 = .ok (.bipush (-4), 2) := by decide +kernel
theorem dX8_goes_2 : decode cX8_goes 2 = .ok (.istore_n 2, 1) := by decide +kernel
theorem dX8_goes_3 : decode cX8_goes 3 = .ok (.iconst 0, 1) := by decide +kernel
theorem dX8_goes_4 : decode cX8_goes 4 = .ok (.istore_n 3, 1) := by decide +kernel
theorem dX8_goes_5 : decode cX8_goes 5 = .ok (.iload_n 3, 1) := by decide +kernel
theorem dX8_goes_6 : decode cX8_goes 6 = .ok (.bipush 9, 2) := by decide +kernel
theorem dX8_goes_8 : decode cX8_goes 8 = .ok (.if_icmp .ge 24, 3) := by decide +kernel
theorem dX8_goes_11 : decode cX8_goes 11 = .ok (.aload_n 0, 1) := by decide +kernel
theorem dX8_goes_12 : decode cX8_goes 12 = .ok (.getfield 34, 3) := by decide +kernel
theorem dX8_goes_15 : decode cX8_goes 15 = .ok (.iload_n 3, 1) := by decide +kernel
theorem dX8_goes_16 : decode cX8_goes 16 = .ok (.iload_n 3, 1) := by decide +kernel
theorem dX8_goes_17 : decode cX8_goes 17 = .ok (.ifCond .ne 7, 3) := by decide +kernel
theorem dX8_goes_20 : decode cX8_goes 20 = .ok (.lconst 1, 1) := by decide +kernel
theorem dX8_goes_21 : decode cX8_goes 21 = .ok (.goto 4, 3) := by decide +kernel
theorem dX8_goes_24 : decode cX8_goes 24 = .ok (.lconst 0, 1) := by decide +kernel
theorem dX8_goes_25 : decode cX8_goes 25 = .ok (.lastore, 1) := by decide +kernel
theorem dX8_goes_26 : decode cX8_goes 26 = .ok (.iinc 3 1, 3) := by decide +kernel
theorem dX8_goes_29 : decode cX8_goes 29 = .ok (.goto (-24), 3) := by decide +kernel
theorem dX8_goes_32 : decode cX8_goes 32 = .ok (.aload_n 0, 1) := by decide +kernel
theorem dX8_goes_33 : decode cX8_goes 33 = .ok (.lconst 1, 1) := by decide +kernel
theorem dX8_goes_34 : decode cX8_goes 34 = .ok (.putfield 138, 3) := by decide +kernel
theorem dX8_goes_37 : decode cX8_goes 37 = .ok (.iconst 0, 1) := by decide +kernel
theorem dX8_goes_38 : decode cX8_goes 38 = .ok (.istore_n 3, 1) := by decide +kernel
theorem dX8_goes_39 : decode cX8_goes 39 = .ok (.iload_n 3, 1) := by decide +kernel
theorem dX8_goes_40 : decode cX8_goes 40 = .ok (.aload_n 0, 1) := by decide +kernel
theorem dX8_goes_41 : decode cX8_goes 41 = .ok (.getfield 111, 3) := by decide +kernel
theorem dX8_goes_44 : decode cX8_goes 44 = .ok (.if_icmp .gt 72, 3) := by decide +kernel
theorem dX8_goes_47 : decode cX8_goes 47 = .ok (.iload_n 3, 1) := by decide +kernel
theorem dX8_goes_48 : decode cX8_goes 48 = .ok (.ifCond .le 8, 3) := by decide +kernel
theorem dX8_goes_51 : decode cX8_goes 51 = .ok (.aload_n 0, 1) := by decide +kernel
theorem dX8_goes_52 : decode cX8_goes 52 = .ok (.iload_n 3, 1) := by decide +kernel
theorem dX8_goes_53 : decode cX8_goes 53 = .ok (.invokevirtual 149, 3) := by decide +kernel
theorem dX8_goes_56 : decode cX8_goes 56 = .ok (.iconst 0, 1) := by decide +kernel
theorem dX8_goes_57 : decode cX8_goes 57 = .ok (.istore 4, 2) := by decide +kernel
theorem dX8_goes_59 : decode cX8_goes 59 = .ok (.iload 4, 2) := by decide +kernel
theorem dX8_goes_61 : decode cX8_goes 61 = .ok (.iload_n 1, 1) := by decide +kernel
theorem dX8_goes_62 : decode cX8_goes 62 = .ok (.if_icmp .ge 48, 3) := by decide +kernel
theorem dX8_goes_65 : decode cX8_goes 65 = .ok (.aload_n 0, 1) := by decide +kernel
theorem dX8_goes_66 : decode cX8_goes 66 = .ok (.getfield 22, 3) := by decide +kernel
theorem dX8_goes_69 : decode cX8_goes 69 = .ok (.iload 4, 2) := by decide +kernel
theorem dX8_goes_71 : decode cX8_goes 71 = .ok (.iaload, 1) := by decide +kernel
theorem dX8_goes_72 : decode cX8_goes 72 = .ok (.iload_n 3, 1) := by decide +kernel
theorem dX8_goes_73 : decode cX8_goes 73 = .ok (.if_icmp .ne 31, 3) := by decide +kernel
theorem dX8_goes_76 : decode cX8_goes 76 = .ok (.aload_n 0, 1) := by decide +kernel
theorem dX8_goes_77 : decode cX8_goes 77 = .ok (.iload 4, 2) := by decide +kernel
theorem dX8_goes_79 : decode cX8_goes 79 = .ok (.invokevirtual 152, 3) := by decide +kernel
theorem dX8_goes_82 : decode cX8_goes 82 = .ok (.iload_n 2, 1) := by decide +kernel
theorem dX8_goes_83 : decode cX8_goes 83 = .ok (.bipush (-4), 2) := by decide +kernel
theorem dX8_goes_85 : decode cX8_goes 85 = .ok (.if_icmp .ne 17, 3) := by decide +kernel
theorem dX8_goes_88 : decode cX8_goes 88 = .ok (.aload_n 0, 1) := by decide +kernel
theorem dX8_goes_89 : decode cX8_goes 89 = .ok (.getfield 138, 3) := by decide +kernel
theorem dX8_goes_92 : decode cX8_goes 92 = .ok (.lconst 0, 1) := by decide +kernel
theorem dX8_goes_93 : decode cX8_goes 93 = .ok (.lcmp, 1) := by decide +kernel
theorem dX8_goes_94 : decode cX8_goes 94 = .ok (.ifCond .ne 8, 3) := by decide +kernel
theorem dX8_goes_97 : decode cX8_goes 97 = .ok (.iload 4, 2) := by decide +kernel
theorem dX8_goes_99 : decode cX8_goes 99 = .ok (.goto 4, 3) := by decide +kernel
theorem dX8_goes_102 : decode cX8_goes 102 = .ok (.iload_n 2, 1) := by decide +kernel
theorem dX8_goes_103 : decode cX8_goes 103 = .ok (.istore_n 2, 1) := by decide +kernel
theorem dX8_goes_104 : decode cX8_goes 104 = .ok (.iinc 4 1, 3) := by decide +kernel
theorem dX8_goes_107 : decode cX8_goes 107 = .ok (.goto (-48), 3) := by decide +kernel
theorem dX8_goes_110 : decode cX8_goes 110 = .ok (.iinc 3 1, 3) := by decide +kernel
theorem dX8_goes_113 : decode cX8_goes 113 = .ok (.goto (-74), 3) := by decide +kernel
theorem dX8_goes_116 : decode cX8_goes 116 = .ok (.iload_n 2, 1) := by decide +kernel
theorem dX8_goes_117 : decode cX8_goes 117 = .ok (.ireturn, 1) := by decide +kernel
set_option maxRecDepth 20000 in
theorem ggX8_part_X8_common : GoodIn wsX8_part wsX8_common := goodIn_r _ [4] (by decide +kernel) (by decide +kernel)
set_option maxRecDepth 20000 in
theorem gX8_part_X8_common : GoodIn wsX8_part (va_wsS RX8 134 yX8_common wsX8_common) := goodIn_app (goodIn_of _ (by decide +kernel)) ggX8_part_X8_common
theorem dX8_part_0 : decode cX8_part 0 = .ok (.lload_n 0, 1) := by decide +kernel
theorem dX8_part_1 : decode cX8_part 1 = .ok (.lload_n 2, 1) := by decide +kernel
theorem dX8_part_2 : decode cX8_part 2 = .ok (.invokestatic 134, 3) := by decide +kernel
theorem dX8_part_5 : decode cX8_part 5 = .ok (.lstore 5, 2) := by decide +kernel
theorem dX8_part_7 : decode cX8_part 7 = .ok (.iload 4, 2) := by decide +kernel
theorem dX8_part_9 : decode cX8_part 9 = .ok (.ifCond .ne 10, 3) := by decide +kernel
theorem dX8_part_12 : decode cX8_part 12 = .ok (.lload_n 0, 1) := by decide +kernel
theorem dX8_part_13 : decode cX8_part 13 = .ok (.lload 5, 2) := by decide +kernel
theorem dX8_part_15 : decode cX8_part 15 = .ok (.ldiv, 1) := by decide +kernel
theorem dX8_part_16 : decode cX8_part 16 = .ok (.goto 7, 3) := by decide +kernel
theorem dX8_part_19 : decode cX8_part 19 = .ok (.lload_n 2, 1) := by decide +kernel
theorem dX8_part_20 : decode cX8_part 20 = .ok (.lload 5, 2) := by decide +kernel
theorem dX8_part_22 : decode cX8_part 22 = .ok (.ldiv, 1) := by decide +kernel
theorem dX8_part_23 : decode cX8_part 23 = .ok (.lreturn, 1) := by decide +kernel
set_option maxRecDepth 20000 in
theorem ggX8_odds_X8_in : GoodIn wsX8_odds wsX8_in := goodIn_r _ [10] (by decide +kernel) (by decide +kernel)
set_option maxRecDepth 20000 in
theorem gX8_odds_X8_in : GoodIn wsX8_odds (va_wsS RX8 63 yX8_in wsX8_in) := goodIn_app (goodIn_of _ (by decide +kernel)) ggX8_odds_X8_in
set_option maxRecDepth 20000 in
theorem ggX8_odds_X8_goes : GoodIn wsX8_odds wsX8_goes := goodIn_r _ [14, 6, 4, 15, 16, 17, 18, 19, 9, 20, 1, 21, 22, 23, 24, 25, 26, 27, 28, 29, 30, 31, 32, 33, 34, 35, 36, 37, 41, 42, 43, 44, 45, 46, 47, 48, 49, 50, 51, 52, 53, 54, 55, 56, 57, 58, 59, 60, 61, 62] (by decide +kernel) (by decide +kernel)
set_option maxRecDepth 20000 in
theorem gX8_odds_X8_goes : GoodIn wsX8_odds (wsV RX8 157 RX8 yX8_goes wsX8_goes) := goodIn_app (goodIn_of _ (by decide +kernel)) ggX8_odds_X8_goes
set_option maxRecDepth 20000 in
theorem ggX8_odds_X8_part : GoodIn wsX8_odds wsX8_part := goodIn_r _ [40, 25, 26, 9, 27] (by decide +kernel) (by decide +kernel)
set_option maxRecDepth 20000 in
theorem gX8_odds_X8_part : GoodIn wsX8_odds (va_wsS RX8 163 yX8_part wsX8_part) := goodIn_app (goodIn_of _ (by decide +kernel)) ggX8_odds_X8_part
theorem dX8_odds_0 : decode cX8_odds 0 = .ok (.iload_n 1, 1) := by decide +kernel
theorem dX8_odds_1 : decode cX8_odds 1 = .ok (.i2l, 1) := by decide +kernel
theorem dX8_odds_2 : decode cX8_odds 2 = .ok (.lconst 0, 1) := by decide +kernel
theorem dX8_odds_3 : decode cX8_odds 3 = .ok (.aload_n 0, 1) := by decide +kernel
theorem dX8_odds_4 : decode cX8_odds 4 = .ok (.getfield 7, 3) := by decide +kernel
theorem dX8_odds_7 : decode cX8_odds 7 = .ok (.iconst 0, 1) := by decide +kernel
theorem dX8_odds_8 : decode cX8_odds 8 = .ok (.iaload, 1) := by decide +kernel
theorem dX8_odds_9 : decode cX8_odds 9 = .ok (.i2l, 1) := by decide +kernel
theorem dX8_odds_10 : decode cX8_odds 10 = .ok (.invokestatic 63, 3) := by decide +kernel
theorem dX8_odds_13 : decode cX8_odds 13 = .ok (.ifCond .eq 13, 3) := by decide +kernel
theorem dX8_odds_16 : decode cX8_odds 16 = .ok (.iload_n 2, 1) := by decide +kernel
theorem dX8_odds_17 : decode cX8_odds 17 = .ok (.i2l, 1) := by decide +kernel
theorem dX8_odds_18 : decode cX8_odds 18 = .ok (.lconst 0, 1) := by decide +kernel
theorem dX8_odds_19 : decode cX8_odds 19 = .ok (.lconst 1, 1) := by decide +kernel
theorem dX8_odds_20 : decode cX8_odds 20 = .ok (.invokestatic 63, 3) := by decide +kernel
theorem dX8_odds_23 : decode cX8_odds 23 = .ok (.ifCond .ne 7, 3) := by decide +kernel
theorem dX8_odds_26 : decode cX8_odds 26 = .ok (.ldc2_w 155, 3) := by decide +kernel
theorem dX8_odds_29 : decode cX8_odds 29 = .ok (.lreturn, 1) := by decide +kernel
theorem dX8_odds_30 : decode cX8_odds 30 = .ok (.aload_n 0, 1) := by decide +kernel
theorem dX8_odds_31 : decode cX8_odds 31 = .ok (.aload_n 0, 1) := by decide +kernel
theorem dX8_odds_32 : decode cX8_odds 32 = .ok (.getfield 114, 3) := by decide +kernel
theorem dX8_odds_35 : decode cX8_odds 35 = .ok (.invokevirtual 157, 3) := by decide +kernel
theorem dX8_odds_38 : decode cX8_odds 38 = .ok (.pop, 1) := by decide +kernel
theorem dX8_odds_39 : decode cX8_odds 39 = .ok (.aload_n 0, 1) := by decide +kernel
theorem dX8_odds_40 : decode cX8_odds 40 = .ok (.getfield 138, 3) := by decide +kernel
theorem dX8_odds_43 : decode cX8_odds 43 = .ok (.lconst 0, 1) := by decide +kernel
theorem dX8_odds_44 : decode cX8_odds 44 = .ok (.lcmp, 1) := by decide +kernel
theorem dX8_odds_45 : decode cX8_odds 45 = .ok (.ifCond .ne 9, 3) := by decide +kernel
theorem dX8_odds_48 : decode cX8_odds 48 = .ok (.ldc2_w 161, 3) := by decide +kernel
theorem dX8_odds_51 : decode cX8_odds 51 = .ok (.goto 17, 3) := by decide +kernel
theorem dX8_odds_54 : decode cX8_odds 54 = .ok (.aload_n 0, 1) := by decide +kernel
theorem dX8_odds_55 : decode cX8_odds 55 = .ok (.getfield 34, 3) := by decide +kernel
theorem dX8_odds_58 : decode cX8_odds 58 = .ok (.iload_n 1, 1) := by decide +kernel
theorem dX8_odds_59 : decode cX8_odds 59 = .ok (.laload, 1) := by decide +kernel
theorem dX8_odds_60 : decode cX8_odds 60 = .ok (.aload_n 0, 1) := by decide +kernel
theorem dX8_odds_61 : decode cX8_odds 61 = .ok (.getfield 138, 3) := by decide +kernel
theorem dX8_odds_64 : decode cX8_odds 64 = .ok (.iload_n 2, 1) := by decide +kernel
theorem dX8_odds_65 : decode cX8_odds 65 = .ok (.invokestatic 163, 3) := by decide +kernel
theorem dX8_odds_68 : decode cX8_odds 68 = .ok (.lreturn, 1) := by decide +kernel
set_option maxRecDepth 20000 in
theorem ggX8_missing_X8_in : GoodIn wsX8_missing wsX8_in := goodIn_r _ [9] (by decide +kernel) (by decide +kernel)
set_option maxRecDepth 20000 in
theorem gX8_missing_X8_in : GoodIn wsX8_missing (va_wsS RX8 63 yX8_in wsX8_in) := goodIn_app (goodIn_of _ (by decide +kernel)) ggX8_missing_X8_in
set_option maxRecDepth 20000 in
theorem ggX8_missing_X8_goes : GoodIn wsX8_missing wsX8_goes := goodIn_r _ [13, 5, 3, 14, 15, 16, 17, 18, 8, 19, 20, 21, 22, 23, 24, 25, 26, 27, 28, 29, 30, 31, 32, 33, 34, 35, 36, 37, 41, 42, 43, 44, 45, 46, 47, 48, 49, 50, 51, 52, 53, 54, 55, 56, 57, 58, 59, 60, 61, 62] (by decide +kernel) (by decide +kernel)
set_option maxRecDepth 20000 in
theorem gX8_missing_X8_goes : GoodIn wsX8_missing (wsV RX8 157 RX8 yX8_goes wsX8_goes) := goodIn_app (goodIn_of _ (by decide +kernel)) ggX8_missing_X8_goes
set_option maxRecDepth 20000 in
theorem ggX8_missing_X8_part : GoodIn wsX8_missing wsX8_part := goodIn_r _ [40, 25, 26, 8, 27] (by decide +kernel) (by decide +kernel)
set_option maxRecDepth 20000 in
theorem gX8_missing_X8_part : GoodIn wsX8_missing (va_wsS RX8 163 yX8_part wsX8_part) := goodIn_app (goodIn_of _ (by decide +kernel)) ggX8_missing_X8_part
theorem dX8_missing_0 : decode cX8_missing 0 = .ok (.iload_n 1, 1) := by decide +kernel
theorem dX8_missing_1 : decode cX8_missing 1 = .ok (.i2l, 1) := by decide +kernel
theorem dX8_missing_2 : decode cX8_missing 2 = .ok (.lconst 0, 1) := by decide +kernel
theorem dX8_missing_3 : decode cX8_missing 3 = .ok (.lconst 1, 1) := by decide +kernel
theorem dX8_missing_4 : decode cX8_missing 4 = .ok (.invokestatic 63, 3) := by decide +kernel
theorem dX8_missing_7 : decode cX8_missing 7 = .ok (.ifCond .ne 7, 3) := by decide +kernel
theorem dX8_missing_10 : decode cX8_missing 10 = .ok (.ldc2_w 155, 3) := by decide +kernel
theorem dX8_missing_13 : decode cX8_missing 13 = .ok (.lreturn, 1) := by decide +kernel
theorem dX8_missing_14 : decode cX8_missing 14 = .ok (.aload_n 0, 1) := by decide +kernel
theorem dX8_missing_15 : decode cX8_missing 15 = .ok (.aload_n 0, 1) := by decide +kernel
theorem dX8_missing_16 : decode cX8_missing 16 = .ok (.getfield 114, 3) := by decide +kernel
theorem dX8_missing_19 : decode cX8_missing 19 = .ok (.invokevirtual 157, 3) := by decide +kernel
theorem dX8_missing_22 : decode cX8_missing 22 = .ok (.pop, 1) := by decide +kernel
theorem dX8_missing_23 : decode cX8_missing 23 = .ok (.aload_n 0, 1) := by decide +kernel
theorem dX8_missing_24 : decode cX8_missing 24 = .ok (.getfield 138, 3) := by decide +kernel
theorem dX8_missing_27 : decode cX8_missing 27 = .ok (.lconst 0, 1) := by decide +kernel
theorem dX8_missing_28 : decode cX8_missing 28 = .ok (.lcmp, 1) := by decide +kernel
theorem dX8_missing_29 : decode cX8_missing 29 = .ok (.ifCond .ne 9, 3) := by decide +kernel
theorem dX8_missing_32 : decode cX8_missing 32 = .ok (.ldc2_w 161, 3) := by decide +kernel
theorem dX8_missing_35 : decode cX8_missing 35 = .ok (.goto 22, 3) := by decide +kernel
theorem dX8_missing_38 : decode cX8_missing 38 = .ok (.aload_n 0, 1) := by decide +kernel
theorem dX8_missing_39 : decode cX8_missing 39 = .ok (.getfield 138, 3) := by decide +kernel
theorem dX8_missing_42 : decode cX8_missing 42 = .ok (.aload_n 0, 1) := by decide +kernel
theorem dX8_missing_43 : decode cX8_missing 43 = .ok (.getfield 34, 3) := by decide +kernel
theorem dX8_missing_46 : decode cX8_missing 46 = .ok (.iconst 0, 1) := by decide +kernel
theorem dX8_missing_47 : decode cX8_missing 47 = .ok (.laload, 1) := by decide +kernel
theorem dX8_missing_48 : decode cX8_missing 48 = .ok (.lsub, 1) := by decide +kernel
theorem dX8_missing_49 : decode cX8_missing 49 = .ok (.aload_n 0, 1) := by decide +kernel
theorem dX8_missing_50 : decode cX8_missing 50 = .ok (.getfield 138, 3) := by decide +kernel
theorem dX8_missing_53 : decode cX8_missing 53 = .ok (.iload_n 1, 1) := by decide +kernel
theorem dX8_missing_54 : decode cX8_missing 54 = .ok (.invokestatic 163, 3) := by decide +kernel
theorem dX8_missing_57 : decode cX8_missing 57 = .ok (.lreturn, 1) := by decide +kernel
set_option maxRecDepth 20000 in
theorem ggX8_since_X8_goes : GoodIn wsX8_since wsX8_goes := goodIn_r _ [7, 2, 8, 9, 10, 11, 12, 13, 6, 14, 15, 16, 17, 18, 19, 20, 21, 22, 23, 24, 25, 26, 27, 28, 29, 30, 31, 32, 33, 34, 35, 36, 37, 38, 39, 40, 41, 42, 43, 44, 45, 46, 47, 48, 49, 50, 51, 52, 53, 54] (by decide +kernel) (by decide +kernel)
set_option maxRecDepth 20000 in
theorem gX8_since_X8_goes : GoodIn wsX8_since (wsV RX8 157 RX8 yX8_goes wsX8_goes) := goodIn_app (goodIn_of _ (by decide +kernel)) ggX8_since_X8_goes
theorem dX8_since_0 : decode cX8_since 0 = .ok (.aload_n 0, 1) := by decide +kernel
theorem dX8_since_1 : decode cX8_since 1 = .ok (.aload_n 0, 1) := by decide +kernel
theorem dX8_since_2 : decode cX8_since 2 = .ok (.getfield 114, 3) := by decide +kernel
theorem dX8_since_5 : decode cX8_since 5 = .ok (.invokevirtual 157, 3) := by decide +kernel
theorem dX8_since_8 : decode cX8_since 8 = .ok (.pop, 1) := by decide +kernel
theorem dX8_since_9 : decode cX8_since 9 = .ok (.bipush (-4), 2) := by decide +kernel
theorem dX8_since_11 : decode cX8_since 11 = .ok (.istore_n 1, 1) := by decide +kernel
theorem dX8_since_12 : decode cX8_since 12 = .ok (.iconst 1, 1) := by decide +kernel
theorem dX8_since_13 : decode cX8_since 13 = .ok (.istore_n 2, 1) := by decide +kernel
theorem dX8_since_14 : decode cX8_since 14 = .ok (.iload_n 2, 1) := by decide +kernel
theorem dX8_since_15 : decode cX8_since 15 = .ok (.bipush 9, 2) := by decide +kernel
theorem dX8_since_17 : decode cX8_since 17 = .ok (.if_icmp .ge 48, 3) := by decide +kernel
theorem dX8_since_20 : decode cX8_since 20 = .ok (.aload_n 0, 1) := by decide +kernel
theorem dX8_since_21 : decode cX8_since 21 = .ok (.getfield 34, 3) := by decide +kernel
theorem dX8_since_24 : decode cX8_since 24 = .ok (.iload_n 2, 1) := by decide +kernel
theorem dX8_since_25 : decode cX8_since 25 = .ok (.laload, 1) := by decide +kernel
theorem dX8_since_26 : decode cX8_since 26 = .ok (.lconst 0, 1) := by decide +kernel
theorem dX8_since_27 : decode cX8_since 27 = .ok (.lcmp, 1) := by decide +kernel
theorem dX8_since_28 : decode cX8_since 28 = .ok (.ifCond .le 29, 3) := by decide +kernel
theorem dX8_since_31 : decode cX8_since 31 = .ok (.iload_n 1, 1) := by decide +kernel
theorem dX8_since_32 : decode cX8_since 32 = .ok (.bipush (-4), 2) := by decide +kernel
theorem dX8_since_34 : decode cX8_since 34 = .ok (.if_icmp .eq 19, 3) := by decide +kernel
theorem dX8_since_37 : decode cX8_since 37 = .ok (.aload_n 0, 1) := by decide +kernel
theorem dX8_since_38 : decode cX8_since 38 = .ok (.getfield 34, 3) := by decide +kernel
theorem dX8_since_41 : decode cX8_since 41 = .ok (.iload_n 2, 1) := by decide +kernel
theorem dX8_since_42 : decode cX8_since 42 = .ok (.laload, 1) := by decide +kernel
theorem dX8_since_43 : decode cX8_since 43 = .ok (.aload_n 0, 1) := by decide +kernel
theorem dX8_since_44 : decode cX8_since 44 = .ok (.getfield 34, 3) := by decide +kernel
theorem dX8_since_47 : decode cX8_since 47 = .ok (.iload_n 1, 1) := by decide +kernel
theorem dX8_since_48 : decode cX8_since 48 = .ok (.laload, 1) := by decide +kernel
theorem dX8_since_49 : decode cX8_since 49 = .ok (.lcmp, 1) := by decide +kernel
theorem dX8_since_50 : decode cX8_since 50 = .ok (.ifCond .le 7, 3) := by decide +kernel
theorem dX8_since_53 : decode cX8_since 53 = .ok (.iload_n 2, 1) := by decide +kernel
theorem dX8_since_54 : decode cX8_since 54 = .ok (.goto 4, 3) := by decide +kernel
theorem dX8_since_57 : decode cX8_since 57 = .ok (.iload_n 1, 1) := by decide +kernel
theorem dX8_since_58 : decode cX8_since 58 = .ok (.istore_n 1, 1) := by decide +kernel
theorem dX8_since_59 : decode cX8_since 59 = .ok (.iinc 2 1, 3) := by decide +kernel
theorem dX8_since_62 : decode cX8_since 62 = .ok (.goto (-48), 3) := by decide +kernel
theorem dX8_since_65 : decode cX8_since 65 = .ok (.iload_n 1, 1) := by decide +kernel
theorem dX8_since_66 : decode cX8_since 66 = .ok (.ireturn, 1) := by decide +kernel
set_option maxRecDepth 20000 in
theorem ggX8_judge_X8_goes : GoodIn wsX8_judge wsX8_goes := goodIn_r _ [6, 7, 8, 9, 10, 11, 12, 13, 5, 14, 15, 16, 17, 18, 19, 20, 21, 22, 23, 24, 25, 26, 27, 28, 29, 30, 31, 32, 33, 34, 35, 36, 37, 38, 39, 40, 41, 42, 43, 44, 45, 46, 47, 48, 49, 50, 51, 52, 53, 54] (by decide +kernel) (by decide +kernel)
set_option maxRecDepth 20000 in
theorem gX8_judge_X8_goes : GoodIn wsX8_judge (wsV RX8 157 RX8 yX8_goes wsX8_goes) := goodIn_app (goodIn_of _ (by decide +kernel)) ggX8_judge_X8_goes
theorem dX8_judge_0 : decode cX8_judge 0 = .ok (.aload_n 0, 1) := by decide +kernel
theorem dX8_judge_1 : decode cX8_judge 1 = .ok (.aload_n 0, 1) := by decide +kernel
theorem dX8_judge_2 : decode cX8_judge 2 = .ok (.getfield 114, 3) := by decide +kernel
theorem dX8_judge_5 : decode cX8_judge 5 = .ok (.invokevirtual 157, 3) := by decide +kernel
theorem dX8_judge_8 : decode cX8_judge 8 = .ok (.ireturn, 1) := by decide +kernel
set_option maxRecDepth 20000 in
theorem ggX8_backward_X8_in : GoodIn wsX8_backward wsX8_in := goodIn_r _ [10] (by decide +kernel) (by decide +kernel)
set_option maxRecDepth 20000 in
theorem gX8_backward_X8_in : GoodIn wsX8_backward (va_wsS RX8 63 yX8_in wsX8_in) := goodIn_app (goodIn_of _ (by decide +kernel)) ggX8_backward_X8_in
set_option maxRecDepth 20000 in
theorem ggX8_backward_X8_goes : GoodIn wsX8_backward wsX8_goes := goodIn_r _ [14, 6, 4, 15, 16, 17, 18, 19, 9, 20, 21, 22, 23, 24, 25, 26, 27, 28, 29, 30, 31, 32, 33, 34, 35, 36, 37, 38, 42, 43, 44, 45, 46, 47, 48, 49, 50, 51, 52, 53, 54, 55, 56, 57, 58, 59, 60, 61, 62, 63] (by decide +kernel) (by decide +kernel)
set_option maxRecDepth 20000 in
theorem gX8_backward_X8_goes : GoodIn wsX8_backward (wsV RX8 157 RX8 yX8_goes wsX8_goes) := goodIn_app (goodIn_of _ (by decide +kernel)) ggX8_backward_X8_goes
set_option maxRecDepth 20000 in
theorem ggX8_backward_X8_part : GoodIn wsX8_backward wsX8_part := goodIn_r _ [41, 26, 27, 9, 28] (by decide +kernel) (by decide +kernel)
set_option maxRecDepth 20000 in
theorem gX8_backward_X8_part : GoodIn wsX8_backward (va_wsS RX8 163 yX8_part wsX8_part) := goodIn_app (goodIn_of _ (by decide +kernel)) ggX8_backward_X8_part
theorem dX8_backward_0 : decode cX8_backward 0 = .ok (.iload_n 1, 1) := by decide +kernel
theorem dX8_backward_1 : decode cX8_backward 1 = .ok (.i2l, 1) := by decide +kernel
theorem dX8_backward_2 : decode cX8_backward 2 = .ok (.lconst 0, 1) := by decide +kernel
theorem dX8_backward_3 : decode cX8_backward 3 = .ok (.lconst 1, 1) := by decide +kernel
theorem dX8_backward_4 : decode cX8_backward 4 = .ok (.invokestatic 63, 3) := by decide +kernel
theorem dX8_backward_7 : decode cX8_backward 7 = .ok (.ifCond .ne 7, 3) := by decide +kernel
theorem dX8_backward_10 : decode cX8_backward 10 = .ok (.ldc2_w 155, 3) := by decide +kernel
theorem dX8_backward_13 : decode cX8_backward 13 = .ok (.lreturn, 1) := by decide +kernel
theorem dX8_backward_14 : decode cX8_backward 14 = .ok (.aload_n 0, 1) := by decide +kernel
theorem dX8_backward_15 : decode cX8_backward 15 = .ok (.getfield 114, 3) := by decide +kernel
theorem dX8_backward_18 : decode cX8_backward 18 = .ok (.ifCond .ne 7, 3) := by decide +kernel
theorem dX8_backward_21 : decode cX8_backward 21 = .ok (.ldc2_w 132, 3) := by decide +kernel
theorem dX8_backward_24 : decode cX8_backward 24 = .ok (.lreturn, 1) := by decide +kernel
theorem dX8_backward_25 : decode cX8_backward 25 = .ok (.aload_n 0, 1) := by decide +kernel
theorem dX8_backward_26 : decode cX8_backward 26 = .ok (.aload_n 0, 1) := by decide +kernel
theorem dX8_backward_27 : decode cX8_backward 27 = .ok (.getfield 114, 3) := by decide +kernel
theorem dX8_backward_30 : decode cX8_backward 30 = .ok (.iconst 1, 1) := by decide +kernel
theorem dX8_backward_31 : decode cX8_backward 31 = .ok (.isub, 1) := by decide +kernel
theorem dX8_backward_32 : decode cX8_backward 32 = .ok (.invokevirtual 157, 3) := by decide +kernel
theorem dX8_backward_35 : decode cX8_backward 35 = .ok (.pop, 1) := by decide +kernel
theorem dX8_backward_36 : decode cX8_backward 36 = .ok (.aload_n 0, 1) := by decide +kernel
theorem dX8_backward_37 : decode cX8_backward 37 = .ok (.getfield 138, 3) := by decide +kernel
theorem dX8_backward_40 : decode cX8_backward 40 = .ok (.lconst 0, 1) := by decide +kernel
theorem dX8_backward_41 : decode cX8_backward 41 = .ok (.lcmp, 1) := by decide +kernel
theorem dX8_backward_42 : decode cX8_backward 42 = .ok (.ifCond .ne 9, 3) := by decide +kernel
theorem dX8_backward_45 : decode cX8_backward 45 = .ok (.ldc2_w 161, 3) := by decide +kernel
theorem dX8_backward_48 : decode cX8_backward 48 = .ok (.goto 22, 3) := by decide +kernel
theorem dX8_backward_51 : decode cX8_backward 51 = .ok (.aload_n 0, 1) := by decide +kernel
theorem dX8_backward_52 : decode cX8_backward 52 = .ok (.getfield 138, 3) := by decide +kernel
theorem dX8_backward_55 : decode cX8_backward 55 = .ok (.aload_n 0, 1) := by decide +kernel
theorem dX8_backward_56 : decode cX8_backward 56 = .ok (.getfield 34, 3) := by decide +kernel
theorem dX8_backward_59 : decode cX8_backward 59 = .ok (.iconst 0, 1) := by decide +kernel
theorem dX8_backward_60 : decode cX8_backward 60 = .ok (.laload, 1) := by decide +kernel
theorem dX8_backward_61 : decode cX8_backward 61 = .ok (.lsub, 1) := by decide +kernel
theorem dX8_backward_62 : decode cX8_backward 62 = .ok (.aload_n 0, 1) := by decide +kernel
theorem dX8_backward_63 : decode cX8_backward 63 = .ok (.getfield 138, 3) := by decide +kernel
theorem dX8_backward_66 : decode cX8_backward 66 = .ok (.iload_n 1, 1) := by decide +kernel
theorem dX8_backward_67 : decode cX8_backward 67 = .ok (.invokestatic 163, 3) := by decide +kernel
theorem dX8_backward_70 : decode cX8_backward 70 = .ok (.lreturn, 1) := by decide +kernel
set_option maxRecDepth 20000 in
theorem ggX8_decide_X8_in : GoodIn wsX8_decide wsX8_in := goodIn_r _ [11] (by decide +kernel) (by decide +kernel)
set_option maxRecDepth 20000 in
theorem gX8_decide_X8_in : GoodIn wsX8_decide (va_wsS RX8 63 yX8_in wsX8_in) := goodIn_app (goodIn_of _ (by decide +kernel)) ggX8_decide_X8_in
set_option maxRecDepth 20000 in
theorem ggX8_decide_X8_goes : GoodIn wsX8_decide wsX8_goes := goodIn_r _ [15, 7, 4, 16, 17, 18, 19, 20, 10, 21, 6, 22, 23, 24, 25, 26, 27, 28, 29, 30, 31, 32, 33, 34, 35, 36, 37, 38, 42, 43, 44, 45, 46, 47, 48, 49, 50, 51, 52, 53, 54, 55, 56, 57, 58, 59, 60, 61, 62, 63] (by decide +kernel) (by decide +kernel)
set_option maxRecDepth 20000 in
theorem gX8_decide_X8_goes : GoodIn wsX8_decide (wsV RX8 157 RX8 yX8_goes wsX8_goes) := goodIn_app (goodIn_of _ (by decide +kernel)) ggX8_decide_X8_goes
set_option maxRecDepth 20000 in
theorem ggX8_decide_X8_part : GoodIn wsX8_decide wsX8_part := goodIn_r _ [41, 26, 27, 10, 28] (by decide +kernel) (by decide +kernel)
set_option maxRecDepth 20000 in
theorem gX8_decide_X8_part : GoodIn wsX8_decide (va_wsS RX8 163 yX8_part wsX8_part) := goodIn_app (goodIn_of _ (by decide +kernel)) ggX8_decide_X8_part
theorem dX8_decide_0 : decode cX8_decide 0 = .ok (.iload_n 1, 1) := by decide +kernel
theorem dX8_decide_1 : decode cX8_decide 1 = .ok (.i2l, 1) := by decide +kernel
theorem dX8_decide_2 : decode cX8_decide 2 = .ok (.lconst 0, 1) := by decide +kernel
theorem dX8_decide_3 : decode cX8_decide 3 = .ok (.ldc2_w 82, 3) := by decide +kernel
theorem dX8_decide_6 : decode cX8_decide 6 = .ok (.invokestatic 63, 3) := by decide +kernel
theorem dX8_decide_9 : decode cX8_decide 9 = .ok (.ifCond .ne 7, 3) := by decide +kernel
theorem dX8_decide_12 : decode cX8_decide 12 = .ok (.ldc2_w 155, 3) := by decide +kernel
theorem dX8_decide_15 : decode cX8_decide 15 = .ok (.lreturn, 1) := by decide +kernel
theorem dX8_decide_16 : decode cX8_decide 16 = .ok (.aload_n 0, 1) := by decide +kernel
theorem dX8_decide_17 : decode cX8_decide 17 = .ok (.aload_n 0, 1) := by decide +kernel
theorem dX8_decide_18 : decode cX8_decide 18 = .ok (.getfield 114, 3) := by decide +kernel
theorem dX8_decide_21 : decode cX8_decide 21 = .ok (.invokevirtual 157, 3) := by decide +kernel
theorem dX8_decide_24 : decode cX8_decide 24 = .ok (.pop, 1) := by decide +kernel
theorem dX8_decide_25 : decode cX8_decide 25 = .ok (.aload_n 0, 1) := by decide +kernel
theorem dX8_decide_26 : decode cX8_decide 26 = .ok (.getfield 138, 3) := by decide +kernel
theorem dX8_decide_29 : decode cX8_decide 29 = .ok (.lconst 0, 1) := by decide +kernel
theorem dX8_decide_30 : decode cX8_decide 30 = .ok (.lcmp, 1) := by decide +kernel
theorem dX8_decide_31 : decode cX8_decide 31 = .ok (.ifCond .ne 7, 3) := by decide +kernel
theorem dX8_decide_34 : decode cX8_decide 34 = .ok (.ldc2_w 161, 3) := by decide +kernel
theorem dX8_decide_37 : decode cX8_decide 37 = .ok (.lreturn, 1) := by decide +kernel
theorem dX8_decide_38 : decode cX8_decide 38 = .ok (.aload_n 0, 1) := by decide +kernel
theorem dX8_decide_39 : decode cX8_decide 39 = .ok (.getfield 7, 3) := by decide +kernel
theorem dX8_decide_42 : decode cX8_decide 42 = .ok (.iconst 2, 1) := by decide +kernel
theorem dX8_decide_43 : decode cX8_decide 43 = .ok (.iaload, 1) := by decide +kernel
theorem dX8_decide_44 : decode cX8_decide 44 = .ok (.i2l, 1) := by decide +kernel
theorem dX8_decide_45 : decode cX8_decide 45 = .ok (.aload_n 0, 1) := by decide +kernel
theorem dX8_decide_46 : decode cX8_decide 46 = .ok (.getfield 138, 3) := by decide +kernel
theorem dX8_decide_49 : decode cX8_decide 49 = .ok (.aload_n 0, 1) := by decide +kernel
theorem dX8_decide_50 : decode cX8_decide 50 = .ok (.getfield 34, 3) := by decide +kernel
theorem dX8_decide_53 : decode cX8_decide 53 = .ok (.iconst 0, 1) := by decide +kernel
theorem dX8_decide_54 : decode cX8_decide 54 = .ok (.laload, 1) := by decide +kernel
theorem dX8_decide_55 : decode cX8_decide 55 = .ok (.lsub, 1) := by decide +kernel
theorem dX8_decide_56 : decode cX8_decide 56 = .ok (.lmul, 1) := by decide +kernel
theorem dX8_decide_57 : decode cX8_decide 57 = .ok (.lstore_n 2, 1) := by decide +kernel
theorem dX8_decide_58 : decode cX8_decide 58 = .ok (.aload_n 0, 1) := by decide +kernel
theorem dX8_decide_59 : decode cX8_decide 59 = .ok (.getfield 7, 3) := by decide +kernel
theorem dX8_decide_62 : decode cX8_decide 62 = .ok (.iconst 3, 1) := by decide +kernel
theorem dX8_decide_63 : decode cX8_decide 63 = .ok (.iaload, 1) := by decide +kernel
theorem dX8_decide_64 : decode cX8_decide 64 = .ok (.i2l, 1) := by decide +kernel
theorem dX8_decide_65 : decode cX8_decide 65 = .ok (.aload_n 0, 1) := by decide +kernel
theorem dX8_decide_66 : decode cX8_decide 66 = .ok (.getfield 34, 3) := by decide +kernel
theorem dX8_decide_69 : decode cX8_decide 69 = .ok (.iconst 0, 1) := by decide +kernel
theorem dX8_decide_70 : decode cX8_decide 70 = .ok (.laload, 1) := by decide +kernel
theorem dX8_decide_71 : decode cX8_decide 71 = .ok (.lmul, 1) := by decide +kernel
theorem dX8_decide_72 : decode cX8_decide 72 = .ok (.lstore 4, 2) := by decide +kernel
theorem dX8_decide_74 : decode cX8_decide 74 = .ok (.iload_n 1, 1) := by decide +kernel
theorem dX8_decide_75 : decode cX8_decide 75 = .ok (.ifCond .ne 18, 3) := by decide +kernel
theorem dX8_decide_78 : decode cX8_decide 78 = .ok (.lload_n 2, 1) := by decide +kernel
theorem dX8_decide_79 : decode cX8_decide 79 = .ok (.lload 4, 2) := by decide +kernel
theorem dX8_decide_81 : decode cX8_decide 81 = .ok (.lcmp, 1) := by decide +kernel
theorem dX8_decide_82 : decode cX8_decide 82 = .ok (.ifCond .gt 7, 3) := by decide +kernel
theorem dX8_decide_85 : decode cX8_decide 85 = .ok (.lconst 0, 1) := by decide +kernel
theorem dX8_decide_86 : decode cX8_decide 86 = .ok (.goto 30, 3) := by decide +kernel
theorem dX8_decide_89 : decode cX8_decide 89 = .ok (.lconst 1, 1) := by decide +kernel
theorem dX8_decide_90 : decode cX8_decide 90 = .ok (.goto 26, 3) := by decide +kernel
theorem dX8_decide_93 : decode cX8_decide 93 = .ok (.lload_n 2, 1) := by decide +kernel
theorem dX8_decide_94 : decode cX8_decide 94 = .ok (.lload 4, 2) := by decide +kernel
theorem dX8_decide_96 : decode cX8_decide 96 = .ok (.lcmp, 1) := by decide +kernel
theorem dX8_decide_97 : decode cX8_decide 97 = .ok (.ifCond .ge 7, 3) := by decide +kernel
theorem dX8_decide_100 : decode cX8_decide 100 = .ok (.lload_n 2, 1) := by decide +kernel
theorem dX8_decide_101 : decode cX8_decide 101 = .ok (.goto 5, 3) := by decide +kernel
theorem dX8_decide_104 : decode cX8_decide 104 = .ok (.lload 4, 2) := by decide +kernel
theorem dX8_decide_106 : decode cX8_decide 106 = .ok (.aload_n 0, 1) := by decide +kernel
theorem dX8_decide_107 : decode cX8_decide 107 = .ok (.getfield 138, 3) := by decide +kernel
theorem dX8_decide_110 : decode cX8_decide 110 = .ok (.iload_n 1, 1) := by decide +kernel
theorem dX8_decide_111 : decode cX8_decide 111 = .ok (.iconst 1, 1) := by decide +kernel
theorem dX8_decide_112 : decode cX8_decide 112 = .ok (.isub, 1) := by decide +kernel
theorem dX8_decide_113 : decode cX8_decide 113 = .ok (.invokestatic 163, 3) := by decide +kernel
theorem dX8_decide_116 : decode cX8_decide 116 = .ok (.lreturn, 1) := by decide +kernel
set_option maxRecDepth 20000 in
theorem ggX8_costs_X8_tellsBy : GoodIn wsX8_costs wsX8_tellsBy := goodIn_r _ [9, 3, 10, 11, 12, 13, 14, 15, 16, 17, 18, 19, 20, 21, 22, 23, 24, 25, 26, 27, 28, 29, 30, 31] (by decide +kernel) (by decide +kernel)
set_option maxRecDepth 20000 in
theorem gX8_costs_X8_tellsBy : GoodIn wsX8_costs (wsV RX8 145 RX8 yX8_tellsBy wsX8_tellsBy) := goodIn_app (goodIn_of _ (by decide +kernel)) ggX8_costs_X8_tellsBy
theorem dX8_costs_0 : decode cX8_costs 0 = .ok (.ldc2_w 167, 3) := by decide +kernel
theorem dX8_costs_3 : decode cX8_costs 3 = .ok (.aload_n 0, 1) := by decide +kernel
theorem dX8_costs_4 : decode cX8_costs 4 = .ok (.getfield 138, 3) := by decide +kernel
theorem dX8_costs_7 : decode cX8_costs 7 = .ok (.lmul, 1) := by decide +kernel
theorem dX8_costs_8 : decode cX8_costs 8 = .ok (.aload_n 0, 1) := by decide +kernel
theorem dX8_costs_9 : decode cX8_costs 9 = .ok (.getfield 7, 3) := by decide +kernel
theorem dX8_costs_12 : decode cX8_costs 12 = .ok (.bipush 29, 2) := by decide +kernel
theorem dX8_costs_14 : decode cX8_costs 14 = .ok (.iconst 2, 1) := by decide +kernel
theorem dX8_costs_15 : decode cX8_costs 15 = .ok (.iload_n 1, 1) := by decide +kernel
theorem dX8_costs_16 : decode cX8_costs 16 = .ok (.imul, 1) := by decide +kernel
theorem dX8_costs_17 : decode cX8_costs 17 = .ok (.iadd, 1) := by decide +kernel
theorem dX8_costs_18 : decode cX8_costs 18 = .ok (.iconst 1, 1) := by decide +kernel
theorem dX8_costs_19 : decode cX8_costs 19 = .ok (.iadd, 1) := by decide +kernel
theorem dX8_costs_20 : decode cX8_costs 20 = .ok (.iaload, 1) := by decide +kernel
theorem dX8_costs_21 : decode cX8_costs 21 = .ok (.i2l, 1) := by decide +kernel
theorem dX8_costs_22 : decode cX8_costs 22 = .ok (.lmul, 1) := by decide +kernel
theorem dX8_costs_23 : decode cX8_costs 23 = .ok (.lstore_n 2, 1) := by decide +kernel
theorem dX8_costs_24 : decode cX8_costs 24 = .ok (.bipush (-2), 2) := by decide +kernel
theorem dX8_costs_26 : decode cX8_costs 26 = .ok (.istore 4, 2) := by decide +kernel
theorem dX8_costs_28 : decode cX8_costs 28 = .ok (.iload 4, 2) := by decide +kernel
theorem dX8_costs_30 : decode cX8_costs 30 = .ok (.iconst 2, 1) := by decide +kernel
theorem dX8_costs_31 : decode cX8_costs 31 = .ok (.if_icmp .ge 84, 3) := by decide +kernel
theorem dX8_costs_34 : decode cX8_costs 34 = .ok (.aload_n 0, 1) := by decide +kernel
theorem dX8_costs_35 : decode cX8_costs 35 = .ok (.getfield 7, 3) := by decide +kernel
theorem dX8_costs_38 : decode cX8_costs 38 = .ok (.iconst 2, 1) := by decide +kernel
theorem dX8_costs_39 : decode cX8_costs 39 = .ok (.iaload, 1) := by decide +kernel
theorem dX8_costs_40 : decode cX8_costs 40 = .ok (.i2l, 1) := by decide +kernel
theorem dX8_costs_41 : decode cX8_costs 41 = .ok (.aload_n 0, 1) := by decide +kernel
theorem dX8_costs_42 : decode cX8_costs 42 = .ok (.getfield 138, 3) := by decide +kernel
theorem dX8_costs_45 : decode cX8_costs 45 = .ok (.aload_n 0, 1) := by decide +kernel
theorem dX8_costs_46 : decode cX8_costs 46 = .ok (.getfield 34, 3) := by decide +kernel
theorem dX8_costs_49 : decode cX8_costs 49 = .ok (.iconst 0, 1) := by decide +kernel
