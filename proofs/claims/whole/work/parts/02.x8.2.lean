theorem dX8_costs_50 : decode cX8_costs 50 = .ok (.laload, 1) := by decide +kernel
theorem dX8_costs_51 : decode cX8_costs 51 = .ok (.lsub, 1) := by decide +kernel
theorem dX8_costs_52 : decode cX8_costs 52 = .ok (.lmul, 1) := by decide +kernel
theorem dX8_costs_53 : decode cX8_costs 53 = .ok (.aload_n 0, 1) := by decide +kernel
theorem dX8_costs_54 : decode cX8_costs 54 = .ok (.iload_n 1, 1) := by decide +kernel
theorem dX8_costs_55 : decode cX8_costs 55 = .ok (.iload 4, 2) := by decide +kernel
theorem dX8_costs_57 : decode cX8_costs 57 = .ok (.iconst (-1), 1) := by decide +kernel
theorem dX8_costs_58 : decode cX8_costs 58 = .ok (.invokevirtual 145, 3) := by decide +kernel
theorem dX8_costs_61 : decode cX8_costs 61 = .ok (.i2l, 1) := by decide +kernel
theorem dX8_costs_62 : decode cX8_costs 62 = .ok (.lmul, 1) := by decide +kernel
theorem dX8_costs_63 : decode cX8_costs 63 = .ok (.lstore 5, 2) := by decide +kernel
theorem dX8_costs_65 : decode cX8_costs 65 = .ok (.aload_n 0, 1) := by decide +kernel
theorem dX8_costs_66 : decode cX8_costs 66 = .ok (.getfield 7, 3) := by decide +kernel
theorem dX8_costs_69 : decode cX8_costs 69 = .ok (.iconst 3, 1) := by decide +kernel
theorem dX8_costs_70 : decode cX8_costs 70 = .ok (.iaload, 1) := by decide +kernel
theorem dX8_costs_71 : decode cX8_costs 71 = .ok (.i2l, 1) := by decide +kernel
theorem dX8_costs_72 : decode cX8_costs 72 = .ok (.aload_n 0, 1) := by decide +kernel
theorem dX8_costs_73 : decode cX8_costs 73 = .ok (.getfield 34, 3) := by decide +kernel
theorem dX8_costs_76 : decode cX8_costs 76 = .ok (.iconst 0, 1) := by decide +kernel
theorem dX8_costs_77 : decode cX8_costs 77 = .ok (.laload, 1) := by decide +kernel
theorem dX8_costs_78 : decode cX8_costs 78 = .ok (.lmul, 1) := by decide +kernel
theorem dX8_costs_79 : decode cX8_costs 79 = .ok (.aload_n 0, 1) := by decide +kernel
theorem dX8_costs_80 : decode cX8_costs 80 = .ok (.iload_n 1, 1) := by decide +kernel
theorem dX8_costs_81 : decode cX8_costs 81 = .ok (.iload 4, 2) := by decide +kernel
theorem dX8_costs_83 : decode cX8_costs 83 = .ok (.iconst 0, 1) := by decide +kernel
theorem dX8_costs_84 : decode cX8_costs 84 = .ok (.invokevirtual 145, 3) := by decide +kernel
theorem dX8_costs_87 : decode cX8_costs 87 = .ok (.i2l, 1) := by decide +kernel
theorem dX8_costs_88 : decode cX8_costs 88 = .ok (.lmul, 1) := by decide +kernel
theorem dX8_costs_89 : decode cX8_costs 89 = .ok (.lstore 7, 2) := by decide +kernel
theorem dX8_costs_91 : decode cX8_costs 91 = .ok (.lload_n 2, 1) := by decide +kernel
theorem dX8_costs_92 : decode cX8_costs 92 = .ok (.lload 5, 2) := by decide +kernel
theorem dX8_costs_94 : decode cX8_costs 94 = .ok (.lload 7, 2) := by decide +kernel
theorem dX8_costs_96 : decode cX8_costs 96 = .ok (.lcmp, 1) := by decide +kernel
theorem dX8_costs_97 : decode cX8_costs 97 = .ok (.ifCond .ge 8, 3) := by decide +kernel
theorem dX8_costs_100 : decode cX8_costs 100 = .ok (.lload 5, 2) := by decide +kernel
theorem dX8_costs_102 : decode cX8_costs 102 = .ok (.goto 5, 3) := by decide +kernel
theorem dX8_costs_105 : decode cX8_costs 105 = .ok (.lload 7, 2) := by decide +kernel
theorem dX8_costs_107 : decode cX8_costs 107 = .ok (.ladd, 1) := by decide +kernel
theorem dX8_costs_108 : decode cX8_costs 108 = .ok (.lstore_n 2, 1) := by decide +kernel
theorem dX8_costs_109 : decode cX8_costs 109 = .ok (.iinc 4 1, 3) := by decide +kernel
theorem dX8_costs_112 : decode cX8_costs 112 = .ok (.goto (-84), 3) := by decide +kernel
theorem dX8_costs_115 : decode cX8_costs 115 = .ok (.lload_n 2, 1) := by decide +kernel
theorem dX8_costs_116 : decode cX8_costs 116 = .ok (.lreturn, 1) := by decide +kernel
set_option maxRecDepth 20000 in
theorem ggX8_again_X8_in : GoodIn wsX8_again wsX8_in := goodIn_r _ [12] (by decide +kernel) (by decide +kernel)
set_option maxRecDepth 20000 in
theorem gX8_again_X8_in : GoodIn wsX8_again (va_wsS RX8 63 yX8_in wsX8_in) := goodIn_app (goodIn_of _ (by decide +kernel)) ggX8_again_X8_in
set_option maxRecDepth 20000 in
theorem ggX8_again_X8_goes : GoodIn wsX8_again wsX8_goes := goodIn_r _ [16, 8, 4, 17, 18, 19, 20, 21, 11, 22, 7, 23, 24, 25, 26, 27, 28, 29, 30, 31, 32, 33, 34, 35, 36, 37, 38, 39, 47, 48, 49, 50, 51, 52, 53, 54, 55, 56, 57, 58, 59, 60, 61, 62, 63, 64, 65, 66, 67, 68] (by decide +kernel) (by decide +kernel)
set_option maxRecDepth 20000 in
theorem gX8_again_X8_goes : GoodIn wsX8_again (wsV RX8 157 RX8 yX8_goes wsX8_goes) := goodIn_app (goodIn_of _ (by decide +kernel)) ggX8_again_X8_goes
set_option maxRecDepth 20000 in
theorem ggX8_again_X8_costs : GoodIn wsX8_again wsX8_costs := goodIn_r _ [43, 6, 4, 7, 8, 36, 37, 38, 11, 39, 47, 48, 49, 50, 51, 52, 53, 54, 55, 56, 57, 58, 59, 60, 61, 62, 63, 64, 65, 66, 67, 68] (by decide +kernel) (by decide +kernel)
set_option maxRecDepth 20000 in
theorem gX8_again_X8_costs : GoodIn wsX8_again (wsV RX8 169 RX8 yX8_costs wsX8_costs) := goodIn_app (goodIn_of _ (by decide +kernel)) ggX8_again_X8_costs
set_option maxRecDepth 20000 in
theorem ggX8_again_X8_part : GoodIn wsX8_again wsX8_part := goodIn_r _ [46, 27, 28, 11, 29] (by decide +kernel) (by decide +kernel)
set_option maxRecDepth 20000 in
theorem gX8_again_X8_part : GoodIn wsX8_again (va_wsS RX8 163 yX8_part wsX8_part) := goodIn_app (goodIn_of _ (by decide +kernel)) ggX8_again_X8_part
theorem dX8_again_0 : decode cX8_again 0 = .ok (.iload_n 1, 1) := by decide +kernel
theorem dX8_again_1 : decode cX8_again 1 = .ok (.i2l, 1) := by decide +kernel
theorem dX8_again_2 : decode cX8_again 2 = .ok (.lconst 0, 1) := by decide +kernel
theorem dX8_again_3 : decode cX8_again 3 = .ok (.ldc2_w 82, 3) := by decide +kernel
theorem dX8_again_6 : decode cX8_again 6 = .ok (.invokestatic 63, 3) := by decide +kernel
theorem dX8_again_9 : decode cX8_again 9 = .ok (.ifCond .ne 7, 3) := by decide +kernel
theorem dX8_again_12 : decode cX8_again 12 = .ok (.ldc2_w 155, 3) := by decide +kernel
theorem dX8_again_15 : decode cX8_again 15 = .ok (.lreturn, 1) := by decide +kernel
theorem dX8_again_16 : decode cX8_again 16 = .ok (.aload_n 0, 1) := by decide +kernel
theorem dX8_again_17 : decode cX8_again 17 = .ok (.aload_n 0, 1) := by decide +kernel
theorem dX8_again_18 : decode cX8_again 18 = .ok (.getfield 114, 3) := by decide +kernel
theorem dX8_again_21 : decode cX8_again 21 = .ok (.invokevirtual 157, 3) := by decide +kernel
theorem dX8_again_24 : decode cX8_again 24 = .ok (.pop, 1) := by decide +kernel
theorem dX8_again_25 : decode cX8_again 25 = .ok (.aload_n 0, 1) := by decide +kernel
theorem dX8_again_26 : decode cX8_again 26 = .ok (.getfield 138, 3) := by decide +kernel
theorem dX8_again_29 : decode cX8_again 29 = .ok (.lconst 0, 1) := by decide +kernel
theorem dX8_again_30 : decode cX8_again 30 = .ok (.lcmp, 1) := by decide +kernel
theorem dX8_again_31 : decode cX8_again 31 = .ok (.ifCond .ne 7, 3) := by decide +kernel
theorem dX8_again_34 : decode cX8_again 34 = .ok (.ldc2_w 161, 3) := by decide +kernel
theorem dX8_again_37 : decode cX8_again 37 = .ok (.lreturn, 1) := by decide +kernel
theorem dX8_again_38 : decode cX8_again 38 = .ok (.ldc2_w 167, 3) := by decide +kernel
theorem dX8_again_41 : decode cX8_again 41 = .ok (.aload_n 0, 1) := by decide +kernel
theorem dX8_again_42 : decode cX8_again 42 = .ok (.getfield 7, 3) := by decide +kernel
theorem dX8_again_45 : decode cX8_again 45 = .ok (.iconst 2, 1) := by decide +kernel
theorem dX8_again_46 : decode cX8_again 46 = .ok (.iaload, 1) := by decide +kernel
theorem dX8_again_47 : decode cX8_again 47 = .ok (.i2l, 1) := by decide +kernel
theorem dX8_again_48 : decode cX8_again 48 = .ok (.lmul, 1) := by decide +kernel
theorem dX8_again_49 : decode cX8_again 49 = .ok (.aload_n 0, 1) := by decide +kernel
theorem dX8_again_50 : decode cX8_again 50 = .ok (.getfield 138, 3) := by decide +kernel
theorem dX8_again_53 : decode cX8_again 53 = .ok (.aload_n 0, 1) := by decide +kernel
theorem dX8_again_54 : decode cX8_again 54 = .ok (.getfield 34, 3) := by decide +kernel
theorem dX8_again_57 : decode cX8_again 57 = .ok (.iconst 0, 1) := by decide +kernel
theorem dX8_again_58 : decode cX8_again 58 = .ok (.laload, 1) := by decide +kernel
theorem dX8_again_59 : decode cX8_again 59 = .ok (.lsub, 1) := by decide +kernel
theorem dX8_again_60 : decode cX8_again 60 = .ok (.lmul, 1) := by decide +kernel
theorem dX8_again_61 : decode cX8_again 61 = .ok (.lstore_n 2, 1) := by decide +kernel
theorem dX8_again_62 : decode cX8_again 62 = .ok (.ldc2_w 167, 3) := by decide +kernel
theorem dX8_again_65 : decode cX8_again 65 = .ok (.aload_n 0, 1) := by decide +kernel
theorem dX8_again_66 : decode cX8_again 66 = .ok (.getfield 7, 3) := by decide +kernel
theorem dX8_again_69 : decode cX8_again 69 = .ok (.iconst 3, 1) := by decide +kernel
theorem dX8_again_70 : decode cX8_again 70 = .ok (.iaload, 1) := by decide +kernel
theorem dX8_again_71 : decode cX8_again 71 = .ok (.i2l, 1) := by decide +kernel
theorem dX8_again_72 : decode cX8_again 72 = .ok (.lmul, 1) := by decide +kernel
theorem dX8_again_73 : decode cX8_again 73 = .ok (.aload_n 0, 1) := by decide +kernel
theorem dX8_again_74 : decode cX8_again 74 = .ok (.getfield 34, 3) := by decide +kernel
theorem dX8_again_77 : decode cX8_again 77 = .ok (.iconst 0, 1) := by decide +kernel
theorem dX8_again_78 : decode cX8_again 78 = .ok (.laload, 1) := by decide +kernel
theorem dX8_again_79 : decode cX8_again 79 = .ok (.lmul, 1) := by decide +kernel
theorem dX8_again_80 : decode cX8_again 80 = .ok (.lstore 4, 2) := by decide +kernel
theorem dX8_again_82 : decode cX8_again 82 = .ok (.lload_n 2, 1) := by decide +kernel
theorem dX8_again_83 : decode cX8_again 83 = .ok (.lload 4, 2) := by decide +kernel
theorem dX8_again_85 : decode cX8_again 85 = .ok (.lcmp, 1) := by decide +kernel
theorem dX8_again_86 : decode cX8_again 86 = .ok (.ifCond .ge 7, 3) := by decide +kernel
theorem dX8_again_89 : decode cX8_again 89 = .ok (.lload_n 2, 1) := by decide +kernel
theorem dX8_again_90 : decode cX8_again 90 = .ok (.goto 5, 3) := by decide +kernel
theorem dX8_again_93 : decode cX8_again 93 = .ok (.lload 4, 2) := by decide +kernel
theorem dX8_again_95 : decode cX8_again 95 = .ok (.lstore 6, 2) := by decide +kernel
theorem dX8_again_97 : decode cX8_again 97 = .ok (.bipush (-4), 2) := by decide +kernel
theorem dX8_again_99 : decode cX8_again 99 = .ok (.istore 8, 2) := by decide +kernel
theorem dX8_again_101 : decode cX8_again 101 = .ok (.iconst 0, 1) := by decide +kernel
theorem dX8_again_102 : decode cX8_again 102 = .ok (.istore 9, 2) := by decide +kernel
theorem dX8_again_104 : decode cX8_again 104 = .ok (.iload 9, 2) := by decide +kernel
theorem dX8_again_106 : decode cX8_again 106 = .ok (.iconst 4, 1) := by decide +kernel
theorem dX8_again_107 : decode cX8_again 107 = .ok (.if_icmp .ge 51, 3) := by decide +kernel
theorem dX8_again_110 : decode cX8_again 110 = .ok (.aload_n 0, 1) := by decide +kernel
theorem dX8_again_111 : decode cX8_again 111 = .ok (.iload 9, 2) := by decide +kernel
theorem dX8_again_113 : decode cX8_again 113 = .ok (.invokevirtual 169, 3) := by decide +kernel
theorem dX8_again_116 : decode cX8_again 116 = .ok (.lstore 10, 2) := by decide +kernel
theorem dX8_again_118 : decode cX8_again 118 = .ok (.lload 10, 2) := by decide +kernel
theorem dX8_again_120 : decode cX8_again 120 = .ok (.lload 6, 2) := by decide +kernel
theorem dX8_again_122 : decode cX8_again 122 = .ok (.lcmp, 1) := by decide +kernel
theorem dX8_again_123 : decode cX8_again 123 = .ok (.ifCond .ge 8, 3) := by decide +kernel
theorem dX8_again_126 : decode cX8_again 126 = .ok (.iload 9, 2) := by decide +kernel
theorem dX8_again_128 : decode cX8_again 128 = .ok (.goto 5, 3) := by decide +kernel
theorem dX8_again_131 : decode cX8_again 131 = .ok (.iload 8, 2) := by decide +kernel
theorem dX8_again_133 : decode cX8_again 133 = .ok (.istore 8, 2) := by decide +kernel
theorem dX8_again_135 : decode cX8_again 135 = .ok (.lload 10, 2) := by decide +kernel
theorem dX8_again_137 : decode cX8_again 137 = .ok (.lload 6, 2) := by decide +kernel
theorem dX8_again_139 : decode cX8_again 139 = .ok (.lcmp, 1) := by decide +kernel
theorem dX8_again_140 : decode cX8_again 140 = .ok (.ifCond .ge 8, 3) := by decide +kernel
theorem dX8_again_143 : decode cX8_again 143 = .ok (.lload 10, 2) := by decide +kernel
theorem dX8_again_145 : decode cX8_again 145 = .ok (.goto 5, 3) := by decide +kernel
theorem dX8_again_148 : decode cX8_again 148 = .ok (.lload 6, 2) := by decide +kernel
theorem dX8_again_150 : decode cX8_again 150 = .ok (.lstore 6, 2) := by decide +kernel
theorem dX8_again_152 : decode cX8_again 152 = .ok (.iinc 9 1, 3) := by decide +kernel
theorem dX8_again_155 : decode cX8_again 155 = .ok (.goto (-51), 3) := by decide +kernel
theorem dX8_again_158 : decode cX8_again 158 = .ok (.iload_n 1, 1) := by decide +kernel
theorem dX8_again_159 : decode cX8_again 159 = .ok (.ifCond .ne 9, 3) := by decide +kernel
theorem dX8_again_162 : decode cX8_again 162 = .ok (.iload 8, 2) := by decide +kernel
theorem dX8_again_164 : decode cX8_again 164 = .ok (.i2l, 1) := by decide +kernel
theorem dX8_again_165 : decode cX8_again 165 = .ok (.goto 19, 3) := by decide +kernel
theorem dX8_again_168 : decode cX8_again 168 = .ok (.lload 6, 2) := by decide +kernel
theorem dX8_again_170 : decode cX8_again 170 = .ok (.ldc2_w 167, 3) := by decide +kernel
theorem dX8_again_173 : decode cX8_again 173 = .ok (.aload_n 0, 1) := by decide +kernel
theorem dX8_again_174 : decode cX8_again 174 = .ok (.getfield 138, 3) := by decide +kernel
theorem dX8_again_177 : decode cX8_again 177 = .ok (.lmul, 1) := by decide +kernel
theorem dX8_again_178 : decode cX8_again 178 = .ok (.iload_n 1, 1) := by decide +kernel
theorem dX8_again_179 : decode cX8_again 179 = .ok (.iconst 1, 1) := by decide +kernel
theorem dX8_again_180 : decode cX8_again 180 = .ok (.isub, 1) := by decide +kernel
theorem dX8_again_181 : decode cX8_again 181 = .ok (.invokestatic 163, 3) := by decide +kernel
theorem dX8_again_184 : decode cX8_again 184 = .ok (.lreturn, 1) := by decide +kernel
set_option maxRecDepth 20000 in
theorem ggX8_far_X8_in : GoodIn wsX8_far wsX8_in := goodIn_r _ [14] (by decide +kernel) (by decide +kernel)
set_option maxRecDepth 20000 in
theorem gX8_far_X8_in : GoodIn wsX8_far (va_wsS RX8 63 yX8_in wsX8_in) := goodIn_app (goodIn_of _ (by decide +kernel)) ggX8_far_X8_in
set_option maxRecDepth 20000 in
theorem ggX8_far_X8_goes : GoodIn wsX8_far wsX8_goes := goodIn_r _ [18, 8, 4, 9, 19, 20, 21, 22, 13, 23, 7, 24, 25, 26, 27, 28, 29, 30, 31, 32, 33, 34, 35, 36, 37, 38, 39, 40, 48, 49, 50, 51, 52, 53, 54, 55, 56, 57, 58, 59, 60, 61, 62, 63, 64, 65, 66, 67, 68, 69] (by decide +kernel) (by decide +kernel)
set_option maxRecDepth 20000 in
theorem gX8_far_X8_goes : GoodIn wsX8_far (wsV RX8 157 RX8 yX8_goes wsX8_goes) := goodIn_app (goodIn_of _ (by decide +kernel)) ggX8_far_X8_goes
set_option maxRecDepth 20000 in
theorem ggX8_far_X8_m : GoodIn wsX8_far wsX8_m := goodIn_r _ [44, 7, 48, 49, 50, 51, 52, 53, 54, 55, 56, 57, 58, 59, 60, 61, 62, 63, 64, 65, 66, 67, 68, 69] (by decide +kernel) (by decide +kernel)
set_option maxRecDepth 20000 in
theorem gX8_far_X8_m : GoodIn wsX8_far (wsV RX8 173 RX8 yX8_m wsX8_m) := goodIn_app (goodIn_of _ (by decide +kernel)) ggX8_far_X8_m
set_option maxRecDepth 20000 in
theorem ggX8_far_X8_part : GoodIn wsX8_far wsX8_part := goodIn_r _ [47, 28, 29, 13, 30] (by decide +kernel) (by decide +kernel)
set_option maxRecDepth 20000 in
theorem gX8_far_X8_part : GoodIn wsX8_far (va_wsS RX8 163 yX8_part wsX8_part) := goodIn_app (goodIn_of _ (by decide +kernel)) ggX8_far_X8_part
theorem dX8_far_0 : decode cX8_far 0 = .ok (.iload_n 1, 1) := by decide +kernel
theorem dX8_far_1 : decode cX8_far 1 = .ok (.i2l, 1) := by decide +kernel
theorem dX8_far_2 : decode cX8_far 2 = .ok (.lconst 0, 1) := by decide +kernel
theorem dX8_far_3 : decode cX8_far 3 = .ok (.ldc2_w 82, 3) := by decide +kernel
theorem dX8_far_6 : decode cX8_far 6 = .ok (.invokestatic 63, 3) := by decide +kernel
theorem dX8_far_9 : decode cX8_far 9 = .ok (.ifCond .ne 7, 3) := by decide +kernel
theorem dX8_far_12 : decode cX8_far 12 = .ok (.ldc2_w 155, 3) := by decide +kernel
theorem dX8_far_15 : decode cX8_far 15 = .ok (.lreturn, 1) := by decide +kernel
theorem dX8_far_16 : decode cX8_far 16 = .ok (.aload_n 0, 1) := by decide +kernel
theorem dX8_far_17 : decode cX8_far 17 = .ok (.aload_n 0, 1) := by decide +kernel
theorem dX8_far_18 : decode cX8_far 18 = .ok (.getfield 114, 3) := by decide +kernel
theorem dX8_far_21 : decode cX8_far 21 = .ok (.invokevirtual 157, 3) := by decide +kernel
theorem dX8_far_24 : decode cX8_far 24 = .ok (.pop, 1) := by decide +kernel
theorem dX8_far_25 : decode cX8_far 25 = .ok (.aload_n 0, 1) := by decide +kernel
theorem dX8_far_26 : decode cX8_far 26 = .ok (.getfield 138, 3) := by decide +kernel
theorem dX8_far_29 : decode cX8_far 29 = .ok (.lconst 0, 1) := by decide +kernel
theorem dX8_far_30 : decode cX8_far 30 = .ok (.lcmp, 1) := by decide +kernel
theorem dX8_far_31 : decode cX8_far 31 = .ok (.ifCond .ne 7, 3) := by decide +kernel
theorem dX8_far_34 : decode cX8_far 34 = .ok (.ldc2_w 161, 3) := by decide +kernel
theorem dX8_far_37 : decode cX8_far 37 = .ok (.lreturn, 1) := by decide +kernel
theorem dX8_far_38 : decode cX8_far 38 = .ok (.iconst 0, 1) := by decide +kernel
theorem dX8_far_39 : decode cX8_far 39 = .ok (.istore_n 2, 1) := by decide +kernel
theorem dX8_far_40 : decode cX8_far 40 = .ok (.ldc2_w 167, 3) := by decide +kernel
theorem dX8_far_43 : decode cX8_far 43 = .ok (.aload_n 0, 1) := by decide +kernel
theorem dX8_far_44 : decode cX8_far 44 = .ok (.getfield 7, 3) := by decide +kernel
theorem dX8_far_47 : decode cX8_far 47 = .ok (.iconst 2, 1) := by decide +kernel
theorem dX8_far_48 : decode cX8_far 48 = .ok (.iaload, 1) := by decide +kernel
theorem dX8_far_49 : decode cX8_far 49 = .ok (.i2l, 1) := by decide +kernel
theorem dX8_far_50 : decode cX8_far 50 = .ok (.lmul, 1) := by decide +kernel
theorem dX8_far_51 : decode cX8_far 51 = .ok (.aload_n 0, 1) := by decide +kernel
theorem dX8_far_52 : decode cX8_far 52 = .ok (.getfield 138, 3) := by decide +kernel
theorem dX8_far_55 : decode cX8_far 55 = .ok (.aload_n 0, 1) := by decide +kernel
theorem dX8_far_56 : decode cX8_far 56 = .ok (.getfield 34, 3) := by decide +kernel
theorem dX8_far_59 : decode cX8_far 59 = .ok (.iconst 0, 1) := by decide +kernel
theorem dX8_far_60 : decode cX8_far 60 = .ok (.laload, 1) := by decide +kernel
theorem dX8_far_61 : decode cX8_far 61 = .ok (.lsub, 1) := by decide +kernel
theorem dX8_far_62 : decode cX8_far 62 = .ok (.lmul, 1) := by decide +kernel
theorem dX8_far_63 : decode cX8_far 63 = .ok (.lstore_n 3, 1) := by decide +kernel
theorem dX8_far_64 : decode cX8_far 64 = .ok (.lconst 0, 1) := by decide +kernel
theorem dX8_far_65 : decode cX8_far 65 = .ok (.lstore 5, 2) := by decide +kernel
theorem dX8_far_67 : decode cX8_far 67 = .ok (.lconst 0, 1) := by decide +kernel
theorem dX8_far_68 : decode cX8_far 68 = .ok (.lstore 7, 2) := by decide +kernel
theorem dX8_far_70 : decode cX8_far 70 = .ok (.iconst 1, 1) := by decide +kernel
theorem dX8_far_71 : decode cX8_far 71 = .ok (.istore 9, 2) := by decide +kernel
theorem dX8_far_73 : decode cX8_far 73 = .ok (.iload 9, 2) := by decide +kernel
theorem dX8_far_75 : decode cX8_far 75 = .ok (.aload_n 0, 1) := by decide +kernel
theorem dX8_far_76 : decode cX8_far 76 = .ok (.getfield 111, 3) := by decide +kernel
theorem dX8_far_79 : decode cX8_far 79 = .ok (.if_icmp .gt 120, 3) := by decide +kernel
theorem dX8_far_82 : decode cX8_far 82 = .ok (.aload_n 0, 1) := by decide +kernel
theorem dX8_far_83 : decode cX8_far 83 = .ok (.getfield 111, 3) := by decide +kernel
theorem dX8_far_86 : decode cX8_far 86 = .ok (.iconst 1, 1) := by decide +kernel
theorem dX8_far_87 : decode cX8_far 87 = .ok (.iadd, 1) := by decide +kernel
theorem dX8_far_88 : decode cX8_far 88 = .ok (.iload 9, 2) := by decide +kernel
theorem dX8_far_90 : decode cX8_far 90 = .ok (.isub, 1) := by decide +kernel
theorem dX8_far_91 : decode cX8_far 91 = .ok (.istore 10, 2) := by decide +kernel
theorem dX8_far_93 : decode cX8_far 93 = .ok (.lload 5, 2) := by decide +kernel
theorem dX8_far_95 : decode cX8_far 95 = .ok (.aload_n 0, 1) := by decide +kernel
theorem dX8_far_96 : decode cX8_far 96 = .ok (.getfield 34, 3) := by decide +kernel
theorem dX8_far_99 : decode cX8_far 99 = .ok (.iload 10, 2) := by decide +kernel
theorem dX8_far_101 : decode cX8_far 101 = .ok (.laload, 1) := by decide +kernel
theorem dX8_far_102 : decode cX8_far 102 = .ok (.ladd, 1) := by decide +kernel
theorem dX8_far_103 : decode cX8_far 103 = .ok (.lstore 5, 2) := by decide +kernel
theorem dX8_far_105 : decode cX8_far 105 = .ok (.lload 7, 2) := by decide +kernel
theorem dX8_far_107 : decode cX8_far 107 = .ok (.aload_n 0, 1) := by decide +kernel
theorem dX8_far_108 : decode cX8_far 108 = .ok (.iload 10, 2) := by decide +kernel
theorem dX8_far_110 : decode cX8_far 110 = .ok (.invokevirtual 173, 3) := by decide +kernel
theorem dX8_far_113 : decode cX8_far 113 = .ok (.i2l, 1) := by decide +kernel
theorem dX8_far_114 : decode cX8_far 114 = .ok (.ladd, 1) := by decide +kernel
theorem dX8_far_115 : decode cX8_far 115 = .ok (.lstore 7, 2) := by decide +kernel
theorem dX8_far_117 : decode cX8_far 117 = .ok (.ldc2_w 176, 3) := by decide +kernel
theorem dX8_far_120 : decode cX8_far 120 = .ok (.aload_n 0, 1) := by decide +kernel
theorem dX8_far_121 : decode cX8_far 121 = .ok (.getfield 138, 3) := by decide +kernel
theorem dX8_far_124 : decode cX8_far 124 = .ok (.lmul, 1) := by decide +kernel
theorem dX8_far_125 : decode cX8_far 125 = .ok (.lload 7, 2) := by decide +kernel
theorem dX8_far_127 : decode cX8_far 127 = .ok (.lmul, 1) := by decide +kernel
theorem dX8_far_128 : decode cX8_far 128 = .ok (.aload_n 0, 1) := by decide +kernel
theorem dX8_far_129 : decode cX8_far 129 = .ok (.getfield 7, 3) := by decide +kernel
theorem dX8_far_132 : decode cX8_far 132 = .ok (.iconst 2, 1) := by decide +kernel
theorem dX8_far_133 : decode cX8_far 133 = .ok (.iaload, 1) := by decide +kernel
theorem dX8_far_134 : decode cX8_far 134 = .ok (.i2l, 1) := by decide +kernel
theorem dX8_far_135 : decode cX8_far 135 = .ok (.ldc2_w 167, 3) := by decide +kernel
theorem dX8_far_138 : decode cX8_far 138 = .ok (.aload_n 0, 1) := by decide +kernel
theorem dX8_far_139 : decode cX8_far 139 = .ok (.getfield 138, 3) := by decide +kernel
theorem dX8_far_142 : decode cX8_far 142 = .ok (.aload_n 0, 1) := by decide +kernel
theorem dX8_far_143 : decode cX8_far 143 = .ok (.getfield 34, 3) := by decide +kernel
theorem dX8_far_146 : decode cX8_far 146 = .ok (.iconst 0, 1) := by decide +kernel
theorem dX8_far_147 : decode cX8_far 147 = .ok (.laload, 1) := by decide +kernel
theorem dX8_far_148 : decode cX8_far 148 = .ok (.lsub, 1) := by decide +kernel
theorem dX8_far_149 : decode cX8_far 149 = .ok (.lmul, 1) := by decide +kernel
theorem dX8_far_150 : decode cX8_far 150 = .ok (.aload_n 0, 1) := by decide +kernel
theorem dX8_far_151 : decode cX8_far 151 = .ok (.getfield 7, 3) := by decide +kernel
theorem dX8_far_154 : decode cX8_far 154 = .ok (.iconst 4, 1) := by decide +kernel
theorem dX8_far_155 : decode cX8_far 155 = .ok (.iaload, 1) := by decide +kernel
theorem dX8_far_156 : decode cX8_far 156 = .ok (.i2l, 1) := by decide +kernel
theorem dX8_far_157 : decode cX8_far 157 = .ok (.lload 5, 2) := by decide +kernel
theorem dX8_far_159 : decode cX8_far 159 = .ok (.lmul, 1) := by decide +kernel
theorem dX8_far_160 : decode cX8_far 160 = .ok (.lsub, 1) := by decide +kernel
theorem dX8_far_161 : decode cX8_far 161 = .ok (.lmul, 1) := by decide +kernel
theorem dX8_far_162 : decode cX8_far 162 = .ok (.ladd, 1) := by decide +kernel
theorem dX8_far_163 : decode cX8_far 163 = .ok (.lstore 11, 2) := by decide +kernel
theorem dX8_far_165 : decode cX8_far 165 = .ok (.lload 11, 2) := by decide +kernel
theorem dX8_far_167 : decode cX8_far 167 = .ok (.lload_n 3, 1) := by decide +kernel
theorem dX8_far_168 : decode cX8_far 168 = .ok (.lcmp, 1) := by decide +kernel
theorem dX8_far_169 : decode cX8_far 169 = .ok (.ifCond .ge 8, 3) := by decide +kernel
theorem dX8_far_172 : decode cX8_far 172 = .ok (.iload 9, 2) := by decide +kernel
theorem dX8_far_174 : decode cX8_far 174 = .ok (.goto 4, 3) := by decide +kernel
theorem dX8_far_177 : decode cX8_far 177 = .ok (.iload_n 2, 1) := by decide +kernel
theorem dX8_far_178 : decode cX8_far 178 = .ok (.istore_n 2, 1) := by decide +kernel
theorem dX8_far_179 : decode cX8_far 179 = .ok (.lload 11, 2) := by decide +kernel
theorem dX8_far_181 : decode cX8_far 181 = .ok (.lload_n 3, 1) := by decide +kernel
theorem dX8_far_182 : decode cX8_far 182 = .ok (.lcmp, 1) := by decide +kernel
theorem dX8_far_183 : decode cX8_far 183 = .ok (.ifCond .ge 8, 3) := by decide +kernel
theorem dX8_far_186 : decode cX8_far 186 = .ok (.lload 11, 2) := by decide +kernel
theorem dX8_far_188 : decode cX8_far 188 = .ok (.goto 4, 3) := by decide +kernel
theorem dX8_far_191 : decode cX8_far 191 = .ok (.lload_n 3, 1) := by decide +kernel
theorem dX8_far_192 : decode cX8_far 192 = .ok (.lstore_n 3, 1) := by decide +kernel
theorem dX8_far_193 : decode cX8_far 193 = .ok (.iinc 9 1, 3) := by decide +kernel
theorem dX8_far_196 : decode cX8_far 196 = .ok (.goto (-123), 3) := by decide +kernel
theorem dX8_far_199 : decode cX8_far 199 = .ok (.iload_n 1, 1) := by decide +kernel
theorem dX8_far_200 : decode cX8_far 200 = .ok (.ifCond .ne 8, 3) := by decide +kernel
theorem dX8_far_203 : decode cX8_far 203 = .ok (.iload_n 2, 1) := by decide +kernel
theorem dX8_far_204 : decode cX8_far 204 = .ok (.i2l, 1) := by decide +kernel
theorem dX8_far_205 : decode cX8_far 205 = .ok (.goto 18, 3) := by decide +kernel
theorem dX8_far_208 : decode cX8_far 208 = .ok (.lload_n 3, 1) := by decide +kernel
theorem dX8_far_209 : decode cX8_far 209 = .ok (.ldc2_w 167, 3) := by decide +kernel
theorem dX8_far_212 : decode cX8_far 212 = .ok (.aload_n 0, 1) := by decide +kernel
theorem dX8_far_213 : decode cX8_far 213 = .ok (.getfield 138, 3) := by decide +kernel
theorem dX8_far_216 : decode cX8_far 216 = .ok (.lmul, 1) := by decide +kernel
theorem dX8_far_217 : decode cX8_far 217 = .ok (.iload_n 1, 1) := by decide +kernel
theorem dX8_far_218 : decode cX8_far 218 = .ok (.iconst 1, 1) := by decide +kernel
theorem dX8_far_219 : decode cX8_far 219 = .ok (.isub, 1) := by decide +kernel
theorem dX8_far_220 : decode cX8_far 220 = .ok (.invokestatic 163, 3) := by decide +kernel
theorem dX8_far_223 : decode cX8_far 223 = .ok (.lreturn, 1) := by decide +kernel
set_option maxRecDepth 20000 in
theorem ggX8_plans_X8_m : GoodIn wsX8_plans wsX8_m := goodIn_r _ [12, 6, 13, 14, 15, 16, 17, 18, 19, 20, 21, 22, 23, 24, 25, 26, 27, 28, 29, 30, 31, 32, 33, 34] (by decide +kernel) (by decide +kernel)
set_option maxRecDepth 20000 in
theorem gX8_plans_X8_m : GoodIn wsX8_plans (wsV RX8 173 RX8 yX8_m wsX8_m) := goodIn_app (goodIn_of _ (by decide +kernel)) ggX8_plans_X8_m
theorem dX8_plans_0 : decode cX8_plans 0 = .ok (.aload_n 0, 1) := by decide +kernel
theorem dX8_plans_1 : decode cX8_plans 1 = .ok (.getfield 34, 3) := by decide +kernel
theorem dX8_plans_4 : decode cX8_plans 4 = .ok (.iconst 0, 1) := by decide +kernel
theorem dX8_plans_5 : decode cX8_plans 5 = .ok (.laload, 1) := by decide +kernel
theorem dX8_plans_6 : decode cX8_plans 6 = .ok (.lstore_n 2, 1) := by decide +kernel
theorem dX8_plans_7 : decode cX8_plans 7 = .ok (.aload_n 0, 1) := by decide +kernel
theorem dX8_plans_8 : decode cX8_plans 8 = .ok (.getfield 138, 3) := by decide +kernel
theorem dX8_plans_11 : decode cX8_plans 11 = .ok (.aload_n 0, 1) := by decide +kernel
theorem dX8_plans_12 : decode cX8_plans 12 = .ok (.getfield 34, 3) := by decide +kernel
theorem dX8_plans_15 : decode cX8_plans 15 = .ok (.iconst 0, 1) := by decide +kernel
theorem dX8_plans_16 : decode cX8_plans 16 = .ok (.laload, 1) := by decide +kernel
theorem dX8_plans_17 : decode cX8_plans 17 = .ok (.lsub, 1) := by decide +kernel
theorem dX8_plans_18 : decode cX8_plans 18 = .ok (.lstore 4, 2) := by decide +kernel
theorem dX8_plans_20 : decode cX8_plans 20 = .ok (.aload_n 0, 1) := by decide +kernel
theorem dX8_plans_21 : decode cX8_plans 21 = .ok (.lconst 0, 1) := by decide +kernel
theorem dX8_plans_22 : decode cX8_plans 22 = .ok (.putfield 178, 3) := by decide +kernel
theorem dX8_plans_25 : decode cX8_plans 25 = .ok (.aload_n 0, 1) := by decide +kernel
theorem dX8_plans_26 : decode cX8_plans 26 = .ok (.aload_n 0, 1) := by decide +kernel
theorem dX8_plans_27 : decode cX8_plans 27 = .ok (.getfield 138, 3) := by decide +kernel
theorem dX8_plans_30 : decode cX8_plans 30 = .ok (.putfield 181, 3) := by decide +kernel
theorem dX8_plans_33 : decode cX8_plans 33 = .ok (.aload_n 0, 1) := by decide +kernel
theorem dX8_plans_34 : decode cX8_plans 34 = .ok (.getfield 111, 3) := by decide +kernel
theorem dX8_plans_37 : decode cX8_plans 37 = .ok (.iconst 1, 1) := by decide +kernel
theorem dX8_plans_38 : decode cX8_plans 38 = .ok (.iadd, 1) := by decide +kernel
theorem dX8_plans_39 : decode cX8_plans 39 = .ok (.istore 6, 2) := by decide +kernel
theorem dX8_plans_41 : decode cX8_plans 41 = .ok (.iload 6, 2) := by decide +kernel
theorem dX8_plans_43 : decode cX8_plans 43 = .ok (.aload_n 0, 1) := by decide +kernel
theorem dX8_plans_44 : decode cX8_plans 44 = .ok (.getfield 7, 3) := by decide +kernel
theorem dX8_plans_47 : decode cX8_plans 47 = .ok (.iconst 0, 1) := by decide +kernel
theorem dX8_plans_48 : decode cX8_plans 48 = .ok (.iaload, 1) := by decide +kernel
theorem dX8_plans_49 : decode cX8_plans 49 = .ok (.if_icmp .gt 127, 3) := by decide +kernel
theorem dX8_plans_52 : decode cX8_plans 52 = .ok (.aload_n 0, 1) := by decide +kernel
theorem dX8_plans_53 : decode cX8_plans 53 = .ok (.getfield 7, 3) := by decide +kernel
theorem dX8_plans_56 : decode cX8_plans 56 = .ok (.iconst 3, 1) := by decide +kernel
theorem dX8_plans_57 : decode cX8_plans 57 = .ok (.iconst 3, 1) := by decide +kernel
theorem dX8_plans_58 : decode cX8_plans 58 = .ok (.iload 6, 2) := by decide +kernel
theorem dX8_plans_60 : decode cX8_plans 60 = .ok (.imul, 1) := by decide +kernel
theorem dX8_plans_61 : decode cX8_plans 61 = .ok (.iadd, 1) := by decide +kernel
theorem dX8_plans_62 : decode cX8_plans 62 = .ok (.iaload, 1) := by decide +kernel
theorem dX8_plans_63 : decode cX8_plans 63 = .ok (.istore 7, 2) := by decide +kernel
theorem dX8_plans_65 : decode cX8_plans 65 = .ok (.aload_n 0, 1) := by decide +kernel
theorem dX8_plans_66 : decode cX8_plans 66 = .ok (.getfield 7, 3) := by decide +kernel
theorem dX8_plans_69 : decode cX8_plans 69 = .ok (.iconst 4, 1) := by decide +kernel
theorem dX8_plans_70 : decode cX8_plans 70 = .ok (.iconst 3, 1) := by decide +kernel
theorem dX8_plans_71 : decode cX8_plans 71 = .ok (.iload 6, 2) := by decide +kernel
theorem dX8_plans_73 : decode cX8_plans 73 = .ok (.imul, 1) := by decide +kernel
theorem dX8_plans_74 : decode cX8_plans 74 = .ok (.iadd, 1) := by decide +kernel
theorem dX8_plans_75 : decode cX8_plans 75 = .ok (.iaload, 1) := by decide +kernel
theorem dX8_plans_76 : decode cX8_plans 76 = .ok (.istore 8, 2) := by decide +kernel
theorem dX8_plans_78 : decode cX8_plans 78 = .ok (.lload_n 2, 1) := by decide +kernel
theorem dX8_plans_79 : decode cX8_plans 79 = .ok (.bipush 10, 2) := by decide +kernel
theorem dX8_plans_81 : decode cX8_plans 81 = .ok (.iload 7, 2) := by decide +kernel
theorem dX8_plans_83 : decode cX8_plans 83 = .ok (.isub, 1) := by decide +kernel
theorem dX8_plans_84 : decode cX8_plans 84 = .ok (.i2l, 1) := by decide +kernel
theorem dX8_plans_85 : decode cX8_plans 85 = .ok (.lmul, 1) := by decide +kernel
theorem dX8_plans_86 : decode cX8_plans 86 = .ok (.lload 4, 2) := by decide +kernel
theorem dX8_plans_88 : decode cX8_plans 88 = .ok (.iload 8, 2) := by decide +kernel
theorem dX8_plans_90 : decode cX8_plans 90 = .ok (.i2l, 1) := by decide +kernel
theorem dX8_plans_91 : decode cX8_plans 91 = .ok (.lmul, 1) := by decide +kernel
theorem dX8_plans_92 : decode cX8_plans 92 = .ok (.ladd, 1) := by decide +kernel
theorem dX8_plans_93 : decode cX8_plans 93 = .ok (.lstore 9, 2) := by decide +kernel
theorem dX8_plans_95 : decode cX8_plans 95 = .ok (.lload_n 2, 1) := by decide +kernel
theorem dX8_plans_96 : decode cX8_plans 96 = .ok (.iload 7, 2) := by decide +kernel
theorem dX8_plans_98 : decode cX8_plans 98 = .ok (.i2l, 1) := by decide +kernel
theorem dX8_plans_99 : decode cX8_plans 99 = .ok (.lmul, 1) := by decide +kernel
theorem dX8_plans_100 : decode cX8_plans 100 = .ok (.lload 4, 2) := by decide +kernel
theorem dX8_plans_102 : decode cX8_plans 102 = .ok (.bipush 10, 2) := by decide +kernel
theorem dX8_plans_104 : decode cX8_plans 104 = .ok (.iload 8, 2) := by decide +kernel
theorem dX8_plans_106 : decode cX8_plans 106 = .ok (.isub, 1) := by decide +kernel
theorem dX8_plans_107 : decode cX8_plans 107 = .ok (.i2l, 1) := by decide +kernel
theorem dX8_plans_108 : decode cX8_plans 108 = .ok (.lmul, 1) := by decide +kernel
theorem dX8_plans_109 : decode cX8_plans 109 = .ok (.ladd, 1) := by decide +kernel
theorem dX8_plans_110 : decode cX8_plans 110 = .ok (.lstore 4, 2) := by decide +kernel
theorem dX8_plans_112 : decode cX8_plans 112 = .ok (.lload 9, 2) := by decide +kernel
theorem dX8_plans_114 : decode cX8_plans 114 = .ok (.lstore_n 2, 1) := by decide +kernel
theorem dX8_plans_115 : decode cX8_plans 115 = .ok (.aload_n 0, 1) := by decide +kernel
theorem dX8_plans_116 : decode cX8_plans 116 = .ok (.dup, 1) := by decide +kernel
theorem dX8_plans_117 : decode cX8_plans 117 = .ok (.getfield 181, 3) := by decide +kernel
theorem dX8_plans_120 : decode cX8_plans 120 = .ok (.ldc2_w 167, 3) := by decide +kernel
theorem dX8_plans_123 : decode cX8_plans 123 = .ok (.lmul, 1) := by decide +kernel
theorem dX8_plans_124 : decode cX8_plans 124 = .ok (.putfield 181, 3) := by decide +kernel
theorem dX8_plans_127 : decode cX8_plans 127 = .ok (.aload_n 0, 1) := by decide +kernel
theorem dX8_plans_128 : decode cX8_plans 128 = .ok (.ldc2_w 167, 3) := by decide +kernel
theorem dX8_plans_131 : decode cX8_plans 131 = .ok (.aload_n 0, 1) := by decide +kernel
theorem dX8_plans_132 : decode cX8_plans 132 = .ok (.getfield 178, 3) := by decide +kernel
theorem dX8_plans_135 : decode cX8_plans 135 = .ok (.lmul, 1) := by decide +kernel
theorem dX8_plans_136 : decode cX8_plans 136 = .ok (.aload_n 0, 1) := by decide +kernel
theorem dX8_plans_137 : decode cX8_plans 137 = .ok (.iload 6, 2) := by decide +kernel
theorem dX8_plans_139 : decode cX8_plans 139 = .ok (.invokevirtual 173, 3) := by decide +kernel
theorem dX8_plans_142 : decode cX8_plans 142 = .ok (.i2l, 1) := by decide +kernel
theorem dX8_plans_143 : decode cX8_plans 143 = .ok (.lload 4, 2) := by decide +kernel
theorem dX8_plans_145 : decode cX8_plans 145 = .ok (.lmul, 1) := by decide +kernel
theorem dX8_plans_146 : decode cX8_plans 146 = .ok (.ladd, 1) := by decide +kernel
theorem dX8_plans_147 : decode cX8_plans 147 = .ok (.putfield 178, 3) := by decide +kernel
theorem dX8_plans_150 : decode cX8_plans 150 = .ok (.iload_n 1, 1) := by decide +kernel
theorem dX8_plans_151 : decode cX8_plans 151 = .ok (.iload 6, 2) := by decide +kernel
theorem dX8_plans_153 : decode cX8_plans 153 = .ok (.iconst 1, 1) := by decide +kernel
theorem dX8_plans_154 : decode cX8_plans 154 = .ok (.isub, 1) := by decide +kernel
theorem dX8_plans_155 : decode cX8_plans 155 = .ok (.ishr, 1) := by decide +kernel
theorem dX8_plans_156 : decode cX8_plans 156 = .ok (.iconst 1, 1) := by decide +kernel
theorem dX8_plans_157 : decode cX8_plans 157 = .ok (.iand, 1) := by decide +kernel
theorem dX8_plans_158 : decode cX8_plans 158 = .ok (.iconst 1, 1) := by decide +kernel
theorem dX8_plans_159 : decode cX8_plans 159 = .ok (.if_icmp .ne 11, 3) := by decide +kernel
theorem dX8_plans_162 : decode cX8_plans 162 = .ok (.lload_n 2, 1) := by decide +kernel
theorem dX8_plans_163 : decode cX8_plans 163 = .ok (.lload 4, 2) := by decide +kernel
theorem dX8_plans_165 : decode cX8_plans 165 = .ok (.ladd, 1) := by decide +kernel
theorem dX8_plans_166 : decode cX8_plans 166 = .ok (.lstore_n 2, 1) := by decide +kernel
theorem dX8_plans_167 : decode cX8_plans 167 = .ok (.lconst 0, 1) := by decide +kernel
theorem dX8_plans_168 : decode cX8_plans 168 = .ok (.lstore 4, 2) := by decide +kernel
theorem dX8_plans_170 : decode cX8_plans 170 = .ok (.iinc 6 1, 3) := by decide +kernel
theorem dX8_plans_173 : decode cX8_plans 173 = .ok (.goto (-132), 3) := by decide +kernel
theorem dX8_plans_176 : decode cX8_plans 176 = .ok (.return_, 1) := by decide +kernel
theorem dX8_bits_0 : decode cX8_bits 0 = .ok (.iconst 0, 1) := by decide +kernel
theorem dX8_bits_1 : decode cX8_bits 1 = .ok (.istore_n 1, 1) := by decide +kernel
theorem dX8_bits_2 : decode cX8_bits 2 = .ok (.iload_n 0, 1) := by decide +kernel
theorem dX8_bits_3 : decode cX8_bits 3 = .ok (.istore_n 2, 1) := by decide +kernel
theorem dX8_bits_4 : decode cX8_bits 4 = .ok (.iload_n 2, 1) := by decide +kernel
theorem dX8_bits_5 : decode cX8_bits 5 = .ok (.ifCond .eq 15, 3) := by decide +kernel
theorem dX8_bits_8 : decode cX8_bits 8 = .ok (.iinc 1 1, 3) := by decide +kernel
theorem dX8_bits_11 : decode cX8_bits 11 = .ok (.iload_n 2, 1) := by decide +kernel
theorem dX8_bits_12 : decode cX8_bits 12 = .ok (.iload_n 2, 1) := by decide +kernel
theorem dX8_bits_13 : decode cX8_bits 13 = .ok (.iconst 1, 1) := by decide +kernel
theorem dX8_bits_14 : decode cX8_bits 14 = .ok (.isub, 1) := by decide +kernel
theorem dX8_bits_15 : decode cX8_bits 15 = .ok (.iand, 1) := by decide +kernel
theorem dX8_bits_16 : decode cX8_bits 16 = .ok (.istore_n 2, 1) := by decide +kernel
theorem dX8_bits_17 : decode cX8_bits 17 = .ok (.goto (-13), 3) := by decide +kernel
theorem dX8_bits_20 : decode cX8_bits 20 = .ok (.iload_n 1, 1) := by decide +kernel
theorem dX8_bits_21 : decode cX8_bits 21 = .ok (.ireturn, 1) := by decide +kernel
set_option maxRecDepth 20000 in
theorem ggX8_plan_X8_in : GoodIn wsX8_plan wsX8_in := goodIn_r _ [14] (by decide +kernel) (by decide +kernel)
set_option maxRecDepth 20000 in
theorem gX8_plan_X8_in : GoodIn wsX8_plan (va_wsS RX8 63 yX8_in wsX8_in) := goodIn_app (goodIn_of _ (by decide +kernel)) ggX8_plan_X8_in
set_option maxRecDepth 20000 in
theorem ggX8_plan_X8_goes : GoodIn wsX8_plan wsX8_goes := goodIn_r _ [18, 19, 5, 8, 20, 21, 22, 23, 13, 24, 7, 25, 26, 27, 28, 29, 30, 31, 32, 33, 34, 35, 36, 37, 38, 39, 40, 41, 57, 58, 59, 60, 61, 62, 63, 64, 65, 66, 67, 68, 69, 70, 71, 72, 73, 74, 75, 76, 77, 78] (by decide +kernel) (by decide +kernel)
set_option maxRecDepth 20000 in
theorem gX8_plan_X8_goes : GoodIn wsX8_plan (wsV RX8 157 RX8 yX8_goes wsX8_goes) := goodIn_app (goodIn_of _ (by decide +kernel)) ggX8_plan_X8_goes
set_option maxRecDepth 20000 in
theorem ggX8_plan_X8_plans : GoodIn wsX8_plan wsX8_plans := goodIn_r _ [45, 19, 5, 9, 10, 8, 7, 46, 47, 48, 49, 13, 50, 57, 58, 59, 60, 61, 62, 63, 64, 65, 66, 67, 68, 69, 70, 71, 72, 73, 74, 75, 76, 77, 78] (by decide +kernel) (by decide +kernel)
set_option maxRecDepth 20000 in
theorem gX8_plan_X8_plans : GoodIn wsX8_plan (wsV RX8 186 RX8 yX8_plans wsX8_plans) := goodIn_app (goodIn_of _ (by decide +kernel)) ggX8_plan_X8_plans
set_option maxRecDepth 20000 in
theorem ggX8_plan_X8_bits : GoodIn wsX8_plan wsX8_bits := goodIn_r _ [53] (by decide +kernel) (by decide +kernel)
set_option maxRecDepth 20000 in
theorem gX8_plan_X8_bits : GoodIn wsX8_plan (va_wsS RX8 189 yX8_bits wsX8_bits) := goodIn_app (goodIn_of _ (by decide +kernel)) ggX8_plan_X8_bits
set_option maxRecDepth 20000 in
theorem ggX8_plan_X8_part : GoodIn wsX8_plan wsX8_part := goodIn_r _ [56, 29, 30, 13, 31] (by decide +kernel) (by decide +kernel)
set_option maxRecDepth 20000 in
theorem gX8_plan_X8_part : GoodIn wsX8_plan (va_wsS RX8 163 yX8_part wsX8_part) := goodIn_app (goodIn_of _ (by decide +kernel)) ggX8_plan_X8_part
theorem dX8_plan_0 : decode cX8_plan 0 = .ok (.iload_n 1, 1) := by decide +kernel
theorem dX8_plan_1 : decode cX8_plan 1 = .ok (.i2l, 1) := by decide +kernel
theorem dX8_plan_2 : decode cX8_plan 2 = .ok (.lconst 0, 1) := by decide +kernel
theorem dX8_plan_3 : decode cX8_plan 3 = .ok (.ldc2_w 184, 3) := by decide +kernel
theorem dX8_plan_6 : decode cX8_plan 6 = .ok (.invokestatic 63, 3) := by decide +kernel
theorem dX8_plan_9 : decode cX8_plan 9 = .ok (.ifCond .eq 15, 3) := by decide +kernel
theorem dX8_plan_12 : decode cX8_plan 12 = .ok (.iload_n 2, 1) := by decide +kernel
theorem dX8_plan_13 : decode cX8_plan 13 = .ok (.i2l, 1) := by decide +kernel
theorem dX8_plan_14 : decode cX8_plan 14 = .ok (.lconst 0, 1) := by decide +kernel
theorem dX8_plan_15 : decode cX8_plan 15 = .ok (.ldc2_w 82, 3) := by decide +kernel
theorem dX8_plan_18 : decode cX8_plan 18 = .ok (.invokestatic 63, 3) := by decide +kernel
theorem dX8_plan_21 : decode cX8_plan 21 = .ok (.ifCond .ne 7, 3) := by decide +kernel
theorem dX8_plan_24 : decode cX8_plan 24 = .ok (.ldc2_w 155, 3) := by decide +kernel
theorem dX8_plan_27 : decode cX8_plan 27 = .ok (.lreturn, 1) := by decide +kernel
theorem dX8_plan_28 : decode cX8_plan 28 = .ok (.aload_n 0, 1) := by decide +kernel
theorem dX8_plan_29 : decode cX8_plan 29 = .ok (.aload_n 0, 1) := by decide +kernel
theorem dX8_plan_30 : decode cX8_plan 30 = .ok (.getfield 114, 3) := by decide +kernel
theorem dX8_plan_33 : decode cX8_plan 33 = .ok (.invokevirtual 157, 3) := by decide +kernel
theorem dX8_plan_36 : decode cX8_plan 36 = .ok (.pop, 1) := by decide +kernel
theorem dX8_plan_37 : decode cX8_plan 37 = .ok (.aload_n 0, 1) := by decide +kernel
theorem dX8_plan_38 : decode cX8_plan 38 = .ok (.getfield 138, 3) := by decide +kernel
theorem dX8_plan_41 : decode cX8_plan 41 = .ok (.lconst 0, 1) := by decide +kernel
theorem dX8_plan_42 : decode cX8_plan 42 = .ok (.lcmp, 1) := by decide +kernel
theorem dX8_plan_43 : decode cX8_plan 43 = .ok (.ifCond .ne 7, 3) := by decide +kernel
theorem dX8_plan_46 : decode cX8_plan 46 = .ok (.ldc2_w 161, 3) := by decide +kernel
theorem dX8_plan_49 : decode cX8_plan 49 = .ok (.lreturn, 1) := by decide +kernel
theorem dX8_plan_50 : decode cX8_plan 50 = .ok (.iconst 1, 1) := by decide +kernel
theorem dX8_plan_51 : decode cX8_plan 51 = .ok (.aload_n 0, 1) := by decide +kernel
theorem dX8_plan_52 : decode cX8_plan 52 = .ok (.getfield 7, 3) := by decide +kernel
theorem dX8_plan_55 : decode cX8_plan 55 = .ok (.iconst 0, 1) := by decide +kernel
theorem dX8_plan_56 : decode cX8_plan 56 = .ok (.iaload, 1) := by decide +kernel
theorem dX8_plan_57 : decode cX8_plan 57 = .ok (.ishl, 1) := by decide +kernel
theorem dX8_plan_58 : decode cX8_plan 58 = .ok (.iconst 1, 1) := by decide +kernel
theorem dX8_plan_59 : decode cX8_plan 59 = .ok (.aload_n 0, 1) := by decide +kernel
theorem dX8_plan_60 : decode cX8_plan 60 = .ok (.getfield 111, 3) := by decide +kernel
theorem dX8_plan_63 : decode cX8_plan 63 = .ok (.ishl, 1) := by decide +kernel
theorem dX8_plan_64 : decode cX8_plan 64 = .ok (.isub, 1) := by decide +kernel
theorem dX8_plan_65 : decode cX8_plan 65 = .ok (.istore_n 3, 1) := by decide +kernel
theorem dX8_plan_66 : decode cX8_plan 66 = .ok (.iconst 0, 1) := by decide +kernel
theorem dX8_plan_67 : decode cX8_plan 67 = .ok (.istore 4, 2) := by decide +kernel
theorem dX8_plan_69 : decode cX8_plan 69 = .ok (.aload_n 0, 1) := by decide +kernel
theorem dX8_plan_70 : decode cX8_plan 70 = .ok (.iconst 0, 1) := by decide +kernel
theorem dX8_plan_71 : decode cX8_plan 71 = .ok (.invokevirtual 186, 3) := by decide +kernel
theorem dX8_plan_74 : decode cX8_plan 74 = .ok (.aload_n 0, 1) := by decide +kernel
theorem dX8_plan_75 : decode cX8_plan 75 = .ok (.getfield 178, 3) := by decide +kernel
theorem dX8_plan_78 : decode cX8_plan 78 = .ok (.lstore 5, 2) := by decide +kernel
theorem dX8_plan_80 : decode cX8_plan 80 = .ok (.iconst 1, 1) := by decide +kernel
theorem dX8_plan_81 : decode cX8_plan 81 = .ok (.istore 7, 2) := by decide +kernel
theorem dX8_plan_83 : decode cX8_plan 83 = .ok (.iload 7, 2) := by decide +kernel
theorem dX8_plan_85 : decode cX8_plan 85 = .ok (.iload_n 3, 1) := by decide +kernel
theorem dX8_plan_86 : decode cX8_plan 86 = .ok (.if_icmp .gt 81, 3) := by decide +kernel
theorem dX8_plan_89 : decode cX8_plan 89 = .ok (.iload 7, 2) := by decide +kernel
theorem dX8_plan_91 : decode cX8_plan 91 = .ok (.iload_n 3, 1) := by decide +kernel
theorem dX8_plan_92 : decode cX8_plan 92 = .ok (.iconst (-1), 1) := by decide +kernel
theorem dX8_plan_93 : decode cX8_plan 93 = .ok (.ixor, 1) := by decide +kernel
theorem dX8_plan_94 : decode cX8_plan 94 = .ok (.iand, 1) := by decide +kernel
theorem dX8_plan_95 : decode cX8_plan 95 = .ok (.ifCond .ne 66, 3) := by decide +kernel
theorem dX8_plan_98 : decode cX8_plan 98 = .ok (.iload 7, 2) := by decide +kernel
theorem dX8_plan_100 : decode cX8_plan 100 = .ok (.invokestatic 189, 3) := by decide +kernel
theorem dX8_plan_103 : decode cX8_plan 103 = .ok (.aload_n 0, 1) := by decide +kernel
theorem dX8_plan_104 : decode cX8_plan 104 = .ok (.getfield 7, 3) := by decide +kernel
theorem dX8_plan_107 : decode cX8_plan 107 = .ok (.bipush 32, 2) := by decide +kernel
theorem dX8_plan_109 : decode cX8_plan 109 = .ok (.iaload, 1) := by decide +kernel
theorem dX8_plan_110 : decode cX8_plan 110 = .ok (.imul, 1) := by decide +kernel
theorem dX8_plan_111 : decode cX8_plan 111 = .ok (.iload_n 1, 1) := by decide +kernel
theorem dX8_plan_112 : decode cX8_plan 112 = .ok (.if_icmp .gt 49, 3) := by decide +kernel
theorem dX8_plan_115 : decode cX8_plan 115 = .ok (.aload_n 0, 1) := by decide +kernel
theorem dX8_plan_116 : decode cX8_plan 116 = .ok (.iload 7, 2) := by decide +kernel
theorem dX8_plan_118 : decode cX8_plan 118 = .ok (.invokevirtual 186, 3) := by decide +kernel
theorem dX8_plan_121 : decode cX8_plan 121 = .ok (.aload_n 0, 1) := by decide +kernel
theorem dX8_plan_122 : decode cX8_plan 122 = .ok (.getfield 178, 3) := by decide +kernel
theorem dX8_plan_125 : decode cX8_plan 125 = .ok (.lload 5, 2) := by decide +kernel
theorem dX8_plan_127 : decode cX8_plan 127 = .ok (.lcmp, 1) := by decide +kernel
theorem dX8_plan_128 : decode cX8_plan 128 = .ok (.ifCond .ge 8, 3) := by decide +kernel
theorem dX8_plan_131 : decode cX8_plan 131 = .ok (.iload 7, 2) := by decide +kernel
theorem dX8_plan_133 : decode cX8_plan 133 = .ok (.goto 5, 3) := by decide +kernel
theorem dX8_plan_136 : decode cX8_plan 136 = .ok (.iload 4, 2) := by decide +kernel
theorem dX8_plan_138 : decode cX8_plan 138 = .ok (.istore 4, 2) := by decide +kernel
theorem dX8_plan_140 : decode cX8_plan 140 = .ok (.aload_n 0, 1) := by decide +kernel
theorem dX8_plan_141 : decode cX8_plan 141 = .ok (.getfield 178, 3) := by decide +kernel
theorem dX8_plan_144 : decode cX8_plan 144 = .ok (.lload 5, 2) := by decide +kernel
theorem dX8_plan_146 : decode cX8_plan 146 = .ok (.lcmp, 1) := by decide +kernel
theorem dX8_plan_147 : decode cX8_plan 147 = .ok (.ifCond .ge 10, 3) := by decide +kernel
theorem dX8_plan_150 : decode cX8_plan 150 = .ok (.aload_n 0, 1) := by decide +kernel
theorem dX8_plan_151 : decode cX8_plan 151 = .ok (.getfield 178, 3) := by decide +kernel
theorem dX8_plan_154 : decode cX8_plan 154 = .ok (.goto 5, 3) := by decide +kernel
theorem dX8_plan_157 : decode cX8_plan 157 = .ok (.lload 5, 2) := by decide +kernel
theorem dX8_plan_159 : decode cX8_plan 159 = .ok (.lstore 5, 2) := by decide +kernel
theorem dX8_plan_161 : decode cX8_plan 161 = .ok (.iinc 7 1, 3) := by decide +kernel
theorem dX8_plan_164 : decode cX8_plan 164 = .ok (.goto (-81), 3) := by decide +kernel
theorem dX8_plan_167 : decode cX8_plan 167 = .ok (.iload_n 2, 1) := by decide +kernel
theorem dX8_plan_168 : decode cX8_plan 168 = .ok (.ifCond .ne 9, 3) := by decide +kernel
theorem dX8_plan_171 : decode cX8_plan 171 = .ok (.iload 4, 2) := by decide +kernel
theorem dX8_plan_173 : decode cX8_plan 173 = .ok (.i2l, 1) := by decide +kernel
theorem dX8_plan_174 : decode cX8_plan 174 = .ok (.goto 15, 3) := by decide +kernel
theorem dX8_plan_177 : decode cX8_plan 177 = .ok (.lload 5, 2) := by decide +kernel
theorem dX8_plan_179 : decode cX8_plan 179 = .ok (.aload_n 0, 1) := by decide +kernel
theorem dX8_plan_180 : decode cX8_plan 180 = .ok (.getfield 181, 3) := by decide +kernel
theorem dX8_plan_183 : decode cX8_plan 183 = .ok (.iload_n 2, 1) := by decide +kernel
theorem dX8_plan_184 : decode cX8_plan 184 = .ok (.iconst 1, 1) := by decide +kernel
theorem dX8_plan_185 : decode cX8_plan 185 = .ok (.isub, 1) := by decide +kernel
theorem dX8_plan_186 : decode cX8_plan 186 = .ok (.invokestatic 163, 3) := by decide +kernel
theorem dX8_plan_189 : decode cX8_plan 189 = .ok (.lreturn, 1) := by decide +kernel
set_option maxRecDepth 20000 in
theorem ggX8_two_X8_in : GoodIn wsX8_two wsX8_in := goodIn_r _ [6] (by decide +kernel) (by decide +kernel)
set_option maxRecDepth 20000 in
theorem gX8_two_X8_in : GoodIn wsX8_two (va_wsS RX8 63 yX8_in wsX8_in) := goodIn_app (goodIn_of _ (by decide +kernel)) ggX8_two_X8_in
set_option maxRecDepth 20000 in
theorem ggX8_two_X8_part : GoodIn wsX8_two wsX8_part := goodIn_r _ [9, 10, 11, 5, 12] (by decide +kernel) (by decide +kernel)
set_option maxRecDepth 20000 in
theorem gX8_two_X8_part : GoodIn wsX8_two (va_wsS RX8 163 yX8_part wsX8_part) := goodIn_app (goodIn_of _ (by decide +kernel)) ggX8_two_X8_part
theorem dX8_two_0 : decode cX8_two 0 = .ok (.iload_n 2, 1) := by decide +kernel
theorem dX8_two_1 : decode cX8_two 1 = .ok (.i2l, 1) := by decide +kernel
theorem dX8_two_2 : decode cX8_two 2 = .ok (.lconst 0, 1) := by decide +kernel
theorem dX8_two_3 : decode cX8_two 3 = .ok (.lconst 1, 1) := by decide +kernel
theorem dX8_two_4 : decode cX8_two 4 = .ok (.invokestatic 63, 3) := by decide +kernel
theorem dX8_two_7 : decode cX8_two 7 = .ok (.ifCond .ne 5, 3) := by decide +kernel
theorem dX8_two_10 : decode cX8_two 10 = .ok (.iconst (-1), 1) := by decide +kernel
theorem dX8_two_11 : decode cX8_two 11 = .ok (.ireturn, 1) := by decide +kernel
theorem dX8_two_12 : decode cX8_two 12 = .ok (.aload_n 0, 1) := by decide +kernel
theorem dX8_two_13 : decode cX8_two 13 = .ok (.getfield 7, 3) := by decide +kernel
theorem dX8_two_16 : decode cX8_two 16 = .ok (.bipush 29, 2) := by decide +kernel
theorem dX8_two_18 : decode cX8_two 18 = .ok (.iaload, 1) := by decide +kernel
theorem dX8_two_19 : decode cX8_two 19 = .ok (.istore_n 3, 1) := by decide +kernel
theorem dX8_two_20 : decode cX8_two 20 = .ok (.iload_n 1, 1) := by decide +kernel
theorem dX8_two_21 : decode cX8_two 21 = .ok (.ifCond .eq 20, 3) := by decide +kernel
theorem dX8_two_24 : decode cX8_two 24 = .ok (.bipush 10, 2) := by decide +kernel
theorem dX8_two_26 : decode cX8_two 26 = .ok (.iconst 2, 1) := by decide +kernel
theorem dX8_two_27 : decode cX8_two 27 = .ok (.iload_n 3, 1) := by decide +kernel
theorem dX8_two_28 : decode cX8_two 28 = .ok (.imul, 1) := by decide +kernel
theorem dX8_two_29 : decode cX8_two 29 = .ok (.isub, 1) := by decide +kernel
theorem dX8_two_30 : decode cX8_two 30 = .ok (.bipush 10, 2) := by decide +kernel
theorem dX8_two_32 : decode cX8_two 32 = .ok (.iconst 2, 1) := by decide +kernel
theorem dX8_two_33 : decode cX8_two 33 = .ok (.iload_n 3, 1) := by decide +kernel
theorem dX8_two_34 : decode cX8_two 34 = .ok (.imul, 1) := by decide +kernel
theorem dX8_two_35 : decode cX8_two 35 = .ok (.isub, 1) := by decide +kernel
theorem dX8_two_36 : decode cX8_two 36 = .ok (.imul, 1) := by decide +kernel
theorem dX8_two_37 : decode cX8_two 37 = .ok (.i2l, 1) := by decide +kernel
theorem dX8_two_38 : decode cX8_two 38 = .ok (.goto 9, 3) := by decide +kernel
theorem dX8_two_41 : decode cX8_two 41 = .ok (.iconst 2, 1) := by decide +kernel
theorem dX8_two_42 : decode cX8_two 42 = .ok (.iload_n 3, 1) := by decide +kernel
theorem dX8_two_43 : decode cX8_two 43 = .ok (.imul, 1) := by decide +kernel
theorem dX8_two_44 : decode cX8_two 44 = .ok (.iload_n 3, 1) := by decide +kernel
theorem dX8_two_45 : decode cX8_two 45 = .ok (.imul, 1) := by decide +kernel
theorem dX8_two_46 : decode cX8_two 46 = .ok (.i2l, 1) := by decide +kernel
theorem dX8_two_47 : decode cX8_two 47 = .ok (.ldc2_w 192, 3) := by decide +kernel
theorem dX8_two_50 : decode cX8_two 50 = .ok (.iload_n 2, 1) := by decide +kernel
theorem dX8_two_51 : decode cX8_two 51 = .ok (.invokestatic 163, 3) := by decide +kernel
theorem dX8_two_54 : decode cX8_two 54 = .ok (.l2i, 1) := by decide +kernel
theorem dX8_two_55 : decode cX8_two 55 = .ok (.ireturn, 1) := by decide +kernel
theorem dX8_power_0 : decode cX8_power 0 = .ok (.iconst 1, 1) := by decide +kernel
theorem dX8_power_1 : decode cX8_power 1 = .ok (.istore_n 3, 1) := by decide +kernel
theorem dX8_power_2 : decode cX8_power 2 = .ok (.iconst 0, 1) := by decide +kernel
theorem dX8_power_3 : decode cX8_power 3 = .ok (.istore 4, 2) := by decide +kernel
theorem dX8_power_5 : decode cX8_power 5 = .ok (.iload 4, 2) := by decide +kernel
theorem dX8_power_7 : decode cX8_power 7 = .ok (.iload_n 2, 1) := by decide +kernel
theorem dX8_power_8 : decode cX8_power 8 = .ok (.if_icmp .ge 13, 3) := by decide +kernel
theorem dX8_power_11 : decode cX8_power 11 = .ok (.iload_n 3, 1) := by decide +kernel
theorem dX8_power_12 : decode cX8_power 12 = .ok (.iload_n 1, 1) := by decide +kernel
theorem dX8_power_13 : decode cX8_power 13 = .ok (.imul, 1) := by decide +kernel
theorem dX8_power_14 : decode cX8_power 14 = .ok (.istore_n 3, 1) := by decide +kernel
theorem dX8_power_15 : decode cX8_power 15 = .ok (.iinc 4 1, 3) := by decide +kernel
theorem dX8_power_18 : decode cX8_power 18 = .ok (.goto (-13), 3) := by decide +kernel
theorem dX8_power_21 : decode cX8_power 21 = .ok (.iload_n 3, 1) := by decide +kernel
theorem dX8_power_22 : decode cX8_power 22 = .ok (.ireturn, 1) := by decide +kernel
set_option maxRecDepth 20000 in
theorem ggX8_groups_X8_in : GoodIn wsX8_groups wsX8_in := goodIn_r _ [7] (by decide +kernel) (by decide +kernel)
set_option maxRecDepth 20000 in
theorem gX8_groups_X8_in : GoodIn wsX8_groups (va_wsS RX8 63 yX8_in wsX8_in) := goodIn_app (goodIn_of _ (by decide +kernel)) ggX8_groups_X8_in
set_option maxRecDepth 20000 in
theorem ggX8_groups_X8_power : GoodIn wsX8_groups wsX8_power := goodIn_r _ [11] (by decide +kernel) (by decide +kernel)
set_option maxRecDepth 20000 in
theorem gX8_groups_X8_power : GoodIn wsX8_groups (wsV RX8 196 RX8 yX8_power wsX8_power) := goodIn_app (goodIn_of _ (by decide +kernel)) ggX8_groups_X8_power
set_option maxRecDepth 20000 in
theorem ggX8_groups_X8_part : GoodIn wsX8_groups wsX8_part := goodIn_r _ [14, 15, 16, 6, 17] (by decide +kernel) (by decide +kernel)
set_option maxRecDepth 20000 in
theorem gX8_groups_X8_part : GoodIn wsX8_groups (va_wsS RX8 163 yX8_part wsX8_part) := goodIn_app (goodIn_of _ (by decide +kernel)) ggX8_groups_X8_part
theorem dX8_groups_0 : decode cX8_groups 0 = .ok (.iload_n 1, 1) := by decide +kernel
theorem dX8_groups_1 : decode cX8_groups 1 = .ok (.i2l, 1) := by decide +kernel
theorem dX8_groups_2 : decode cX8_groups 2 = .ok (.ldc2_w 82, 3) := by decide +kernel
theorem dX8_groups_5 : decode cX8_groups 5 = .ok (.ldc2_w 194, 3) := by decide +kernel
theorem dX8_groups_8 : decode cX8_groups 8 = .ok (.invokestatic 63, 3) := by decide +kernel
theorem dX8_groups_11 : decode cX8_groups 11 = .ok (.ifCond .eq 13, 3) := by decide +kernel
theorem dX8_groups_14 : decode cX8_groups 14 = .ok (.iload_n 2, 1) := by decide +kernel
theorem dX8_groups_15 : decode cX8_groups 15 = .ok (.i2l, 1) := by decide +kernel
theorem dX8_groups_16 : decode cX8_groups 16 = .ok (.lconst 0, 1) := by decide +kernel
theorem dX8_groups_17 : decode cX8_groups 17 = .ok (.lconst 1, 1) := by decide +kernel
theorem dX8_groups_18 : decode cX8_groups 18 = .ok (.invokestatic 63, 3) := by decide +kernel
theorem dX8_groups_21 : decode cX8_groups 21 = .ok (.ifCond .ne 5, 3) := by decide +kernel
theorem dX8_groups_24 : decode cX8_groups 24 = .ok (.iconst (-1), 1) := by decide +kernel
theorem dX8_groups_25 : decode cX8_groups 25 = .ok (.ireturn, 1) := by decide +kernel
theorem dX8_groups_26 : decode cX8_groups 26 = .ok (.aload_n 0, 1) := by decide +kernel
theorem dX8_groups_27 : decode cX8_groups 27 = .ok (.aload_n 0, 1) := by decide +kernel
theorem dX8_groups_28 : decode cX8_groups 28 = .ok (.getfield 7, 3) := by decide +kernel
theorem dX8_groups_31 : decode cX8_groups 31 = .ok (.bipush 33, 2) := by decide +kernel
theorem dX8_groups_33 : decode cX8_groups 33 = .ok (.iaload, 1) := by decide +kernel
theorem dX8_groups_34 : decode cX8_groups 34 = .ok (.iload_n 1, 1) := by decide +kernel
theorem dX8_groups_35 : decode cX8_groups 35 = .ok (.iconst 1, 1) := by decide +kernel
theorem dX8_groups_36 : decode cX8_groups 36 = .ok (.isub, 1) := by decide +kernel
theorem dX8_groups_37 : decode cX8_groups 37 = .ok (.invokevirtual 196, 3) := by decide +kernel
theorem dX8_groups_40 : decode cX8_groups 40 = .ok (.i2l, 1) := by decide +kernel
theorem dX8_groups_41 : decode cX8_groups 41 = .ok (.aload_n 0, 1) := by decide +kernel
theorem dX8_groups_42 : decode cX8_groups 42 = .ok (.bipush 10, 2) := by decide +kernel
theorem dX8_groups_44 : decode cX8_groups 44 = .ok (.iload_n 1, 1) := by decide +kernel
theorem dX8_groups_45 : decode cX8_groups 45 = .ok (.iconst 1, 1) := by decide +kernel
theorem dX8_groups_46 : decode cX8_groups 46 = .ok (.isub, 1) := by decide +kernel
theorem dX8_groups_47 : decode cX8_groups 47 = .ok (.invokevirtual 196, 3) := by decide +kernel
theorem dX8_groups_50 : decode cX8_groups 50 = .ok (.i2l, 1) := by decide +kernel
theorem dX8_groups_51 : decode cX8_groups 51 = .ok (.iload_n 2, 1) := by decide +kernel
theorem dX8_groups_52 : decode cX8_groups 52 = .ok (.invokestatic 163, 3) := by decide +kernel
theorem dX8_groups_55 : decode cX8_groups 55 = .ok (.l2i, 1) := by decide +kernel
theorem dX8_groups_56 : decode cX8_groups 56 = .ok (.ireturn, 1) := by decide +kernel
set_option maxRecDepth 20000 in
theorem ggX8_size_X8_in : GoodIn wsX8_size wsX8_in := goodIn_r _ [6] (by decide +kernel) (by decide +kernel)
set_option maxRecDepth 20000 in
theorem gX8_size_X8_in : GoodIn wsX8_size (va_wsS RX8 63 yX8_in wsX8_in) := goodIn_app (goodIn_of _ (by decide +kernel)) ggX8_size_X8_in
set_option maxRecDepth 20000 in
theorem ggX8_size_X8_power : GoodIn wsX8_size wsX8_power := goodIn_r _ [10] (by decide +kernel) (by decide +kernel)
set_option maxRecDepth 20000 in
theorem gX8_size_X8_power : GoodIn wsX8_size (wsV RX8 196 RX8 yX8_power wsX8_power) := goodIn_app (goodIn_of _ (by decide +kernel)) ggX8_size_X8_power
theorem dX8_size_0 : decode cX8_size 0 = .ok (.iload_n 1, 1) := by decide +kernel
theorem dX8_size_1 : decode cX8_size 1 = .ok (.i2l, 1) := by decide +kernel
theorem dX8_size_2 : decode cX8_size 2 = .ok (.lconst 0, 1) := by decide +kernel
theorem dX8_size_3 : decode cX8_size 3 = .ok (.ldc2_w 184, 3) := by decide +kernel
theorem dX8_size_6 : decode cX8_size 6 = .ok (.invokestatic 63, 3) := by decide +kernel
theorem dX8_size_9 : decode cX8_size 9 = .ok (.ifCond .ne 5, 3) := by decide +kernel
theorem dX8_size_12 : decode cX8_size 12 = .ok (.iconst (-1), 1) := by decide +kernel
theorem dX8_size_13 : decode cX8_size 13 = .ok (.ireturn, 1) := by decide +kernel
theorem dX8_size_14 : decode cX8_size 14 = .ok (.bipush (-4), 2) := by decide +kernel
theorem dX8_size_16 : decode cX8_size 16 = .ok (.istore_n 2, 1) := by decide +kernel
theorem dX8_size_17 : decode cX8_size 17 = .ok (.iconst 5, 1) := by decide +kernel
theorem dX8_size_18 : decode cX8_size 18 = .ok (.istore_n 3, 1) := by decide +kernel
theorem dX8_size_19 : decode cX8_size 19 = .ok (.iload_n 3, 1) := by decide +kernel
theorem dX8_size_20 : decode cX8_size 20 = .ok (.iconst 1, 1) := by decide +kernel
theorem dX8_size_21 : decode cX8_size 21 = .ok (.if_icmp .le 46, 3) := by decide +kernel
theorem dX8_size_24 : decode cX8_size 24 = .ok (.bipush 100, 2) := by decide +kernel
theorem dX8_size_26 : decode cX8_size 26 = .ok (.aload_n 0, 1) := by decide +kernel
theorem dX8_size_27 : decode cX8_size 27 = .ok (.aload_n 0, 1) := by decide +kernel
theorem dX8_size_28 : decode cX8_size 28 = .ok (.getfield 7, 3) := by decide +kernel
theorem dX8_size_31 : decode cX8_size 31 = .ok (.bipush 33, 2) := by decide +kernel
theorem dX8_size_33 : decode cX8_size 33 = .ok (.iaload, 1) := by decide +kernel
theorem dX8_size_34 : decode cX8_size 34 = .ok (.iload_n 3, 1) := by decide +kernel
theorem dX8_size_35 : decode cX8_size 35 = .ok (.iconst 1, 1) := by decide +kernel
theorem dX8_size_36 : decode cX8_size 36 = .ok (.isub, 1) := by decide +kernel
theorem dX8_size_37 : decode cX8_size 37 = .ok (.invokevirtual 196, 3) := by decide +kernel
theorem dX8_size_40 : decode cX8_size 40 = .ok (.imul, 1) := by decide +kernel
theorem dX8_size_41 : decode cX8_size 41 = .ok (.iload_n 1, 1) := by decide +kernel
theorem dX8_size_42 : decode cX8_size 42 = .ok (.aload_n 0, 1) := by decide +kernel
theorem dX8_size_43 : decode cX8_size 43 = .ok (.bipush 10, 2) := by decide +kernel
theorem dX8_size_45 : decode cX8_size 45 = .ok (.iload_n 3, 1) := by decide +kernel
theorem dX8_size_46 : decode cX8_size 46 = .ok (.iconst 1, 1) := by decide +kernel
theorem dX8_size_47 : decode cX8_size 47 = .ok (.isub, 1) := by decide +kernel
theorem dX8_size_48 : decode cX8_size 48 = .ok (.invokevirtual 196, 3) := by decide +kernel
theorem dX8_size_51 : decode cX8_size 51 = .ok (.imul, 1) := by decide +kernel
theorem dX8_size_52 : decode cX8_size 52 = .ok (.if_icmp .gt 7, 3) := by decide +kernel
theorem dX8_size_55 : decode cX8_size 55 = .ok (.iload_n 3, 1) := by decide +kernel
theorem dX8_size_56 : decode cX8_size 56 = .ok (.goto 4, 3) := by decide +kernel
theorem dX8_size_59 : decode cX8_size 59 = .ok (.iload_n 2, 1) := by decide +kernel
theorem dX8_size_60 : decode cX8_size 60 = .ok (.istore_n 2, 1) := by decide +kernel
theorem dX8_size_61 : decode cX8_size 61 = .ok (.iinc 3 (-1), 3) := by decide +kernel
theorem dX8_size_64 : decode cX8_size 64 = .ok (.goto (-45), 3) := by decide +kernel
theorem dX8_size_67 : decode cX8_size 67 = .ok (.iload_n 2, 1) := by decide +kernel
theorem dX8_size_68 : decode cX8_size 68 = .ok (.ireturn, 1) := by decide +kernel
set_option maxRecDepth 20000 in
theorem ggX8_answered_X8_isFriend : GoodIn wsX8_answered wsX8_isFriend := goodIn_r _ [7, 2, 8, 9, 6, 10, 17, 18, 19, 20, 21, 22, 23, 24, 25, 26, 27, 28, 29, 30, 31, 32, 33, 34, 35, 36, 37, 38] (by decide +kernel) (by decide +kernel)
set_option maxRecDepth 20000 in
theorem gX8_answered_X8_isFriend : GoodIn wsX8_answered (wsV RX8 125 RX8 yX8_isFriend wsX8_isFriend) := goodIn_app (goodIn_of _ (by decide +kernel)) ggX8_answered_X8_isFriend
set_option maxRecDepth 20000 in
theorem ggX8_answered_X8_in : GoodIn wsX8_answered wsX8_in := goodIn_r _ [10] (by decide +kernel) (by decide +kernel)
set_option maxRecDepth 20000 in
theorem gX8_answered_X8_in : GoodIn wsX8_answered (va_wsS RX8 63 yX8_in wsX8_in) := goodIn_app (goodIn_of _ (by decide +kernel)) ggX8_answered_X8_in
set_option maxRecDepth 20000 in
theorem ggX8_answered_X8_part : GoodIn wsX8_answered wsX8_part := goodIn_r _ [13, 14, 15, 6, 16] (by decide +kernel) (by decide +kernel)
set_option maxRecDepth 20000 in
theorem gX8_answered_X8_part : GoodIn wsX8_answered (va_wsS RX8 163 yX8_part wsX8_part) := goodIn_app (goodIn_of _ (by decide +kernel)) ggX8_answered_X8_part
theorem dX8_answered_0 : decode cX8_answered 0 = .ok (.aload_n 0, 1) := by decide +kernel
theorem dX8_answered_1 : decode cX8_answered 1 = .ok (.iload_n 1, 1) := by decide +kernel
theorem dX8_answered_2 : decode cX8_answered 2 = .ok (.invokevirtual 125, 3) := by decide +kernel
theorem dX8_answered_5 : decode cX8_answered 5 = .ok (.ifCond .eq 15, 3) := by decide +kernel
theorem dX8_answered_8 : decode cX8_answered 8 = .ok (.iload_n 2, 1) := by decide +kernel
theorem dX8_answered_9 : decode cX8_answered 9 = .ok (.i2l, 1) := by decide +kernel
theorem dX8_answered_10 : decode cX8_answered 10 = .ok (.lconst 0, 1) := by decide +kernel
theorem dX8_answered_11 : decode cX8_answered 11 = .ok (.ldc2_w 82, 3) := by decide +kernel
theorem dX8_answered_14 : decode cX8_answered 14 = .ok (.invokestatic 63, 3) := by decide +kernel
theorem dX8_answered_17 : decode cX8_answered 17 = .ok (.ifCond .ne 5, 3) := by decide +kernel
theorem dX8_answered_20 : decode cX8_answered 20 = .ok (.iconst (-1), 1) := by decide +kernel
theorem dX8_answered_21 : decode cX8_answered 21 = .ok (.ireturn, 1) := by decide +kernel
theorem dX8_answered_22 : decode cX8_answered 22 = .ok (.bipush (-4), 2) := by decide +kernel
theorem dX8_answered_24 : decode cX8_answered 24 = .ok (.istore_n 3, 1) := by decide +kernel
theorem dX8_answered_25 : decode cX8_answered 25 = .ok (.iconst 0, 1) := by decide +kernel
theorem dX8_answered_26 : decode cX8_answered 26 = .ok (.istore 4, 2) := by decide +kernel
theorem dX8_answered_28 : decode cX8_answered 28 = .ok (.iconst 0, 1) := by decide +kernel
theorem dX8_answered_29 : decode cX8_answered 29 = .ok (.istore 5, 2) := by decide +kernel
theorem dX8_answered_31 : decode cX8_answered 31 = .ok (.iload 5, 2) := by decide +kernel
theorem dX8_answered_33 : decode cX8_answered 33 = .ok (.aload_n 0, 1) := by decide +kernel
theorem dX8_answered_34 : decode cX8_answered 34 = .ok (.getfield 7, 3) := by decide +kernel
theorem dX8_answered_37 : decode cX8_answered 37 = .ok (.iconst 1, 1) := by decide +kernel
theorem dX8_answered_38 : decode cX8_answered 38 = .ok (.iaload, 1) := by decide +kernel
theorem dX8_answered_39 : decode cX8_answered 39 = .ok (.if_icmp .ge 70, 3) := by decide +kernel
theorem dX8_answered_42 : decode cX8_answered 42 = .ok (.aload_n 0, 1) := by decide +kernel
theorem dX8_answered_43 : decode cX8_answered 43 = .ok (.getfield 7, 3) := by decide +kernel
theorem dX8_answered_46 : decode cX8_answered 46 = .ok (.bipush 37, 2) := by decide +kernel
theorem dX8_answered_48 : decode cX8_answered 48 = .ok (.bipush 6, 2) := by decide +kernel
theorem dX8_answered_50 : decode cX8_answered 50 = .ok (.iload_n 1, 1) := by decide +kernel
theorem dX8_answered_51 : decode cX8_answered 51 = .ok (.imul, 1) := by decide +kernel
theorem dX8_answered_52 : decode cX8_answered 52 = .ok (.iadd, 1) := by decide +kernel
theorem dX8_answered_53 : decode cX8_answered 53 = .ok (.iload 5, 2) := by decide +kernel
theorem dX8_answered_55 : decode cX8_answered 55 = .ok (.iadd, 1) := by decide +kernel
theorem dX8_answered_56 : decode cX8_answered 56 = .ok (.iaload, 1) := by decide +kernel
theorem dX8_answered_57 : decode cX8_answered 57 = .ok (.istore 6, 2) := by decide +kernel
theorem dX8_answered_59 : decode cX8_answered 59 = .ok (.iload 4, 2) := by decide +kernel
theorem dX8_answered_61 : decode cX8_answered 61 = .ok (.iload 6, 2) := by decide +kernel
theorem dX8_answered_63 : decode cX8_answered 63 = .ok (.iadd, 1) := by decide +kernel
theorem dX8_answered_64 : decode cX8_answered 64 = .ok (.istore 4, 2) := by decide +kernel
theorem dX8_answered_66 : decode cX8_answered 66 = .ok (.iload 6, 2) := by decide +kernel
theorem dX8_answered_68 : decode cX8_answered 68 = .ok (.ifCond .le 33, 3) := by decide +kernel
theorem dX8_answered_71 : decode cX8_answered 71 = .ok (.iload_n 3, 1) := by decide +kernel
theorem dX8_answered_72 : decode cX8_answered 72 = .ok (.bipush (-4), 2) := by decide +kernel
theorem dX8_answered_74 : decode cX8_answered 74 = .ok (.if_icmp .eq 22, 3) := by decide +kernel
theorem dX8_answered_77 : decode cX8_answered 77 = .ok (.iload 6, 2) := by decide +kernel
theorem dX8_answered_79 : decode cX8_answered 79 = .ok (.aload_n 0, 1) := by decide +kernel
theorem dX8_answered_80 : decode cX8_answered 80 = .ok (.getfield 7, 3) := by decide +kernel
theorem dX8_answered_83 : decode cX8_answered 83 = .ok (.bipush 37, 2) := by decide +kernel
theorem dX8_answered_85 : decode cX8_answered 85 = .ok (.bipush 6, 2) := by decide +kernel
theorem dX8_answered_87 : decode cX8_answered 87 = .ok (.iload_n 1, 1) := by decide +kernel
theorem dX8_answered_88 : decode cX8_answered 88 = .ok (.imul, 1) := by decide +kernel
theorem dX8_answered_89 : decode cX8_answered 89 = .ok (.iadd, 1) := by decide +kernel
theorem dX8_answered_90 : decode cX8_answered 90 = .ok (.iload_n 3, 1) := by decide +kernel
theorem dX8_answered_91 : decode cX8_answered 91 = .ok (.iadd, 1) := by decide +kernel
theorem dX8_answered_92 : decode cX8_answered 92 = .ok (.iaload, 1) := by decide +kernel
theorem dX8_answered_93 : decode cX8_answered 93 = .ok (.if_icmp .le 8, 3) := by decide +kernel
theorem dX8_answered_96 : decode cX8_answered 96 = .ok (.iload 5, 2) := by decide +kernel
theorem dX8_answered_98 : decode cX8_answered 98 = .ok (.goto 4, 3) := by decide +kernel
theorem dX8_answered_101 : decode cX8_answered 101 = .ok (.iload_n 3, 1) := by decide +kernel
theorem dX8_answered_102 : decode cX8_answered 102 = .ok (.istore_n 3, 1) := by decide +kernel
theorem dX8_answered_103 : decode cX8_answered 103 = .ok (.iinc 5 1, 3) := by decide +kernel
theorem dX8_answered_106 : decode cX8_answered 106 = .ok (.goto (-75), 3) := by decide +kernel
theorem dX8_answered_109 : decode cX8_answered 109 = .ok (.iload_n 3, 1) := by decide +kernel
theorem dX8_answered_110 : decode cX8_answered 110 = .ok (.bipush (-4), 2) := by decide +kernel
theorem dX8_answered_112 : decode cX8_answered 112 = .ok (.if_icmp .ne 8, 3) := by decide +kernel
theorem dX8_answered_115 : decode cX8_answered 115 = .ok (.bipush (-4), 2) := by decide +kernel
theorem dX8_answered_117 : decode cX8_answered 117 = .ok (.goto 36, 3) := by decide +kernel
theorem dX8_answered_120 : decode cX8_answered 120 = .ok (.iload_n 2, 1) := by decide +kernel
theorem dX8_answered_121 : decode cX8_answered 121 = .ok (.ifCond .ne 7, 3) := by decide +kernel
theorem dX8_answered_124 : decode cX8_answered 124 = .ok (.iload_n 3, 1) := by decide +kernel
theorem dX8_answered_125 : decode cX8_answered 125 = .ok (.goto 28, 3) := by decide +kernel
theorem dX8_answered_128 : decode cX8_answered 128 = .ok (.aload_n 0, 1) := by decide +kernel
theorem dX8_answered_129 : decode cX8_answered 129 = .ok (.getfield 7, 3) := by decide +kernel
theorem dX8_answered_132 : decode cX8_answered 132 = .ok (.bipush 37, 2) := by decide +kernel
theorem dX8_answered_134 : decode cX8_answered 134 = .ok (.bipush 6, 2) := by decide +kernel
theorem dX8_answered_136 : decode cX8_answered 136 = .ok (.iload_n 1, 1) := by decide +kernel
theorem dX8_answered_137 : decode cX8_answered 137 = .ok (.imul, 1) := by decide +kernel
theorem dX8_answered_138 : decode cX8_answered 138 = .ok (.iadd, 1) := by decide +kernel
theorem dX8_answered_139 : decode cX8_answered 139 = .ok (.iload_n 3, 1) := by decide +kernel
theorem dX8_answered_140 : decode cX8_answered 140 = .ok (.iadd, 1) := by decide +kernel
theorem dX8_answered_141 : decode cX8_answered 141 = .ok (.iaload, 1) := by decide +kernel
theorem dX8_answered_142 : decode cX8_answered 142 = .ok (.i2l, 1) := by decide +kernel
theorem dX8_answered_143 : decode cX8_answered 143 = .ok (.iload 4, 2) := by decide +kernel
theorem dX8_answered_145 : decode cX8_answered 145 = .ok (.i2l, 1) := by decide +kernel
theorem dX8_answered_146 : decode cX8_answered 146 = .ok (.iload_n 2, 1) := by decide +kernel
theorem dX8_answered_147 : decode cX8_answered 147 = .ok (.iconst 1, 1) := by decide +kernel
theorem dX8_answered_148 : decode cX8_answered 148 = .ok (.isub, 1) := by decide +kernel
theorem dX8_answered_149 : decode cX8_answered 149 = .ok (.invokestatic 163, 3) := by decide +kernel
theorem dX8_answered_152 : decode cX8_answered 152 = .ok (.l2i, 1) := by decide +kernel
theorem dX8_answered_153 : decode cX8_answered 153 = .ok (.ireturn, 1) := by decide +kernel
set_option maxRecDepth 20000 in
theorem ggX8_marches_X8_power : GoodIn wsX8_marches wsX8_power := goodIn_r _ [9] (by decide +kernel) (by decide +kernel)
set_option maxRecDepth 20000 in
theorem gX8_marches_X8_power : GoodIn wsX8_marches (wsV RX8 196 RX8 yX8_power wsX8_power) := goodIn_app (goodIn_of _ (by decide +kernel)) ggX8_marches_X8_power
theorem dX8_marches_0 : decode cX8_marches 0 = .ok (.aload_n 0, 1) := by decide +kernel
theorem dX8_marches_1 : decode cX8_marches 1 = .ok (.getfield 7, 3) := by decide +kernel
theorem dX8_marches_4 : decode cX8_marches 4 = .ok (.iconst 1, 1) := by decide +kernel
theorem dX8_marches_5 : decode cX8_marches 5 = .ok (.iaload, 1) := by decide +kernel
theorem dX8_marches_6 : decode cX8_marches 6 = .ok (.istore_n 1, 1) := by decide +kernel
theorem dX8_marches_7 : decode cX8_marches 7 = .ok (.aload_n 0, 1) := by decide +kernel
theorem dX8_marches_8 : decode cX8_marches 8 = .ok (.bipush 6, 2) := by decide +kernel
theorem dX8_marches_10 : decode cX8_marches 10 = .ok (.iload_n 1, 1) := by decide +kernel
theorem dX8_marches_11 : decode cX8_marches 11 = .ok (.invokevirtual 196, 3) := by decide +kernel
theorem dX8_marches_14 : decode cX8_marches 14 = .ok (.istore_n 2, 1) := by decide +kernel
theorem dX8_marches_15 : decode cX8_marches 15 = .ok (.aload_n 0, 1) := by decide +kernel
theorem dX8_marches_16 : decode cX8_marches 16 = .ok (.iconst (-1), 1) := by decide +kernel
theorem dX8_marches_17 : decode cX8_marches 17 = .ok (.putfield 200, 3) := by decide +kernel
theorem dX8_marches_20 : decode cX8_marches 20 = .ok (.iconst 0, 1) := by decide +kernel
theorem dX8_marches_21 : decode cX8_marches 21 = .ok (.istore_n 3, 1) := by decide +kernel
theorem dX8_marches_22 : decode cX8_marches 22 = .ok (.iload_n 3, 1) := by decide +kernel
theorem dX8_marches_23 : decode cX8_marches 23 = .ok (.iload_n 2, 1) := by decide +kernel
theorem dX8_marches_24 : decode cX8_marches 24 = .ok (.if_icmp .ge 309, 3) := by decide +kernel
theorem dX8_marches_27 : decode cX8_marches 27 = .ok (.iconst 0, 1) := by decide +kernel
theorem dX8_marches_28 : decode cX8_marches 28 = .ok (.istore 4, 2) := by decide +kernel
theorem dX8_marches_30 : decode cX8_marches 30 = .ok (.iconst 0, 1) := by decide +kernel
theorem dX8_marches_31 : decode cX8_marches 31 = .ok (.istore 5, 2) := by decide +kernel
theorem dX8_marches_33 : decode cX8_marches 33 = .ok (.iconst 0, 1) := by decide +kernel
theorem dX8_marches_34 : decode cX8_marches 34 = .ok (.istore 6, 2) := by decide +kernel
theorem dX8_marches_36 : decode cX8_marches 36 = .ok (.iload_n 3, 1) := by decide +kernel
theorem dX8_marches_37 : decode cX8_marches 37 = .ok (.istore 7, 2) := by decide +kernel
theorem dX8_marches_39 : decode cX8_marches 39 = .ok (.iconst 1, 1) := by decide +kernel
theorem dX8_marches_40 : decode cX8_marches 40 = .ok (.istore 8, 2) := by decide +kernel
theorem dX8_marches_42 : decode cX8_marches 42 = .ok (.iconst 0, 1) := by decide +kernel
theorem dX8_marches_43 : decode cX8_marches 43 = .ok (.istore 9, 2) := by decide +kernel
theorem dX8_marches_45 : decode cX8_marches 45 = .ok (.iload 9, 2) := by decide +kernel
theorem dX8_marches_47 : decode cX8_marches 47 = .ok (.iload_n 1, 1) := by decide +kernel
theorem dX8_marches_48 : decode cX8_marches 48 = .ok (.if_icmp .ge 191, 3) := by decide +kernel
theorem dX8_marches_51 : decode cX8_marches 51 = .ok (.iload 8, 2) := by decide +kernel
theorem dX8_marches_53 : decode cX8_marches 53 = .ok (.ifCond .eq 186, 3) := by decide +kernel
theorem dX8_marches_56 : decode cX8_marches 56 = .ok (.iload 7, 2) := by decide +kernel
theorem dX8_marches_58 : decode cX8_marches 58 = .ok (.aload_n 0, 1) := by decide +kernel
theorem dX8_marches_59 : decode cX8_marches 59 = .ok (.bipush 6, 2) := by decide +kernel
theorem dX8_marches_61 : decode cX8_marches 61 = .ok (.iload_n 1, 1) := by decide +kernel
theorem dX8_marches_62 : decode cX8_marches 62 = .ok (.iconst 1, 1) := by decide +kernel
theorem dX8_marches_63 : decode cX8_marches 63 = .ok (.isub, 1) := by decide +kernel
theorem dX8_marches_64 : decode cX8_marches 64 = .ok (.iload 9, 2) := by decide +kernel
theorem dX8_marches_66 : decode cX8_marches 66 = .ok (.isub, 1) := by decide +kernel
theorem dX8_marches_67 : decode cX8_marches 67 = .ok (.invokevirtual 196, 3) := by decide +kernel
theorem dX8_marches_70 : decode cX8_marches 70 = .ok (.idiv, 1) := by decide +kernel
theorem dX8_marches_71 : decode cX8_marches 71 = .ok (.istore 10, 2) := by decide +kernel
theorem dX8_marches_73 : decode cX8_marches 73 = .ok (.iload 7, 2) := by decide +kernel
theorem dX8_marches_75 : decode cX8_marches 75 = .ok (.aload_n 0, 1) := by decide +kernel
theorem dX8_marches_76 : decode cX8_marches 76 = .ok (.bipush 6, 2) := by decide +kernel
theorem dX8_marches_78 : decode cX8_marches 78 = .ok (.iload_n 1, 1) := by decide +kernel
theorem dX8_marches_79 : decode cX8_marches 79 = .ok (.iconst 1, 1) := by decide +kernel
theorem dX8_marches_80 : decode cX8_marches 80 = .ok (.isub, 1) := by decide +kernel
theorem dX8_marches_81 : decode cX8_marches 81 = .ok (.iload 9, 2) := by decide +kernel
theorem dX8_marches_83 : decode cX8_marches 83 = .ok (.isub, 1) := by decide +kernel
theorem dX8_marches_84 : decode cX8_marches 84 = .ok (.invokevirtual 196, 3) := by decide +kernel
theorem dX8_marches_87 : decode cX8_marches 87 = .ok (.irem, 1) := by decide +kernel
theorem dX8_marches_88 : decode cX8_marches 88 = .ok (.istore 7, 2) := by decide +kernel
theorem dX8_marches_90 : decode cX8_marches 90 = .ok (.iload 4, 2) := by decide +kernel
theorem dX8_marches_92 : decode cX8_marches 92 = .ok (.iload 9, 2) := by decide +kernel
theorem dX8_marches_94 : decode cX8_marches 94 = .ok (.ishr, 1) := by decide +kernel
theorem dX8_marches_95 : decode cX8_marches 95 = .ok (.iconst 1, 1) := by decide +kernel
theorem dX8_marches_96 : decode cX8_marches 96 = .ok (.iand, 1) := by decide +kernel
theorem dX8_marches_97 : decode cX8_marches 97 = .ok (.iconst 1, 1) := by decide +kernel
theorem dX8_marches_98 : decode cX8_marches 98 = .ok (.if_icmp .ne 18, 3) := by decide +kernel
theorem dX8_marches_101 : decode cX8_marches 101 = .ok (.iload 10, 2) := by decide +kernel
theorem dX8_marches_103 : decode cX8_marches 103 = .ok (.ifCond .ne 7, 3) := by decide +kernel
theorem dX8_marches_106 : decode cX8_marches 106 = .ok (.iconst 1, 1) := by decide +kernel
theorem dX8_marches_107 : decode cX8_marches 107 = .ok (.goto 4, 3) := by decide +kernel
theorem dX8_marches_110 : decode cX8_marches 110 = .ok (.iconst 0, 1) := by decide +kernel
theorem dX8_marches_111 : decode cX8_marches 111 = .ok (.istore 8, 2) := by decide +kernel
theorem dX8_marches_113 : decode cX8_marches 113 = .ok (.goto 120, 3) := by decide +kernel
theorem dX8_marches_116 : decode cX8_marches 116 = .ok (.iload 10, 2) := by decide +kernel
theorem dX8_marches_118 : decode cX8_marches 118 = .ok (.ifCond .ne 27, 3) := by decide +kernel
theorem dX8_marches_121 : decode cX8_marches 121 = .ok (.iinc 5 1, 3) := by decide +kernel
theorem dX8_marches_124 : decode cX8_marches 124 = .ok (.aload_n 0, 1) := by decide +kernel
theorem dX8_marches_125 : decode cX8_marches 125 = .ok (.getfield 41, 3) := by decide +kernel
theorem dX8_marches_128 : decode cX8_marches 128 = .ok (.iload 9, 2) := by decide +kernel
theorem dX8_marches_130 : decode cX8_marches 130 = .ok (.bipush (-4), 2) := by decide +kernel
theorem dX8_marches_132 : decode cX8_marches 132 = .ok (.iastore, 1) := by decide +kernel
theorem dX8_marches_133 : decode cX8_marches 133 = .ok (.iload 4, 2) := by decide +kernel
theorem dX8_marches_135 : decode cX8_marches 135 = .ok (.iconst 1, 1) := by decide +kernel
theorem dX8_marches_136 : decode cX8_marches 136 = .ok (.iload 9, 2) := by decide +kernel
theorem dX8_marches_138 : decode cX8_marches 138 = .ok (.ishl, 1) := by decide +kernel
theorem dX8_marches_139 : decode cX8_marches 139 = .ok (.ior, 1) := by decide +kernel
theorem dX8_marches_140 : decode cX8_marches 140 = .ok (.istore 4, 2) := by decide +kernel
theorem dX8_marches_142 : decode cX8_marches 142 = .ok (.goto 91, 3) := by decide +kernel
theorem dX8_marches_145 : decode cX8_marches 145 = .ok (.iload 9, 2) := by decide +kernel
theorem dX8_marches_147 : decode cX8_marches 147 = .ok (.iload 10, 2) := by decide +kernel
theorem dX8_marches_149 : decode cX8_marches 149 = .ok (.iadd, 1) := by decide +kernel
theorem dX8_marches_150 : decode cX8_marches 150 = .ok (.istore 11, 2) := by decide +kernel
theorem dX8_marches_152 : decode cX8_marches 152 = .ok (.iload 11, 2) := by decide +kernel
theorem dX8_marches_154 : decode cX8_marches 154 = .ok (.iload_n 1, 1) := by decide +kernel
theorem dX8_marches_155 : decode cX8_marches 155 = .ok (.if_icmp .ge 17, 3) := by decide +kernel
theorem dX8_marches_158 : decode cX8_marches 158 = .ok (.iload 4, 2) := by decide +kernel
theorem dX8_marches_160 : decode cX8_marches 160 = .ok (.iload 11, 2) := by decide +kernel
theorem dX8_marches_162 : decode cX8_marches 162 = .ok (.ishr, 1) := by decide +kernel
theorem dX8_marches_163 : decode cX8_marches 163 = .ok (.iconst 1, 1) := by decide +kernel
theorem dX8_marches_164 : decode cX8_marches 164 = .ok (.iand, 1) := by decide +kernel
theorem dX8_marches_165 : decode cX8_marches 165 = .ok (.ifCond .ne 7, 3) := by decide +kernel
theorem dX8_marches_168 : decode cX8_marches 168 = .ok (.iconst 1, 1) := by decide +kernel
theorem dX8_marches_169 : decode cX8_marches 169 = .ok (.goto 4, 3) := by decide +kernel
theorem dX8_marches_172 : decode cX8_marches 172 = .ok (.iconst 0, 1) := by decide +kernel
theorem dX8_marches_173 : decode cX8_marches 173 = .ok (.istore 8, 2) := by decide +kernel
theorem dX8_marches_175 : decode cX8_marches 175 = .ok (.iload 8, 2) := by decide +kernel
theorem dX8_marches_177 : decode cX8_marches 177 = .ok (.ifCond .eq 56, 3) := by decide +kernel
theorem dX8_marches_180 : decode cX8_marches 180 = .ok (.iload 6, 2) := by decide +kernel
theorem dX8_marches_182 : decode cX8_marches 182 = .ok (.aload_n 0, 1) := by decide +kernel
theorem dX8_marches_183 : decode cX8_marches 183 = .ok (.getfield 7, 3) := by decide +kernel
theorem dX8_marches_186 : decode cX8_marches 186 = .ok (.bipush 37, 2) := by decide +kernel
theorem dX8_marches_188 : decode cX8_marches 188 = .ok (.bipush 6, 2) := by decide +kernel
theorem dX8_marches_190 : decode cX8_marches 190 = .ok (.iload 9, 2) := by decide +kernel
theorem dX8_marches_192 : decode cX8_marches 192 = .ok (.imul, 1) := by decide +kernel
theorem dX8_marches_193 : decode cX8_marches 193 = .ok (.iadd, 1) := by decide +kernel
theorem dX8_marches_194 : decode cX8_marches 194 = .ok (.iload 11, 2) := by decide +kernel
theorem dX8_marches_196 : decode cX8_marches 196 = .ok (.iadd, 1) := by decide +kernel
theorem dX8_marches_197 : decode cX8_marches 197 = .ok (.iaload, 1) := by decide +kernel
theorem dX8_marches_198 : decode cX8_marches 198 = .ok (.iadd, 1) := by decide +kernel
theorem dX8_marches_199 : decode cX8_marches 199 = .ok (.istore 6, 2) := by decide +kernel
theorem dX8_marches_201 : decode cX8_marches 201 = .ok (.aload_n 0, 1) := by decide +kernel
theorem dX8_marches_202 : decode cX8_marches 202 = .ok (.getfield 41, 3) := by decide +kernel
