theorem dX7_minutesSpent_45 : decode cX7_minutesSpent 45 = .ok (.iaload, 1) := by decide +kernel
theorem dX7_minutesSpent_46 : decode cX7_minutesSpent 46 = .ok (.iaload, 1) := by decide +kernel
theorem dX7_minutesSpent_47 : decode cX7_minutesSpent 47 = .ok (.iadd, 1) := by decide +kernel
theorem dX7_minutesSpent_48 : decode cX7_minutesSpent 48 = .ok (.istore_n 1, 1) := by decide +kernel
theorem dX7_minutesSpent_49 : decode cX7_minutesSpent 49 = .ok (.iinc 2 1, 3) := by decide +kernel
theorem dX7_minutesSpent_52 : decode cX7_minutesSpent 52 = .ok (.goto (-34), 3) := by decide +kernel
theorem dX7_minutesSpent_55 : decode cX7_minutesSpent 55 = .ok (.iload_n 1, 1) := by decide +kernel
theorem dX7_minutesSpent_56 : decode cX7_minutesSpent 56 = .ok (.ireturn, 1) := by decide +kernel
theorem dX7_isFriend_0 : decode cX7_isFriend 0 = .ok (.iload_n 1, 1) := by decide +kernel
theorem dX7_isFriend_1 : decode cX7_isFriend 1 = .ok (.ifCond .lt 18, 3) := by decide +kernel
theorem dX7_isFriend_4 : decode cX7_isFriend 4 = .ok (.iload_n 1, 1) := by decide +kernel
theorem dX7_isFriend_5 : decode cX7_isFriend 5 = .ok (.aload_n 0, 1) := by decide +kernel
theorem dX7_isFriend_6 : decode cX7_isFriend 6 = .ok (.getfield 26, 3) := by decide +kernel
theorem dX7_isFriend_9 : decode cX7_isFriend 9 = .ok (.getfield 224, 3) := by decide +kernel
theorem dX7_isFriend_12 : decode cX7_isFriend 12 = .ok (.if_icmp .ge 7, 3) := by decide +kernel
theorem dX7_isFriend_15 : decode cX7_isFriend 15 = .ok (.iconst 1, 1) := by decide +kernel
theorem dX7_isFriend_16 : decode cX7_isFriend 16 = .ok (.goto 4, 3) := by decide +kernel
theorem dX7_isFriend_19 : decode cX7_isFriend 19 = .ok (.iconst 0, 1) := by decide +kernel
theorem dX7_isFriend_20 : decode cX7_isFriend 20 = .ok (.ireturn, 1) := by decide +kernel
theorem dX7_isSort_0 : decode cX7_isSort 0 = .ok (.iload_n 0, 1) := by decide +kernel
theorem dX7_isSort_1 : decode cX7_isSort 1 = .ok (.ifCond .lt 12, 3) := by decide +kernel
theorem dX7_isSort_4 : decode cX7_isSort 4 = .ok (.iload_n 0, 1) := by decide +kernel
theorem dX7_isSort_5 : decode cX7_isSort 5 = .ok (.iconst 4, 1) := by decide +kernel
theorem dX7_isSort_6 : decode cX7_isSort 6 = .ok (.if_icmp .ge 7, 3) := by decide +kernel
theorem dX7_isSort_9 : decode cX7_isSort 9 = .ok (.iconst 1, 1) := by decide +kernel
theorem dX7_isSort_10 : decode cX7_isSort 10 = .ok (.goto 4, 3) := by decide +kernel
theorem dX7_isSort_13 : decode cX7_isSort 13 = .ok (.iconst 0, 1) := by decide +kernel
theorem dX7_isSort_14 : decode cX7_isSort 14 = .ok (.ireturn, 1) := by decide +kernel
theorem dX7_isPart_0 : decode cX7_isPart 0 = .ok (.iload_n 0, 1) := by decide +kernel
theorem dX7_isPart_1 : decode cX7_isPart 1 = .ok (.ifCond .eq 8, 3) := by decide +kernel
theorem dX7_isPart_4 : decode cX7_isPart 4 = .ok (.iload_n 0, 1) := by decide +kernel
theorem dX7_isPart_5 : decode cX7_isPart 5 = .ok (.iconst 1, 1) := by decide +kernel
theorem dX7_isPart_6 : decode cX7_isPart 6 = .ok (.if_icmp .ne 7, 3) := by decide +kernel
theorem dX7_isPart_9 : decode cX7_isPart 9 = .ok (.iconst 1, 1) := by decide +kernel
theorem dX7_isPart_10 : decode cX7_isPart 10 = .ok (.goto 4, 3) := by decide +kernel
theorem dX7_isPart_13 : decode cX7_isPart 13 = .ok (.iconst 0, 1) := by decide +kernel
theorem dX7_isPart_14 : decode cX7_isPart 14 = .ok (.ireturn, 1) := by decide +kernel
theorem dX7_isOfChoice_0 : decode cX7_isOfChoice 0 = .ok (.iload_n 0, 1) := by decide +kernel
theorem dX7_isOfChoice_1 : decode cX7_isOfChoice 1 = .ok (.ifCond .lt 12, 3) := by decide +kernel
theorem dX7_isOfChoice_4 : decode cX7_isOfChoice 4 = .ok (.iload_n 0, 1) := by decide +kernel
theorem dX7_isOfChoice_5 : decode cX7_isOfChoice 5 = .ok (.iconst 2, 1) := by decide +kernel
theorem dX7_isOfChoice_6 : decode cX7_isOfChoice 6 = .ok (.if_icmp .gt 7, 3) := by decide +kernel
theorem dX7_isOfChoice_9 : decode cX7_isOfChoice 9 = .ok (.iconst 1, 1) := by decide +kernel
theorem dX7_isOfChoice_10 : decode cX7_isOfChoice 10 = .ok (.goto 4, 3) := by decide +kernel
theorem dX7_isOfChoice_13 : decode cX7_isOfChoice 13 = .ok (.iconst 0, 1) := by decide +kernel
theorem dX7_isOfChoice_14 : decode cX7_isOfChoice 14 = .ok (.ireturn, 1) := by decide +kernel
theorem dX7_isOfSchool_0 : decode cX7_isOfSchool 0 = .ok (.iload_n 0, 1) := by decide +kernel
theorem dX7_isOfSchool_1 : decode cX7_isOfSchool 1 = .ok (.ifCond .lt 13, 3) := by decide +kernel
theorem dX7_isOfSchool_4 : decode cX7_isOfSchool 4 = .ok (.iload_n 0, 1) := by decide +kernel
theorem dX7_isOfSchool_5 : decode cX7_isOfSchool 5 = .ok (.bipush 20, 2) := by decide +kernel
theorem dX7_isOfSchool_7 : decode cX7_isOfSchool 7 = .ok (.if_icmp .gt 7, 3) := by decide +kernel
theorem dX7_isOfSchool_10 : decode cX7_isOfSchool 10 = .ok (.iconst 1, 1) := by decide +kernel
theorem dX7_isOfSchool_11 : decode cX7_isOfSchool 11 = .ok (.goto 4, 3) := by decide +kernel
theorem dX7_isOfSchool_14 : decode cX7_isOfSchool 14 = .ok (.iconst 0, 1) := by decide +kernel
theorem dX7_isOfSchool_15 : decode cX7_isOfSchool 15 = .ok (.ireturn, 1) := by decide +kernel
theorem dX7_holds_0 : decode cX7_holds 0 = .ok (.iload_n 0, 1) := by decide +kernel
theorem dX7_holds_1 : decode cX7_holds 1 = .ok (.iload_n 1, 1) := by decide +kernel
theorem dX7_holds_2 : decode cX7_holds 2 = .ok (.iconst 1, 1) := by decide +kernel
theorem dX7_holds_3 : decode cX7_holds 3 = .ok (.isub, 1) := by decide +kernel
theorem dX7_holds_4 : decode cX7_holds 4 = .ok (.ishr, 1) := by decide +kernel
theorem dX7_holds_5 : decode cX7_holds 5 = .ok (.iconst 1, 1) := by decide +kernel
theorem dX7_holds_6 : decode cX7_holds 6 = .ok (.iand, 1) := by decide +kernel
theorem dX7_holds_7 : decode cX7_holds 7 = .ok (.ifCond .eq 7, 3) := by decide +kernel
theorem dX7_holds_10 : decode cX7_holds 10 = .ok (.iconst 1, 1) := by decide +kernel
theorem dX7_holds_11 : decode cX7_holds 11 = .ok (.goto 4, 3) := by decide +kernel
theorem dX7_holds_14 : decode cX7_holds 14 = .ok (.iconst 0, 1) := by decide +kernel
theorem dX7_holds_15 : decode cX7_holds 15 = .ok (.ireturn, 1) := by decide +kernel
theorem dX7_draw_0 : decode cX7_draw 0 = .ok (.ldc2_w 262, 3) := by decide +kernel
theorem dX7_draw_3 : decode cX7_draw 3 = .ok (.iload_n 0, 1) := by decide +kernel
theorem dX7_draw_4 : decode cX7_draw 4 = .ok (.i2l, 1) := by decide +kernel
theorem dX7_draw_5 : decode cX7_draw 5 = .ok (.lmul, 1) := by decide +kernel
theorem dX7_draw_6 : decode cX7_draw 6 = .ok (.ldc2_w 264, 3) := by decide +kernel
theorem dX7_draw_9 : decode cX7_draw 9 = .ok (.iload_n 1, 1) := by decide +kernel
theorem dX7_draw_10 : decode cX7_draw 10 = .ok (.i2l, 1) := by decide +kernel
theorem dX7_draw_11 : decode cX7_draw 11 = .ok (.lmul, 1) := by decide +kernel
theorem dX7_draw_12 : decode cX7_draw 12 = .ok (.ladd, 1) := by decide +kernel
theorem dX7_draw_13 : decode cX7_draw 13 = .ok (.lconst 1, 1) := by decide +kernel
theorem dX7_draw_14 : decode cX7_draw 14 = .ok (.ladd, 1) := by decide +kernel
theorem dX7_draw_15 : decode cX7_draw 15 = .ok (.lstore_n 2, 1) := by decide +kernel
theorem dX7_draw_16 : decode cX7_draw 16 = .ok (.lload_n 2, 1) := by decide +kernel
theorem dX7_draw_17 : decode cX7_draw 17 = .ok (.lload_n 2, 1) := by decide +kernel
theorem dX7_draw_18 : decode cX7_draw 18 = .ok (.lmul, 1) := by decide +kernel
theorem dX7_draw_19 : decode cX7_draw 19 = .ok (.ldc2_w 266, 3) := by decide +kernel
theorem dX7_draw_22 : decode cX7_draw 22 = .ok (.lrem, 1) := by decide +kernel
theorem dX7_draw_23 : decode cX7_draw 23 = .ok (.ldc2_w 268, 3) := by decide +kernel
theorem dX7_draw_26 : decode cX7_draw 26 = .ok (.ldiv, 1) := by decide +kernel
theorem dX7_draw_27 : decode cX7_draw 27 = .ok (.ldc2_w 270, 3) := by decide +kernel
theorem dX7_draw_30 : decode cX7_draw 30 = .ok (.lrem, 1) := by decide +kernel
theorem dX7_draw_31 : decode cX7_draw 31 = .ok (.l2i, 1) := by decide +kernel
theorem dX7_draw_32 : decode cX7_draw 32 = .ok (.ireturn, 1) := by decide +kernel
theorem dX7_power_0 : decode cX7_power 0 = .ok (.iconst 1, 1) := by decide +kernel
theorem dX7_power_1 : decode cX7_power 1 = .ok (.istore_n 2, 1) := by decide +kernel
theorem dX7_power_2 : decode cX7_power 2 = .ok (.iconst 0, 1) := by decide +kernel
theorem dX7_power_3 : decode cX7_power 3 = .ok (.istore_n 3, 1) := by decide +kernel
theorem dX7_power_4 : decode cX7_power 4 = .ok (.iload_n 3, 1) := by decide +kernel
theorem dX7_power_5 : decode cX7_power 5 = .ok (.iload_n 1, 1) := by decide +kernel
theorem dX7_power_6 : decode cX7_power 6 = .ok (.if_icmp .ge 13, 3) := by decide +kernel
theorem dX7_power_9 : decode cX7_power 9 = .ok (.iload_n 2, 1) := by decide +kernel
theorem dX7_power_10 : decode cX7_power 10 = .ok (.iload_n 0, 1) := by decide +kernel
theorem dX7_power_11 : decode cX7_power 11 = .ok (.imul, 1) := by decide +kernel
theorem dX7_power_12 : decode cX7_power 12 = .ok (.istore_n 2, 1) := by decide +kernel
theorem dX7_power_13 : decode cX7_power 13 = .ok (.iinc 3 1, 3) := by decide +kernel
theorem dX7_power_16 : decode cX7_power 16 = .ok (.goto (-12), 3) := by decide +kernel
theorem dX7_power_19 : decode cX7_power 19 = .ok (.iload_n 2, 1) := by decide +kernel
theorem dX7_power_20 : decode cX7_power 20 = .ok (.ireturn, 1) := by decide +kernel
set_option maxRecDepth 20000 in
theorem ggX7_lowest_X7_commonDivisor : GoodIn wsX7_lowest wsX7_commonDivisor := goodIn_r _ [5] (by decide +kernel) (by decide +kernel)
set_option maxRecDepth 20000 in
theorem gX7_lowest_X7_commonDivisor : GoodIn wsX7_lowest (va_wsS RX7 272 yX7_commonDivisor wsX7_commonDivisor) := goodIn_app (goodIn_of _ (by decide +kernel)) ggX7_lowest_X7_commonDivisor
theorem dX7_lowest_0 : decode cX7_lowest 0 = .ok (.lload_n 0, 1) := by decide +kernel
theorem dX7_lowest_1 : decode cX7_lowest 1 = .ok (.lload_n 2, 1) := by decide +kernel
theorem dX7_lowest_2 : decode cX7_lowest 2 = .ok (.invokestatic 272, 3) := by decide +kernel
theorem dX7_lowest_5 : decode cX7_lowest 5 = .ok (.lstore 5, 2) := by decide +kernel
theorem dX7_lowest_7 : decode cX7_lowest 7 = .ok (.lload 5, 2) := by decide +kernel
theorem dX7_lowest_9 : decode cX7_lowest 9 = .ok (.lconst 0, 1) := by decide +kernel
theorem dX7_lowest_10 : decode cX7_lowest 10 = .ok (.lcmp, 1) := by decide +kernel
theorem dX7_lowest_11 : decode cX7_lowest 11 = .ok (.ifCond .ne 7, 3) := by decide +kernel
theorem dX7_lowest_14 : decode cX7_lowest 14 = .ok (.ldc2_w 178, 3) := by decide +kernel
theorem dX7_lowest_17 : decode cX7_lowest 17 = .ok (.lreturn, 1) := by decide +kernel
theorem dX7_lowest_18 : decode cX7_lowest 18 = .ok (.iload 4, 2) := by decide +kernel
theorem dX7_lowest_20 : decode cX7_lowest 20 = .ok (.ifCond .ne 7, 3) := by decide +kernel
theorem dX7_lowest_23 : decode cX7_lowest 23 = .ok (.lload_n 0, 1) := by decide +kernel
theorem dX7_lowest_24 : decode cX7_lowest 24 = .ok (.goto 4, 3) := by decide +kernel
theorem dX7_lowest_27 : decode cX7_lowest 27 = .ok (.lload_n 2, 1) := by decide +kernel
theorem dX7_lowest_28 : decode cX7_lowest 28 = .ok (.lload 5, 2) := by decide +kernel
theorem dX7_lowest_30 : decode cX7_lowest 30 = .ok (.ldiv, 1) := by decide +kernel
theorem dX7_lowest_31 : decode cX7_lowest 31 = .ok (.lreturn, 1) := by decide +kernel
theorem dX7_commonDivisor_0 : decode cX7_commonDivisor 0 = .ok (.iconst 0, 1) := by decide +kernel
theorem dX7_commonDivisor_1 : decode cX7_commonDivisor 1 = .ok (.istore 4, 2) := by decide +kernel
theorem dX7_commonDivisor_3 : decode cX7_commonDivisor 3 = .ok (.iload 4, 2) := by decide +kernel
theorem dX7_commonDivisor_5 : decode cX7_commonDivisor 5 = .ok (.sipush 200, 3) := by decide +kernel
theorem dX7_commonDivisor_8 : decode cX7_commonDivisor 8 = .ok (.if_icmp .ge 25, 3) := by decide +kernel
theorem dX7_commonDivisor_11 : decode cX7_commonDivisor 11 = .ok (.lload_n 2, 1) := by decide +kernel
theorem dX7_commonDivisor_12 : decode cX7_commonDivisor 12 = .ok (.lconst 0, 1) := by decide +kernel
theorem dX7_commonDivisor_13 : decode cX7_commonDivisor 13 = .ok (.lcmp, 1) := by decide +kernel
theorem dX7_commonDivisor_14 : decode cX7_commonDivisor 14 = .ok (.ifCond .eq 19, 3) := by decide +kernel
theorem dX7_commonDivisor_17 : decode cX7_commonDivisor 17 = .ok (.lload_n 0, 1) := by decide +kernel
theorem dX7_commonDivisor_18 : decode cX7_commonDivisor 18 = .ok (.lload_n 2, 1) := by decide +kernel
theorem dX7_commonDivisor_19 : decode cX7_commonDivisor 19 = .ok (.lrem, 1) := by decide +kernel
theorem dX7_commonDivisor_20 : decode cX7_commonDivisor 20 = .ok (.lstore 5, 2) := by decide +kernel
theorem dX7_commonDivisor_22 : decode cX7_commonDivisor 22 = .ok (.lload_n 2, 1) := by decide +kernel
theorem dX7_commonDivisor_23 : decode cX7_commonDivisor 23 = .ok (.lstore_n 0, 1) := by decide +kernel
theorem dX7_commonDivisor_24 : decode cX7_commonDivisor 24 = .ok (.lload 5, 2) := by decide +kernel
theorem dX7_commonDivisor_26 : decode cX7_commonDivisor 26 = .ok (.lstore_n 2, 1) := by decide +kernel
theorem dX7_commonDivisor_27 : decode cX7_commonDivisor 27 = .ok (.iinc 4 1, 3) := by decide +kernel
theorem dX7_commonDivisor_30 : decode cX7_commonDivisor 30 = .ok (.goto (-27), 3) := by decide +kernel
theorem dX7_commonDivisor_33 : decode cX7_commonDivisor 33 = .ok (.lload_n 0, 1) := by decide +kernel
theorem dX7_commonDivisor_34 : decode cX7_commonDivisor 34 = .ok (.lreturn, 1) := by decide +kernel
theorem dX7_byTen_0 : decode cX7_byTen 0 = .ok (.iload_n 0, 1) := by decide +kernel
theorem dX7_byTen_1 : decode cX7_byTen 1 = .ok (.ifCond .ne 35, 3) := by decide +kernel
theorem dX7_byTen_4 : decode cX7_byTen 4 = .ok (.iload_n 3, 1) := by decide +kernel
theorem dX7_byTen_5 : decode cX7_byTen 5 = .ok (.iload_n 2, 1) := by decide +kernel
theorem dX7_byTen_6 : decode cX7_byTen 6 = .ok (.if_icmp .ne 10, 3) := by decide +kernel
theorem dX7_byTen_9 : decode cX7_byTen 9 = .ok (.bipush 10, 2) := by decide +kernel
theorem dX7_byTen_11 : decode cX7_byTen 11 = .ok (.iconst 2, 1) := by decide +kernel
theorem dX7_byTen_12 : decode cX7_byTen 12 = .ok (.iload_n 1, 1) := by decide +kernel
theorem dX7_byTen_13 : decode cX7_byTen 13 = .ok (.imul, 1) := by decide +kernel
theorem dX7_byTen_14 : decode cX7_byTen 14 = .ok (.isub, 1) := by decide +kernel
theorem dX7_byTen_15 : decode cX7_byTen 15 = .ok (.ireturn, 1) := by decide +kernel
theorem dX7_byTen_16 : decode cX7_byTen 16 = .ok (.iload_n 3, 1) := by decide +kernel
theorem dX7_byTen_17 : decode cX7_byTen 17 = .ok (.iload_n 2, 1) := by decide +kernel
theorem dX7_byTen_18 : decode cX7_byTen 18 = .ok (.iconst 1, 1) := by decide +kernel
theorem dX7_byTen_19 : decode cX7_byTen 19 = .ok (.isub, 1) := by decide +kernel
theorem dX7_byTen_20 : decode cX7_byTen 20 = .ok (.if_icmp .eq 10, 3) := by decide +kernel
theorem dX7_byTen_23 : decode cX7_byTen 23 = .ok (.iload_n 3, 1) := by decide +kernel
theorem dX7_byTen_24 : decode cX7_byTen 24 = .ok (.iload_n 2, 1) := by decide +kernel
theorem dX7_byTen_25 : decode cX7_byTen 25 = .ok (.iconst 1, 1) := by decide +kernel
theorem dX7_byTen_26 : decode cX7_byTen 26 = .ok (.iadd, 1) := by decide +kernel
theorem dX7_byTen_27 : decode cX7_byTen 27 = .ok (.if_icmp .ne 7, 3) := by decide +kernel
theorem dX7_byTen_30 : decode cX7_byTen 30 = .ok (.iload_n 1, 1) := by decide +kernel
theorem dX7_byTen_31 : decode cX7_byTen 31 = .ok (.goto 4, 3) := by decide +kernel
theorem dX7_byTen_34 : decode cX7_byTen 34 = .ok (.iconst 0, 1) := by decide +kernel
theorem dX7_byTen_35 : decode cX7_byTen 35 = .ok (.ireturn, 1) := by decide +kernel
theorem dX7_byTen_36 : decode cX7_byTen 36 = .ok (.iload_n 0, 1) := by decide +kernel
theorem dX7_byTen_37 : decode cX7_byTen 37 = .ok (.iconst 1, 1) := by decide +kernel
theorem dX7_byTen_38 : decode cX7_byTen 38 = .ok (.if_icmp .eq 12, 3) := by decide +kernel
theorem dX7_byTen_41 : decode cX7_byTen 41 = .ok (.iload_n 2, 1) := by decide +kernel
theorem dX7_byTen_42 : decode cX7_byTen 42 = .ok (.iconst (-1), 1) := by decide +kernel
theorem dX7_byTen_43 : decode cX7_byTen 43 = .ok (.if_icmp .ne 7, 3) := by decide +kernel
theorem dX7_byTen_46 : decode cX7_byTen 46 = .ok (.iload_n 1, 1) := by decide +kernel
theorem dX7_byTen_47 : decode cX7_byTen 47 = .ok (.goto 4, 3) := by decide +kernel
theorem dX7_byTen_50 : decode cX7_byTen 50 = .ok (.iconst 0, 1) := by decide +kernel
theorem dX7_byTen_51 : decode cX7_byTen 51 = .ok (.istore 4, 2) := by decide +kernel
theorem dX7_byTen_53 : decode cX7_byTen 53 = .ok (.iload_n 3, 1) := by decide +kernel
theorem dX7_byTen_54 : decode cX7_byTen 54 = .ok (.iload_n 2, 1) := by decide +kernel
theorem dX7_byTen_55 : decode cX7_byTen 55 = .ok (.if_icmp .ne 9, 3) := by decide +kernel
theorem dX7_byTen_58 : decode cX7_byTen 58 = .ok (.bipush 10, 2) := by decide +kernel
theorem dX7_byTen_60 : decode cX7_byTen 60 = .ok (.iload 4, 2) := by decide +kernel
theorem dX7_byTen_62 : decode cX7_byTen 62 = .ok (.isub, 1) := by decide +kernel
theorem dX7_byTen_63 : decode cX7_byTen 63 = .ok (.ireturn, 1) := by decide +kernel
theorem dX7_byTen_64 : decode cX7_byTen 64 = .ok (.iload_n 3, 1) := by decide +kernel
theorem dX7_byTen_65 : decode cX7_byTen 65 = .ok (.ifCond .ne 8, 3) := by decide +kernel
theorem dX7_byTen_68 : decode cX7_byTen 68 = .ok (.iload 4, 2) := by decide +kernel
theorem dX7_byTen_70 : decode cX7_byTen 70 = .ok (.goto 4, 3) := by decide +kernel
theorem dX7_byTen_73 : decode cX7_byTen 73 = .ok (.iconst 0, 1) := by decide +kernel
theorem dX7_byTen_74 : decode cX7_byTen 74 = .ok (.ireturn, 1) := by decide +kernel
