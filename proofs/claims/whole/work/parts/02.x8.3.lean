theorem dX8_marches_205 : decode cX8_marches 205 = .ok (.iload 9, 2) := by decide +kernel
theorem dX8_marches_207 : decode cX8_marches 207 = .ok (.iload 11, 2) := by decide +kernel
theorem dX8_marches_209 : decode cX8_marches 209 = .ok (.iastore, 1) := by decide +kernel
theorem dX8_marches_210 : decode cX8_marches 210 = .ok (.aload_n 0, 1) := by decide +kernel
theorem dX8_marches_211 : decode cX8_marches 211 = .ok (.getfield 41, 3) := by decide +kernel
theorem dX8_marches_214 : decode cX8_marches 214 = .ok (.iload 11, 2) := by decide +kernel
theorem dX8_marches_216 : decode cX8_marches 216 = .ok (.iload 9, 2) := by decide +kernel
theorem dX8_marches_218 : decode cX8_marches 218 = .ok (.iastore, 1) := by decide +kernel
theorem dX8_marches_219 : decode cX8_marches 219 = .ok (.iload 4, 2) := by decide +kernel
theorem dX8_marches_221 : decode cX8_marches 221 = .ok (.iconst 1, 1) := by decide +kernel
theorem dX8_marches_222 : decode cX8_marches 222 = .ok (.iload 9, 2) := by decide +kernel
theorem dX8_marches_224 : decode cX8_marches 224 = .ok (.ishl, 1) := by decide +kernel
theorem dX8_marches_225 : decode cX8_marches 225 = .ok (.iconst 1, 1) := by decide +kernel
theorem dX8_marches_226 : decode cX8_marches 226 = .ok (.iload 11, 2) := by decide +kernel
theorem dX8_marches_228 : decode cX8_marches 228 = .ok (.ishl, 1) := by decide +kernel
theorem dX8_marches_229 : decode cX8_marches 229 = .ok (.ior, 1) := by decide +kernel
theorem dX8_marches_230 : decode cX8_marches 230 = .ok (.ior, 1) := by decide +kernel
theorem dX8_marches_231 : decode cX8_marches 231 = .ok (.istore 4, 2) := by decide +kernel
theorem dX8_marches_233 : decode cX8_marches 233 = .ok (.iinc 9 1, 3) := by decide +kernel
theorem dX8_marches_236 : decode cX8_marches 236 = .ok (.goto (-191), 3) := by decide +kernel
theorem dX8_marches_239 : decode cX8_marches 239 = .ok (.iload 8, 2) := by decide +kernel
theorem dX8_marches_241 : decode cX8_marches 241 = .ok (.ifCond .eq 31, 3) := by decide +kernel
theorem dX8_marches_244 : decode cX8_marches 244 = .ok (.iload 5, 2) := by decide +kernel
theorem dX8_marches_246 : decode cX8_marches 246 = .ok (.iload_n 1, 1) := by decide +kernel
theorem dX8_marches_247 : decode cX8_marches 247 = .ok (.iconst 2, 1) := by decide +kernel
theorem dX8_marches_248 : decode cX8_marches 248 = .ok (.irem, 1) := by decide +kernel
theorem dX8_marches_249 : decode cX8_marches 249 = .ok (.if_icmp .ne 23, 3) := by decide +kernel
theorem dX8_marches_252 : decode cX8_marches 252 = .ok (.aload_n 0, 1) := by decide +kernel
theorem dX8_marches_253 : decode cX8_marches 253 = .ok (.getfield 200, 3) := by decide +kernel
theorem dX8_marches_256 : decode cX8_marches 256 = .ok (.ifCond .lt 12, 3) := by decide +kernel
theorem dX8_marches_259 : decode cX8_marches 259 = .ok (.iload 6, 2) := by decide +kernel
theorem dX8_marches_261 : decode cX8_marches 261 = .ok (.aload_n 0, 1) := by decide +kernel
theorem dX8_marches_262 : decode cX8_marches 262 = .ok (.getfield 200, 3) := by decide +kernel
theorem dX8_marches_265 : decode cX8_marches 265 = .ok (.if_icmp .ge 7, 3) := by decide +kernel
theorem dX8_marches_268 : decode cX8_marches 268 = .ok (.iconst 1, 1) := by decide +kernel
theorem dX8_marches_269 : decode cX8_marches 269 = .ok (.goto 4, 3) := by decide +kernel
theorem dX8_marches_272 : decode cX8_marches 272 = .ok (.iconst 0, 1) := by decide +kernel
theorem dX8_marches_273 : decode cX8_marches 273 = .ok (.istore 8, 2) := by decide +kernel
theorem dX8_marches_275 : decode cX8_marches 275 = .ok (.aload_n 0, 1) := by decide +kernel
theorem dX8_marches_276 : decode cX8_marches 276 = .ok (.iload 8, 2) := by decide +kernel
theorem dX8_marches_278 : decode cX8_marches 278 = .ok (.ifCond .eq 8, 3) := by decide +kernel
theorem dX8_marches_281 : decode cX8_marches 281 = .ok (.iload 6, 2) := by decide +kernel
theorem dX8_marches_283 : decode cX8_marches 283 = .ok (.goto 7, 3) := by decide +kernel
theorem dX8_marches_286 : decode cX8_marches 286 = .ok (.aload_n 0, 1) := by decide +kernel
theorem dX8_marches_287 : decode cX8_marches 287 = .ok (.getfield 200, 3) := by decide +kernel
theorem dX8_marches_290 : decode cX8_marches 290 = .ok (.putfield 200, 3) := by decide +kernel
theorem dX8_marches_293 : decode cX8_marches 293 = .ok (.iconst 0, 1) := by decide +kernel
theorem dX8_marches_294 : decode cX8_marches 294 = .ok (.istore 9, 2) := by decide +kernel
theorem dX8_marches_296 : decode cX8_marches 296 = .ok (.iload 9, 2) := by decide +kernel
theorem dX8_marches_298 : decode cX8_marches 298 = .ok (.iload_n 1, 1) := by decide +kernel
theorem dX8_marches_299 : decode cX8_marches 299 = .ok (.if_icmp .ge 28, 3) := by decide +kernel
theorem dX8_marches_302 : decode cX8_marches 302 = .ok (.iload 8, 2) := by decide +kernel
theorem dX8_marches_304 : decode cX8_marches 304 = .ok (.ifCond .eq 23, 3) := by decide +kernel
theorem dX8_marches_307 : decode cX8_marches 307 = .ok (.aload_n 0, 1) := by decide +kernel
theorem dX8_marches_308 : decode cX8_marches 308 = .ok (.getfield 38, 3) := by decide +kernel
theorem dX8_marches_311 : decode cX8_marches 311 = .ok (.iload 9, 2) := by decide +kernel
theorem dX8_marches_313 : decode cX8_marches 313 = .ok (.aload_n 0, 1) := by decide +kernel
theorem dX8_marches_314 : decode cX8_marches 314 = .ok (.getfield 41, 3) := by decide +kernel
theorem dX8_marches_317 : decode cX8_marches 317 = .ok (.iload 9, 2) := by decide +kernel
theorem dX8_marches_319 : decode cX8_marches 319 = .ok (.iaload, 1) := by decide +kernel
theorem dX8_marches_320 : decode cX8_marches 320 = .ok (.iastore, 1) := by decide +kernel
theorem dX8_marches_321 : decode cX8_marches 321 = .ok (.iinc 9 1, 3) := by decide +kernel
theorem dX8_marches_324 : decode cX8_marches 324 = .ok (.goto (-28), 3) := by decide +kernel
theorem dX8_marches_327 : decode cX8_marches 327 = .ok (.iinc 3 1, 3) := by decide +kernel
theorem dX8_marches_330 : decode cX8_marches 330 = .ok (.goto (-308), 3) := by decide +kernel
theorem dX8_marches_333 : decode cX8_marches 333 = .ok (.return_, 1) := by decide +kernel
set_option maxRecDepth 20000 in
theorem ggX8_march_X8_isFriend : GoodIn wsX8_march wsX8_isFriend := goodIn_r _ [7, 8, 9, 10, 6, 11, 21, 22, 23, 24, 25, 26, 27, 28, 29, 30, 31, 32, 33, 34, 35, 36, 37, 38, 39, 40, 41, 42] (by decide +kernel) (by decide +kernel)
set_option maxRecDepth 20000 in
theorem gX8_march_X8_isFriend : GoodIn wsX8_march (wsV RX8 125 RX8 yX8_isFriend wsX8_isFriend) := goodIn_app (goodIn_of _ (by decide +kernel)) ggX8_march_X8_isFriend
set_option maxRecDepth 20000 in
theorem ggX8_march_X8_marches : GoodIn wsX8_march wsX8_marches := goodIn_r _ [15, 8, 1, 16, 2, 17, 18, 19, 6, 20, 21, 22, 23, 24, 25, 26, 27, 28, 29, 30, 31, 32, 33, 34, 35, 36, 37, 38, 39, 40, 41, 42] (by decide +kernel) (by decide +kernel)
set_option maxRecDepth 20000 in
theorem gX8_march_X8_marches : GoodIn wsX8_march (wsV RX8 203 RX8 yX8_marches wsX8_marches) := goodIn_app (goodIn_of _ (by decide +kernel)) ggX8_march_X8_marches
theorem dX8_march_0 : decode cX8_march 0 = .ok (.iload_n 1, 1) := by decide +kernel
theorem dX8_march_1 : decode cX8_march 1 = .ok (.iconst (-1), 1) := by decide +kernel
theorem dX8_march_2 : decode cX8_march 2 = .ok (.if_icmp .eq 13, 3) := by decide +kernel
theorem dX8_march_5 : decode cX8_march 5 = .ok (.aload_n 0, 1) := by decide +kernel
theorem dX8_march_6 : decode cX8_march 6 = .ok (.iload_n 1, 1) := by decide +kernel
theorem dX8_march_7 : decode cX8_march 7 = .ok (.invokevirtual 125, 3) := by decide +kernel
theorem dX8_march_10 : decode cX8_march 10 = .ok (.ifCond .ne 5, 3) := by decide +kernel
theorem dX8_march_13 : decode cX8_march 13 = .ok (.iconst (-1), 1) := by decide +kernel
theorem dX8_march_14 : decode cX8_march 14 = .ok (.ireturn, 1) := by decide +kernel
theorem dX8_march_15 : decode cX8_march 15 = .ok (.aload_n 0, 1) := by decide +kernel
theorem dX8_march_16 : decode cX8_march 16 = .ok (.invokevirtual 203, 3) := by decide +kernel
theorem dX8_march_19 : decode cX8_march 19 = .ok (.iload_n 1, 1) := by decide +kernel
theorem dX8_march_20 : decode cX8_march 20 = .ok (.ifCond .ge 10, 3) := by decide +kernel
theorem dX8_march_23 : decode cX8_march 23 = .ok (.aload_n 0, 1) := by decide +kernel
theorem dX8_march_24 : decode cX8_march 24 = .ok (.getfield 200, 3) := by decide +kernel
theorem dX8_march_27 : decode cX8_march 27 = .ok (.goto 9, 3) := by decide +kernel
theorem dX8_march_30 : decode cX8_march 30 = .ok (.aload_n 0, 1) := by decide +kernel
theorem dX8_march_31 : decode cX8_march 31 = .ok (.getfield 38, 3) := by decide +kernel
theorem dX8_march_34 : decode cX8_march 34 = .ok (.iload_n 1, 1) := by decide +kernel
theorem dX8_march_35 : decode cX8_march 35 = .ok (.iaload, 1) := by decide +kernel
theorem dX8_march_36 : decode cX8_march 36 = .ok (.ireturn, 1) := by decide +kernel
set_option maxRecDepth 20000 in
theorem ggX8_schools_X8_in : GoodIn wsX8_schools wsX8_in := goodIn_r _ [5] (by decide +kernel) (by decide +kernel)
set_option maxRecDepth 20000 in
theorem gX8_schools_X8_in : GoodIn wsX8_schools (va_wsS RX8 63 yX8_in wsX8_in) := goodIn_app (goodIn_of _ (by decide +kernel)) ggX8_schools_X8_in
theorem dX8_schools_0 : decode cX8_schools 0 = .ok (.iload_n 1, 1) := by decide +kernel
theorem dX8_schools_1 : decode cX8_schools 1 = .ok (.i2l, 1) := by decide +kernel
theorem dX8_schools_2 : decode cX8_schools 2 = .ok (.lconst 0, 1) := by decide +kernel
theorem dX8_schools_3 : decode cX8_schools 3 = .ok (.ldc2_w 176, 3) := by decide +kernel
theorem dX8_schools_6 : decode cX8_schools 6 = .ok (.invokestatic 63, 3) := by decide +kernel
theorem dX8_schools_9 : decode cX8_schools 9 = .ok (.ifCond .eq 25, 3) := by decide +kernel
theorem dX8_schools_12 : decode cX8_schools 12 = .ok (.iload_n 2, 1) := by decide +kernel
theorem dX8_schools_13 : decode cX8_schools 13 = .ok (.i2l, 1) := by decide +kernel
theorem dX8_schools_14 : decode cX8_schools 14 = .ok (.lconst 0, 1) := by decide +kernel
theorem dX8_schools_15 : decode cX8_schools 15 = .ok (.ldc2_w 176, 3) := by decide +kernel
theorem dX8_schools_18 : decode cX8_schools 18 = .ok (.invokestatic 63, 3) := by decide +kernel
theorem dX8_schools_21 : decode cX8_schools 21 = .ok (.ifCond .eq 13, 3) := by decide +kernel
theorem dX8_schools_24 : decode cX8_schools 24 = .ok (.iload_n 3, 1) := by decide +kernel
theorem dX8_schools_25 : decode cX8_schools 25 = .ok (.i2l, 1) := by decide +kernel
theorem dX8_schools_26 : decode cX8_schools 26 = .ok (.lconst 0, 1) := by decide +kernel
theorem dX8_schools_27 : decode cX8_schools 27 = .ok (.lconst 1, 1) := by decide +kernel
theorem dX8_schools_28 : decode cX8_schools 28 = .ok (.invokestatic 63, 3) := by decide +kernel
theorem dX8_schools_31 : decode cX8_schools 31 = .ok (.ifCond .ne 5, 3) := by decide +kernel
theorem dX8_schools_34 : decode cX8_schools 34 = .ok (.iconst (-1), 1) := by decide +kernel
theorem dX8_schools_35 : decode cX8_schools 35 = .ok (.ireturn, 1) := by decide +kernel
theorem dX8_schools_36 : decode cX8_schools 36 = .ok (.iload_n 1, 1) := by decide +kernel
theorem dX8_schools_37 : decode cX8_schools 37 = .ok (.ifCond .eq 7, 3) := by decide +kernel
theorem dX8_schools_40 : decode cX8_schools 40 = .ok (.iload_n 2, 1) := by decide +kernel
theorem dX8_schools_41 : decode cX8_schools 41 = .ok (.ifCond .ne 7, 3) := by decide +kernel
theorem dX8_schools_44 : decode cX8_schools 44 = .ok (.iconst 0, 1) := by decide +kernel
theorem dX8_schools_45 : decode cX8_schools 45 = .ok (.goto 25, 3) := by decide +kernel
theorem dX8_schools_48 : decode cX8_schools 48 = .ok (.iload_n 3, 1) := by decide +kernel
theorem dX8_schools_49 : decode cX8_schools 49 = .ok (.ifCond .ne 16, 3) := by decide +kernel
theorem dX8_schools_52 : decode cX8_schools 52 = .ok (.iload_n 1, 1) := by decide +kernel
theorem dX8_schools_53 : decode cX8_schools 53 = .ok (.iload_n 2, 1) := by decide +kernel
theorem dX8_schools_54 : decode cX8_schools 54 = .ok (.if_icmp .ge 7, 3) := by decide +kernel
theorem dX8_schools_57 : decode cX8_schools 57 = .ok (.iload_n 1, 1) := by decide +kernel
theorem dX8_schools_58 : decode cX8_schools 58 = .ok (.goto 12, 3) := by decide +kernel
theorem dX8_schools_61 : decode cX8_schools 61 = .ok (.iload_n 2, 1) := by decide +kernel
theorem dX8_schools_62 : decode cX8_schools 62 = .ok (.goto 8, 3) := by decide +kernel
theorem dX8_schools_65 : decode cX8_schools 65 = .ok (.iload_n 1, 1) := by decide +kernel
theorem dX8_schools_66 : decode cX8_schools 66 = .ok (.iload_n 2, 1) := by decide +kernel
theorem dX8_schools_67 : decode cX8_schools 67 = .ok (.iadd, 1) := by decide +kernel
theorem dX8_schools_68 : decode cX8_schools 68 = .ok (.iconst 1, 1) := by decide +kernel
theorem dX8_schools_69 : decode cX8_schools 69 = .ok (.isub, 1) := by decide +kernel
theorem dX8_schools_70 : decode cX8_schools 70 = .ok (.ireturn, 1) := by decide +kernel
set_option maxRecDepth 20000 in
theorem ggX8_day_X8_in : GoodIn wsX8_day wsX8_in := goodIn_r _ [11] (by decide +kernel) (by decide +kernel)
set_option maxRecDepth 20000 in
theorem gX8_day_X8_in : GoodIn wsX8_day (va_wsS RX8 63 yX8_in wsX8_in) := goodIn_app (goodIn_of _ (by decide +kernel)) ggX8_day_X8_in
set_option maxRecDepth 20000 in
theorem ggX8_day_X8_m : GoodIn wsX8_day wsX8_m := goodIn_r _ [15, 2, 16, 17, 18, 19, 20, 21, 22, 23, 24, 25, 26, 27, 28, 29, 30, 31, 32, 33, 34, 35, 36, 37] (by decide +kernel) (by decide +kernel)
set_option maxRecDepth 20000 in
theorem gX8_day_X8_m : GoodIn wsX8_day (wsV RX8 173 RX8 yX8_m wsX8_m) := goodIn_app (goodIn_of _ (by decide +kernel)) ggX8_day_X8_m
theorem dX8_day_0 : decode cX8_day 0 = .ok (.iload_n 1, 1) := by decide +kernel
theorem dX8_day_1 : decode cX8_day 1 = .ok (.i2l, 1) := by decide +kernel
theorem dX8_day_2 : decode cX8_day 2 = .ok (.lconst 0, 1) := by decide +kernel
theorem dX8_day_3 : decode cX8_day 3 = .ok (.ldc2_w 206, 3) := by decide +kernel
theorem dX8_day_6 : decode cX8_day 6 = .ok (.invokestatic 63, 3) := by decide +kernel
theorem dX8_day_9 : decode cX8_day 9 = .ok (.ifCond .eq 33, 3) := by decide +kernel
theorem dX8_day_12 : decode cX8_day 12 = .ok (.iload_n 2, 1) := by decide +kernel
theorem dX8_day_13 : decode cX8_day 13 = .ok (.i2l, 1) := by decide +kernel
theorem dX8_day_14 : decode cX8_day 14 = .ok (.lconst 0, 1) := by decide +kernel
theorem dX8_day_15 : decode cX8_day 15 = .ok (.iconst 1, 1) := by decide +kernel
theorem dX8_day_16 : decode cX8_day 16 = .ok (.aload_n 0, 1) := by decide +kernel
theorem dX8_day_17 : decode cX8_day 17 = .ok (.getfield 7, 3) := by decide +kernel
theorem dX8_day_20 : decode cX8_day 20 = .ok (.iconst 0, 1) := by decide +kernel
theorem dX8_day_21 : decode cX8_day 21 = .ok (.iaload, 1) := by decide +kernel
theorem dX8_day_22 : decode cX8_day 22 = .ok (.ishl, 1) := by decide +kernel
theorem dX8_day_23 : decode cX8_day 23 = .ok (.iconst 1, 1) := by decide +kernel
theorem dX8_day_24 : decode cX8_day 24 = .ok (.isub, 1) := by decide +kernel
theorem dX8_day_25 : decode cX8_day 25 = .ok (.i2l, 1) := by decide +kernel
theorem dX8_day_26 : decode cX8_day 26 = .ok (.invokestatic 63, 3) := by decide +kernel
theorem dX8_day_29 : decode cX8_day 29 = .ok (.ifCond .eq 13, 3) := by decide +kernel
theorem dX8_day_32 : decode cX8_day 32 = .ok (.iload_n 3, 1) := by decide +kernel
theorem dX8_day_33 : decode cX8_day 33 = .ok (.i2l, 1) := by decide +kernel
theorem dX8_day_34 : decode cX8_day 34 = .ok (.lconst 0, 1) := by decide +kernel
theorem dX8_day_35 : decode cX8_day 35 = .ok (.lconst 1, 1) := by decide +kernel
theorem dX8_day_36 : decode cX8_day 36 = .ok (.invokestatic 63, 3) := by decide +kernel
theorem dX8_day_39 : decode cX8_day 39 = .ok (.ifCond .ne 5, 3) := by decide +kernel
theorem dX8_day_42 : decode cX8_day 42 = .ok (.iconst (-1), 1) := by decide +kernel
theorem dX8_day_43 : decode cX8_day 43 = .ok (.ireturn, 1) := by decide +kernel
theorem dX8_day_44 : decode cX8_day 44 = .ok (.iconst 0, 1) := by decide +kernel
theorem dX8_day_45 : decode cX8_day 45 = .ok (.istore 4, 2) := by decide +kernel
theorem dX8_day_47 : decode cX8_day 47 = .ok (.iconst 0, 1) := by decide +kernel
theorem dX8_day_48 : decode cX8_day 48 = .ok (.istore 5, 2) := by decide +kernel
theorem dX8_day_50 : decode cX8_day 50 = .ok (.iconst 0, 1) := by decide +kernel
theorem dX8_day_51 : decode cX8_day 51 = .ok (.istore 6, 2) := by decide +kernel
theorem dX8_day_53 : decode cX8_day 53 = .ok (.iconst 1, 1) := by decide +kernel
theorem dX8_day_54 : decode cX8_day 54 = .ok (.istore 7, 2) := by decide +kernel
theorem dX8_day_56 : decode cX8_day 56 = .ok (.iload 7, 2) := by decide +kernel
theorem dX8_day_58 : decode cX8_day 58 = .ok (.aload_n 0, 1) := by decide +kernel
theorem dX8_day_59 : decode cX8_day 59 = .ok (.getfield 7, 3) := by decide +kernel
theorem dX8_day_62 : decode cX8_day 62 = .ok (.iconst 0, 1) := by decide +kernel
theorem dX8_day_63 : decode cX8_day 63 = .ok (.iaload, 1) := by decide +kernel
theorem dX8_day_64 : decode cX8_day 64 = .ok (.if_icmp .gt 167, 3) := by decide +kernel
theorem dX8_day_67 : decode cX8_day 67 = .ok (.ldc2_w 208, 3) := by decide +kernel
theorem dX8_day_70 : decode cX8_day 70 = .ok (.iload_n 1, 1) := by decide +kernel
theorem dX8_day_71 : decode cX8_day 71 = .ok (.i2l, 1) := by decide +kernel
theorem dX8_day_72 : decode cX8_day 72 = .ok (.lmul, 1) := by decide +kernel
theorem dX8_day_73 : decode cX8_day 73 = .ok (.ldc2_w 210, 3) := by decide +kernel
theorem dX8_day_76 : decode cX8_day 76 = .ok (.iload 7, 2) := by decide +kernel
theorem dX8_day_78 : decode cX8_day 78 = .ok (.i2l, 1) := by decide +kernel
theorem dX8_day_79 : decode cX8_day 79 = .ok (.lmul, 1) := by decide +kernel
theorem dX8_day_80 : decode cX8_day 80 = .ok (.ladd, 1) := by decide +kernel
theorem dX8_day_81 : decode cX8_day 81 = .ok (.lconst 1, 1) := by decide +kernel
theorem dX8_day_82 : decode cX8_day 82 = .ok (.ladd, 1) := by decide +kernel
theorem dX8_day_83 : decode cX8_day 83 = .ok (.lstore 8, 2) := by decide +kernel
theorem dX8_day_85 : decode cX8_day 85 = .ok (.lload 8, 2) := by decide +kernel
theorem dX8_day_87 : decode cX8_day 87 = .ok (.lload 8, 2) := by decide +kernel
theorem dX8_day_89 : decode cX8_day 89 = .ok (.lmul, 1) := by decide +kernel
theorem dX8_day_90 : decode cX8_day 90 = .ok (.ldc2_w 212, 3) := by decide +kernel
theorem dX8_day_93 : decode cX8_day 93 = .ok (.lrem, 1) := by decide +kernel
theorem dX8_day_94 : decode cX8_day 94 = .ok (.ldc2_w 214, 3) := by decide +kernel
theorem dX8_day_97 : decode cX8_day 97 = .ok (.ldiv, 1) := by decide +kernel
theorem dX8_day_98 : decode cX8_day 98 = .ok (.ldc2_w 167, 3) := by decide +kernel
theorem dX8_day_101 : decode cX8_day 101 = .ok (.lrem, 1) := by decide +kernel
theorem dX8_day_102 : decode cX8_day 102 = .ok (.lstore 10, 2) := by decide +kernel
theorem dX8_day_104 : decode cX8_day 104 = .ok (.lload 10, 2) := by decide +kernel
theorem dX8_day_106 : decode cX8_day 106 = .ok (.iload 4, 2) := by decide +kernel
theorem dX8_day_108 : decode cX8_day 108 = .ok (.ifCond .eq 17, 3) := by decide +kernel
theorem dX8_day_111 : decode cX8_day 111 = .ok (.aload_n 0, 1) := by decide +kernel
theorem dX8_day_112 : decode cX8_day 112 = .ok (.getfield 7, 3) := by decide +kernel
theorem dX8_day_115 : decode cX8_day 115 = .ok (.iconst 4, 1) := by decide +kernel
theorem dX8_day_116 : decode cX8_day 116 = .ok (.iconst 3, 1) := by decide +kernel
theorem dX8_day_117 : decode cX8_day 117 = .ok (.iload 7, 2) := by decide +kernel
theorem dX8_day_119 : decode cX8_day 119 = .ok (.imul, 1) := by decide +kernel
theorem dX8_day_120 : decode cX8_day 120 = .ok (.iadd, 1) := by decide +kernel
theorem dX8_day_121 : decode cX8_day 121 = .ok (.iaload, 1) := by decide +kernel
theorem dX8_day_122 : decode cX8_day 122 = .ok (.goto 14, 3) := by decide +kernel
theorem dX8_day_125 : decode cX8_day 125 = .ok (.aload_n 0, 1) := by decide +kernel
theorem dX8_day_126 : decode cX8_day 126 = .ok (.getfield 7, 3) := by decide +kernel
theorem dX8_day_129 : decode cX8_day 129 = .ok (.iconst 3, 1) := by decide +kernel
theorem dX8_day_130 : decode cX8_day 130 = .ok (.iconst 3, 1) := by decide +kernel
theorem dX8_day_131 : decode cX8_day 131 = .ok (.iload 7, 2) := by decide +kernel
theorem dX8_day_133 : decode cX8_day 133 = .ok (.imul, 1) := by decide +kernel
theorem dX8_day_134 : decode cX8_day 134 = .ok (.iadd, 1) := by decide +kernel
theorem dX8_day_135 : decode cX8_day 135 = .ok (.iaload, 1) := by decide +kernel
theorem dX8_day_136 : decode cX8_day 136 = .ok (.i2l, 1) := by decide +kernel
theorem dX8_day_137 : decode cX8_day 137 = .ok (.lcmp, 1) := by decide +kernel
theorem dX8_day_138 : decode cX8_day 138 = .ok (.ifCond .ge 7, 3) := by decide +kernel
theorem dX8_day_141 : decode cX8_day 141 = .ok (.iconst 1, 1) := by decide +kernel
theorem dX8_day_142 : decode cX8_day 142 = .ok (.goto 4, 3) := by decide +kernel
theorem dX8_day_145 : decode cX8_day 145 = .ok (.iconst 0, 1) := by decide +kernel
theorem dX8_day_146 : decode cX8_day 146 = .ok (.istore 12, 2) := by decide +kernel
theorem dX8_day_148 : decode cX8_day 148 = .ok (.iload 6, 2) := by decide +kernel
theorem dX8_day_150 : decode cX8_day 150 = .ok (.iload 12, 2) := by decide +kernel
theorem dX8_day_152 : decode cX8_day 152 = .ok (.ifCond .eq 12, 3) := by decide +kernel
theorem dX8_day_155 : decode cX8_day 155 = .ok (.iload 4, 2) := by decide +kernel
theorem dX8_day_157 : decode cX8_day 157 = .ok (.ifCond .ne 7, 3) := by decide +kernel
theorem dX8_day_160 : decode cX8_day 160 = .ok (.iconst 1, 1) := by decide +kernel
theorem dX8_day_161 : decode cX8_day 161 = .ok (.goto 4, 3) := by decide +kernel
theorem dX8_day_164 : decode cX8_day 164 = .ok (.iconst 0, 1) := by decide +kernel
theorem dX8_day_165 : decode cX8_day 165 = .ok (.iadd, 1) := by decide +kernel
theorem dX8_day_166 : decode cX8_day 166 = .ok (.istore 6, 2) := by decide +kernel
theorem dX8_day_168 : decode cX8_day 168 = .ok (.iload 12, 2) := by decide +kernel
theorem dX8_day_170 : decode cX8_day 170 = .ok (.iload 4, 2) := by decide +kernel
theorem dX8_day_172 : decode cX8_day 172 = .ok (.if_icmp .eq 7, 3) := by decide +kernel
theorem dX8_day_175 : decode cX8_day 175 = .ok (.iconst 1, 1) := by decide +kernel
theorem dX8_day_176 : decode cX8_day 176 = .ok (.goto 4, 3) := by decide +kernel
theorem dX8_day_179 : decode cX8_day 179 = .ok (.iconst 0, 1) := by decide +kernel
theorem dX8_day_180 : decode cX8_day 180 = .ok (.istore 4, 2) := by decide +kernel
theorem dX8_day_182 : decode cX8_day 182 = .ok (.iload 5, 2) := by decide +kernel
theorem dX8_day_184 : decode cX8_day 184 = .ok (.iload 4, 2) := by decide +kernel
theorem dX8_day_186 : decode cX8_day 186 = .ok (.ifCond .eq 12, 3) := by decide +kernel
theorem dX8_day_189 : decode cX8_day 189 = .ok (.aload_n 0, 1) := by decide +kernel
theorem dX8_day_190 : decode cX8_day 190 = .ok (.iload 7, 2) := by decide +kernel
theorem dX8_day_192 : decode cX8_day 192 = .ok (.invokevirtual 173, 3) := by decide +kernel
theorem dX8_day_195 : decode cX8_day 195 = .ok (.goto 4, 3) := by decide +kernel
theorem dX8_day_198 : decode cX8_day 198 = .ok (.iconst 0, 1) := by decide +kernel
theorem dX8_day_199 : decode cX8_day 199 = .ok (.iadd, 1) := by decide +kernel
theorem dX8_day_200 : decode cX8_day 200 = .ok (.istore 5, 2) := by decide +kernel
theorem dX8_day_202 : decode cX8_day 202 = .ok (.iload 4, 2) := by decide +kernel
theorem dX8_day_204 : decode cX8_day 204 = .ok (.ifCond .eq 18, 3) := by decide +kernel
theorem dX8_day_207 : decode cX8_day 207 = .ok (.iload_n 2, 1) := by decide +kernel
theorem dX8_day_208 : decode cX8_day 208 = .ok (.iload 7, 2) := by decide +kernel
theorem dX8_day_210 : decode cX8_day 210 = .ok (.iconst 1, 1) := by decide +kernel
theorem dX8_day_211 : decode cX8_day 211 = .ok (.isub, 1) := by decide +kernel
theorem dX8_day_212 : decode cX8_day 212 = .ok (.ishr, 1) := by decide +kernel
theorem dX8_day_213 : decode cX8_day 213 = .ok (.iconst 1, 1) := by decide +kernel
theorem dX8_day_214 : decode cX8_day 214 = .ok (.iand, 1) := by decide +kernel
theorem dX8_day_215 : decode cX8_day 215 = .ok (.ifCond .ne 7, 3) := by decide +kernel
theorem dX8_day_218 : decode cX8_day 218 = .ok (.iconst 1, 1) := by decide +kernel
theorem dX8_day_219 : decode cX8_day 219 = .ok (.goto 4, 3) := by decide +kernel
theorem dX8_day_222 : decode cX8_day 222 = .ok (.iconst 0, 1) := by decide +kernel
theorem dX8_day_223 : decode cX8_day 223 = .ok (.istore 4, 2) := by decide +kernel
theorem dX8_day_225 : decode cX8_day 225 = .ok (.iinc 7 1, 3) := by decide +kernel
theorem dX8_day_228 : decode cX8_day 228 = .ok (.goto (-172), 3) := by decide +kernel
theorem dX8_day_231 : decode cX8_day 231 = .ok (.iload_n 3, 1) := by decide +kernel
theorem dX8_day_232 : decode cX8_day 232 = .ok (.ifCond .ne 8, 3) := by decide +kernel
theorem dX8_day_235 : decode cX8_day 235 = .ok (.iload 5, 2) := by decide +kernel
theorem dX8_day_237 : decode cX8_day 237 = .ok (.goto 5, 3) := by decide +kernel
theorem dX8_day_240 : decode cX8_day 240 = .ok (.iload 6, 2) := by decide +kernel
theorem dX8_day_242 : decode cX8_day 242 = .ok (.ireturn, 1) := by decide +kernel
theorem dX8_keep_0 : decode cX8_keep 0 = .ok (.aload_n 0, 1) := by decide +kernel
theorem dX8_keep_1 : decode cX8_keep 1 = .ok (.getfield 120, 3) := by decide +kernel
theorem dX8_keep_4 : decode cX8_keep 4 = .ok (.iconst 2, 1) := by decide +kernel
theorem dX8_keep_5 : decode cX8_keep 5 = .ok (.if_icmp .ne 6, 3) := by decide +kernel
theorem dX8_keep_8 : decode cX8_keep 8 = .ok (.bipush (-3), 2) := by decide +kernel
theorem dX8_keep_10 : decode cX8_keep 10 = .ok (.ireturn, 1) := by decide +kernel
theorem dX8_keep_11 : decode cX8_keep 11 = .ok (.bipush 20, 2) := by decide +kernel
theorem dX8_keep_13 : decode cX8_keep 13 = .ok (.aload_n 0, 1) := by decide +kernel
theorem dX8_keep_14 : decode cX8_keep 14 = .ok (.getfield 120, 3) := by decide +kernel
theorem dX8_keep_17 : decode cX8_keep 17 = .ok (.imul, 1) := by decide +kernel
theorem dX8_keep_18 : decode cX8_keep 18 = .ok (.istore_n 1, 1) := by decide +kernel
theorem dX8_keep_19 : decode cX8_keep 19 = .ok (.aload_n 0, 1) := by decide +kernel
theorem dX8_keep_20 : decode cX8_keep 20 = .ok (.getfield 44, 3) := by decide +kernel
theorem dX8_keep_23 : decode cX8_keep 23 = .ok (.iload_n 1, 1) := by decide +kernel
theorem dX8_keep_24 : decode cX8_keep 24 = .ok (.aload_n 0, 1) := by decide +kernel
theorem dX8_keep_25 : decode cX8_keep 25 = .ok (.getfield 111, 3) := by decide +kernel
theorem dX8_keep_28 : decode cX8_keep 28 = .ok (.iastore, 1) := by decide +kernel
theorem dX8_keep_29 : decode cX8_keep 29 = .ok (.aload_n 0, 1) := by decide +kernel
theorem dX8_keep_30 : decode cX8_keep 30 = .ok (.getfield 44, 3) := by decide +kernel
theorem dX8_keep_33 : decode cX8_keep 33 = .ok (.iload_n 1, 1) := by decide +kernel
theorem dX8_keep_34 : decode cX8_keep 34 = .ok (.iconst 1, 1) := by decide +kernel
theorem dX8_keep_35 : decode cX8_keep 35 = .ok (.iadd, 1) := by decide +kernel
theorem dX8_keep_36 : decode cX8_keep 36 = .ok (.aload_n 0, 1) := by decide +kernel
theorem dX8_keep_37 : decode cX8_keep 37 = .ok (.getfield 114, 3) := by decide +kernel
theorem dX8_keep_40 : decode cX8_keep 40 = .ok (.iastore, 1) := by decide +kernel
theorem dX8_keep_41 : decode cX8_keep 41 = .ok (.iconst 0, 1) := by decide +kernel
theorem dX8_keep_42 : decode cX8_keep 42 = .ok (.istore_n 2, 1) := by decide +kernel
theorem dX8_keep_43 : decode cX8_keep 43 = .ok (.iload_n 2, 1) := by decide +kernel
theorem dX8_keep_44 : decode cX8_keep 44 = .ok (.bipush 6, 2) := by decide +kernel
theorem dX8_keep_46 : decode cX8_keep 46 = .ok (.if_icmp .ge 59, 3) := by decide +kernel
theorem dX8_keep_49 : decode cX8_keep 49 = .ok (.aload_n 0, 1) := by decide +kernel
theorem dX8_keep_50 : decode cX8_keep 50 = .ok (.getfield 44, 3) := by decide +kernel
theorem dX8_keep_53 : decode cX8_keep 53 = .ok (.iload_n 1, 1) := by decide +kernel
theorem dX8_keep_54 : decode cX8_keep 54 = .ok (.iconst 2, 1) := by decide +kernel
theorem dX8_keep_55 : decode cX8_keep 55 = .ok (.iadd, 1) := by decide +kernel
theorem dX8_keep_56 : decode cX8_keep 56 = .ok (.iload_n 2, 1) := by decide +kernel
theorem dX8_keep_57 : decode cX8_keep 57 = .ok (.iadd, 1) := by decide +kernel
theorem dX8_keep_58 : decode cX8_keep 58 = .ok (.aload_n 0, 1) := by decide +kernel
theorem dX8_keep_59 : decode cX8_keep 59 = .ok (.getfield 22, 3) := by decide +kernel
theorem dX8_keep_62 : decode cX8_keep 62 = .ok (.iload_n 2, 1) := by decide +kernel
theorem dX8_keep_63 : decode cX8_keep 63 = .ok (.iaload, 1) := by decide +kernel
theorem dX8_keep_64 : decode cX8_keep 64 = .ok (.iastore, 1) := by decide +kernel
theorem dX8_keep_65 : decode cX8_keep 65 = .ok (.aload_n 0, 1) := by decide +kernel
theorem dX8_keep_66 : decode cX8_keep 66 = .ok (.getfield 44, 3) := by decide +kernel
theorem dX8_keep_69 : decode cX8_keep 69 = .ok (.iload_n 1, 1) := by decide +kernel
theorem dX8_keep_70 : decode cX8_keep 70 = .ok (.bipush 8, 2) := by decide +kernel
theorem dX8_keep_72 : decode cX8_keep 72 = .ok (.iadd, 1) := by decide +kernel
theorem dX8_keep_73 : decode cX8_keep 73 = .ok (.iload_n 2, 1) := by decide +kernel
theorem dX8_keep_74 : decode cX8_keep 74 = .ok (.iadd, 1) := by decide +kernel
theorem dX8_keep_75 : decode cX8_keep 75 = .ok (.aload_n 0, 1) := by decide +kernel
theorem dX8_keep_76 : decode cX8_keep 76 = .ok (.getfield 25, 3) := by decide +kernel
theorem dX8_keep_79 : decode cX8_keep 79 = .ok (.iload_n 2, 1) := by decide +kernel
theorem dX8_keep_80 : decode cX8_keep 80 = .ok (.iaload, 1) := by decide +kernel
theorem dX8_keep_81 : decode cX8_keep 81 = .ok (.iastore, 1) := by decide +kernel
theorem dX8_keep_82 : decode cX8_keep 82 = .ok (.aload_n 0, 1) := by decide +kernel
theorem dX8_keep_83 : decode cX8_keep 83 = .ok (.getfield 44, 3) := by decide +kernel
theorem dX8_keep_86 : decode cX8_keep 86 = .ok (.iload_n 1, 1) := by decide +kernel
theorem dX8_keep_87 : decode cX8_keep 87 = .ok (.bipush 14, 2) := by decide +kernel
theorem dX8_keep_89 : decode cX8_keep 89 = .ok (.iadd, 1) := by decide +kernel
theorem dX8_keep_90 : decode cX8_keep 90 = .ok (.iload_n 2, 1) := by decide +kernel
theorem dX8_keep_91 : decode cX8_keep 91 = .ok (.iadd, 1) := by decide +kernel
theorem dX8_keep_92 : decode cX8_keep 92 = .ok (.aload_n 0, 1) := by decide +kernel
theorem dX8_keep_93 : decode cX8_keep 93 = .ok (.getfield 28, 3) := by decide +kernel
theorem dX8_keep_96 : decode cX8_keep 96 = .ok (.iload_n 2, 1) := by decide +kernel
theorem dX8_keep_97 : decode cX8_keep 97 = .ok (.iaload, 1) := by decide +kernel
theorem dX8_keep_98 : decode cX8_keep 98 = .ok (.iastore, 1) := by decide +kernel
theorem dX8_keep_99 : decode cX8_keep 99 = .ok (.iinc 2 1, 3) := by decide +kernel
theorem dX8_keep_102 : decode cX8_keep 102 = .ok (.goto (-59), 3) := by decide +kernel
theorem dX8_keep_105 : decode cX8_keep 105 = .ok (.aload_n 0, 1) := by decide +kernel
theorem dX8_keep_106 : decode cX8_keep 106 = .ok (.dup, 1) := by decide +kernel
theorem dX8_keep_107 : decode cX8_keep 107 = .ok (.getfield 120, 3) := by decide +kernel
theorem dX8_keep_110 : decode cX8_keep 110 = .ok (.iconst 1, 1) := by decide +kernel
theorem dX8_keep_111 : decode cX8_keep 111 = .ok (.iadd, 1) := by decide +kernel
theorem dX8_keep_112 : decode cX8_keep 112 = .ok (.putfield 120, 3) := by decide +kernel
theorem dX8_keep_115 : decode cX8_keep 115 = .ok (.aload_n 0, 1) := by decide +kernel
theorem dX8_keep_116 : decode cX8_keep 116 = .ok (.getfield 120, 3) := by decide +kernel
theorem dX8_keep_119 : decode cX8_keep 119 = .ok (.ireturn, 1) := by decide +kernel
theorem dX8_back_0 : decode cX8_back 0 = .ok (.aload_n 0, 1) := by decide +kernel
theorem dX8_back_1 : decode cX8_back 1 = .ok (.getfield 120, 3) := by decide +kernel
theorem dX8_back_4 : decode cX8_back 4 = .ok (.ifCond .ne 6, 3) := by decide +kernel
theorem dX8_back_7 : decode cX8_back 7 = .ok (.bipush (-2), 2) := by decide +kernel
theorem dX8_back_9 : decode cX8_back 9 = .ok (.ireturn, 1) := by decide +kernel
theorem dX8_back_10 : decode cX8_back 10 = .ok (.aload_n 0, 1) := by decide +kernel
theorem dX8_back_11 : decode cX8_back 11 = .ok (.dup, 1) := by decide +kernel
theorem dX8_back_12 : decode cX8_back 12 = .ok (.getfield 120, 3) := by decide +kernel
theorem dX8_back_15 : decode cX8_back 15 = .ok (.iconst 1, 1) := by decide +kernel
theorem dX8_back_16 : decode cX8_back 16 = .ok (.isub, 1) := by decide +kernel
theorem dX8_back_17 : decode cX8_back 17 = .ok (.putfield 120, 3) := by decide +kernel
theorem dX8_back_20 : decode cX8_back 20 = .ok (.bipush 20, 2) := by decide +kernel
theorem dX8_back_22 : decode cX8_back 22 = .ok (.aload_n 0, 1) := by decide +kernel
theorem dX8_back_23 : decode cX8_back 23 = .ok (.getfield 120, 3) := by decide +kernel
theorem dX8_back_26 : decode cX8_back 26 = .ok (.imul, 1) := by decide +kernel
theorem dX8_back_27 : decode cX8_back 27 = .ok (.istore_n 1, 1) := by decide +kernel
theorem dX8_back_28 : decode cX8_back 28 = .ok (.aload_n 0, 1) := by decide +kernel
theorem dX8_back_29 : decode cX8_back 29 = .ok (.aload_n 0, 1) := by decide +kernel
theorem dX8_back_30 : decode cX8_back 30 = .ok (.getfield 44, 3) := by decide +kernel
theorem dX8_back_33 : decode cX8_back 33 = .ok (.iload_n 1, 1) := by decide +kernel
theorem dX8_back_34 : decode cX8_back 34 = .ok (.iaload, 1) := by decide +kernel
theorem dX8_back_35 : decode cX8_back 35 = .ok (.putfield 111, 3) := by decide +kernel
theorem dX8_back_38 : decode cX8_back 38 = .ok (.aload_n 0, 1) := by decide +kernel
theorem dX8_back_39 : decode cX8_back 39 = .ok (.aload_n 0, 1) := by decide +kernel
theorem dX8_back_40 : decode cX8_back 40 = .ok (.getfield 44, 3) := by decide +kernel
theorem dX8_back_43 : decode cX8_back 43 = .ok (.iload_n 1, 1) := by decide +kernel
theorem dX8_back_44 : decode cX8_back 44 = .ok (.iconst 1, 1) := by decide +kernel
theorem dX8_back_45 : decode cX8_back 45 = .ok (.iadd, 1) := by decide +kernel
theorem dX8_back_46 : decode cX8_back 46 = .ok (.iaload, 1) := by decide +kernel
theorem dX8_back_47 : decode cX8_back 47 = .ok (.putfield 114, 3) := by decide +kernel
theorem dX8_back_50 : decode cX8_back 50 = .ok (.iconst 0, 1) := by decide +kernel
theorem dX8_back_51 : decode cX8_back 51 = .ok (.istore_n 2, 1) := by decide +kernel
theorem dX8_back_52 : decode cX8_back 52 = .ok (.iload_n 2, 1) := by decide +kernel
theorem dX8_back_53 : decode cX8_back 53 = .ok (.bipush 6, 2) := by decide +kernel
theorem dX8_back_55 : decode cX8_back 55 = .ok (.if_icmp .ge 59, 3) := by decide +kernel
theorem dX8_back_58 : decode cX8_back 58 = .ok (.aload_n 0, 1) := by decide +kernel
theorem dX8_back_59 : decode cX8_back 59 = .ok (.getfield 22, 3) := by decide +kernel
theorem dX8_back_62 : decode cX8_back 62 = .ok (.iload_n 2, 1) := by decide +kernel
theorem dX8_back_63 : decode cX8_back 63 = .ok (.aload_n 0, 1) := by decide +kernel
theorem dX8_back_64 : decode cX8_back 64 = .ok (.getfield 44, 3) := by decide +kernel
theorem dX8_back_67 : decode cX8_back 67 = .ok (.iload_n 1, 1) := by decide +kernel
theorem dX8_back_68 : decode cX8_back 68 = .ok (.iconst 2, 1) := by decide +kernel
theorem dX8_back_69 : decode cX8_back 69 = .ok (.iadd, 1) := by decide +kernel
theorem dX8_back_70 : decode cX8_back 70 = .ok (.iload_n 2, 1) := by decide +kernel
theorem dX8_back_71 : decode cX8_back 71 = .ok (.iadd, 1) := by decide +kernel
theorem dX8_back_72 : decode cX8_back 72 = .ok (.iaload, 1) := by decide +kernel
theorem dX8_back_73 : decode cX8_back 73 = .ok (.iastore, 1) := by decide +kernel
theorem dX8_back_74 : decode cX8_back 74 = .ok (.aload_n 0, 1) := by decide +kernel
theorem dX8_back_75 : decode cX8_back 75 = .ok (.getfield 25, 3) := by decide +kernel
theorem dX8_back_78 : decode cX8_back 78 = .ok (.iload_n 2, 1) := by decide +kernel
theorem dX8_back_79 : decode cX8_back 79 = .ok (.aload_n 0, 1) := by decide +kernel
theorem dX8_back_80 : decode cX8_back 80 = .ok (.getfield 44, 3) := by decide +kernel
theorem dX8_back_83 : decode cX8_back 83 = .ok (.iload_n 1, 1) := by decide +kernel
theorem dX8_back_84 : decode cX8_back 84 = .ok (.bipush 8, 2) := by decide +kernel
theorem dX8_back_86 : decode cX8_back 86 = .ok (.iadd, 1) := by decide +kernel
theorem dX8_back_87 : decode cX8_back 87 = .ok (.iload_n 2, 1) := by decide +kernel
theorem dX8_back_88 : decode cX8_back 88 = .ok (.iadd, 1) := by decide +kernel
theorem dX8_back_89 : decode cX8_back 89 = .ok (.iaload, 1) := by decide +kernel
theorem dX8_back_90 : decode cX8_back 90 = .ok (.iastore, 1) := by decide +kernel
theorem dX8_back_91 : decode cX8_back 91 = .ok (.aload_n 0, 1) := by decide +kernel
theorem dX8_back_92 : decode cX8_back 92 = .ok (.getfield 28, 3) := by decide +kernel
theorem dX8_back_95 : decode cX8_back 95 = .ok (.iload_n 2, 1) := by decide +kernel
theorem dX8_back_96 : decode cX8_back 96 = .ok (.aload_n 0, 1) := by decide +kernel
theorem dX8_back_97 : decode cX8_back 97 = .ok (.getfield 44, 3) := by decide +kernel
theorem dX8_back_100 : decode cX8_back 100 = .ok (.iload_n 1, 1) := by decide +kernel
theorem dX8_back_101 : decode cX8_back 101 = .ok (.bipush 14, 2) := by decide +kernel
theorem dX8_back_103 : decode cX8_back 103 = .ok (.iadd, 1) := by decide +kernel
theorem dX8_back_104 : decode cX8_back 104 = .ok (.iload_n 2, 1) := by decide +kernel
theorem dX8_back_105 : decode cX8_back 105 = .ok (.iadd, 1) := by decide +kernel
theorem dX8_back_106 : decode cX8_back 106 = .ok (.iaload, 1) := by decide +kernel
theorem dX8_back_107 : decode cX8_back 107 = .ok (.iastore, 1) := by decide +kernel
theorem dX8_back_108 : decode cX8_back 108 = .ok (.iinc 2 1, 3) := by decide +kernel
theorem dX8_back_111 : decode cX8_back 111 = .ok (.goto (-59), 3) := by decide +kernel
theorem dX8_back_114 : decode cX8_back 114 = .ok (.aload_n 0, 1) := by decide +kernel
theorem dX8_back_115 : decode cX8_back 115 = .ok (.iconst 0, 1) := by decide +kernel
theorem dX8_back_116 : decode cX8_back 116 = .ok (.putfield 117, 3) := by decide +kernel
theorem dX8_back_119 : decode cX8_back 119 = .ok (.aload_n 0, 1) := by decide +kernel
theorem dX8_back_120 : decode cX8_back 120 = .ok (.getfield 120, 3) := by decide +kernel
theorem dX8_back_123 : decode cX8_back 123 = .ok (.ireturn, 1) := by decide +kernel
set_option maxRecDepth 20000 in
theorem ggX8_minutes_X8_m : GoodIn wsX8_minutes wsX8_m := goodIn_r _ [9, 3, 10, 11, 12, 13, 14, 15, 16, 17, 18, 19, 20, 21, 22, 23, 24, 25, 26, 27, 28, 29, 30, 31] (by decide +kernel) (by decide +kernel)
set_option maxRecDepth 20000 in
theorem gX8_minutes_X8_m : GoodIn wsX8_minutes (wsV RX8 173 RX8 yX8_m wsX8_m) := goodIn_app (goodIn_of _ (by decide +kernel)) ggX8_minutes_X8_m
theorem dX8_minutes_0 : decode cX8_minutes 0 = .ok (.iconst 0, 1) := by decide +kernel
theorem dX8_minutes_1 : decode cX8_minutes 1 = .ok (.istore_n 1, 1) := by decide +kernel
theorem dX8_minutes_2 : decode cX8_minutes 2 = .ok (.iconst 1, 1) := by decide +kernel
theorem dX8_minutes_3 : decode cX8_minutes 3 = .ok (.istore_n 2, 1) := by decide +kernel
theorem dX8_minutes_4 : decode cX8_minutes 4 = .ok (.iload_n 2, 1) := by decide +kernel
theorem dX8_minutes_5 : decode cX8_minutes 5 = .ok (.aload_n 0, 1) := by decide +kernel
theorem dX8_minutes_6 : decode cX8_minutes 6 = .ok (.getfield 111, 3) := by decide +kernel
theorem dX8_minutes_9 : decode cX8_minutes 9 = .ok (.if_icmp .gt 17, 3) := by decide +kernel
theorem dX8_minutes_12 : decode cX8_minutes 12 = .ok (.iload_n 1, 1) := by decide +kernel
theorem dX8_minutes_13 : decode cX8_minutes 13 = .ok (.aload_n 0, 1) := by decide +kernel
theorem dX8_minutes_14 : decode cX8_minutes 14 = .ok (.iload_n 2, 1) := by decide +kernel
theorem dX8_minutes_15 : decode cX8_minutes 15 = .ok (.invokevirtual 173, 3) := by decide +kernel
theorem dX8_minutes_18 : decode cX8_minutes 18 = .ok (.iadd, 1) := by decide +kernel
theorem dX8_minutes_19 : decode cX8_minutes 19 = .ok (.istore_n 1, 1) := by decide +kernel
theorem dX8_minutes_20 : decode cX8_minutes 20 = .ok (.iinc 2 1, 3) := by decide +kernel
theorem dX8_minutes_23 : decode cX8_minutes 23 = .ok (.goto (-19), 3) := by decide +kernel
theorem dX8_minutes_26 : decode cX8_minutes 26 = .ok (.iconst 0, 1) := by decide +kernel
theorem dX8_minutes_27 : decode cX8_minutes 27 = .ok (.istore_n 2, 1) := by decide +kernel
theorem dX8_minutes_28 : decode cX8_minutes 28 = .ok (.iload_n 2, 1) := by decide +kernel
theorem dX8_minutes_29 : decode cX8_minutes 29 = .ok (.aload_n 0, 1) := by decide +kernel
theorem dX8_minutes_30 : decode cX8_minutes 30 = .ok (.getfield 114, 3) := by decide +kernel
theorem dX8_minutes_33 : decode cX8_minutes 33 = .ok (.if_icmp .ge 30, 3) := by decide +kernel
theorem dX8_minutes_36 : decode cX8_minutes 36 = .ok (.iload_n 1, 1) := by decide +kernel
theorem dX8_minutes_37 : decode cX8_minutes 37 = .ok (.aload_n 0, 1) := by decide +kernel
theorem dX8_minutes_38 : decode cX8_minutes 38 = .ok (.getfield 7, 3) := by decide +kernel
theorem dX8_minutes_41 : decode cX8_minutes 41 = .ok (.bipush 29, 2) := by decide +kernel
theorem dX8_minutes_43 : decode cX8_minutes 43 = .ok (.iconst 2, 1) := by decide +kernel
theorem dX8_minutes_44 : decode cX8_minutes 44 = .ok (.aload_n 0, 1) := by decide +kernel
theorem dX8_minutes_45 : decode cX8_minutes 45 = .ok (.getfield 25, 3) := by decide +kernel
theorem dX8_minutes_48 : decode cX8_minutes 48 = .ok (.iload_n 2, 1) := by decide +kernel
theorem dX8_minutes_49 : decode cX8_minutes 49 = .ok (.iaload, 1) := by decide +kernel
theorem dX8_minutes_50 : decode cX8_minutes 50 = .ok (.imul, 1) := by decide +kernel
theorem dX8_minutes_51 : decode cX8_minutes 51 = .ok (.iadd, 1) := by decide +kernel
theorem dX8_minutes_52 : decode cX8_minutes 52 = .ok (.iconst 1, 1) := by decide +kernel
theorem dX8_minutes_53 : decode cX8_minutes 53 = .ok (.iadd, 1) := by decide +kernel
theorem dX8_minutes_54 : decode cX8_minutes 54 = .ok (.iaload, 1) := by decide +kernel
theorem dX8_minutes_55 : decode cX8_minutes 55 = .ok (.iadd, 1) := by decide +kernel
theorem dX8_minutes_56 : decode cX8_minutes 56 = .ok (.istore_n 1, 1) := by decide +kernel
theorem dX8_minutes_57 : decode cX8_minutes 57 = .ok (.iinc 2 1, 3) := by decide +kernel
theorem dX8_minutes_60 : decode cX8_minutes 60 = .ok (.goto (-32), 3) := by decide +kernel
theorem dX8_minutes_63 : decode cX8_minutes 63 = .ok (.iload_n 1, 1) := by decide +kernel
theorem dX8_minutes_64 : decode cX8_minutes 64 = .ok (.ireturn, 1) := by decide +kernel
set_option maxRecDepth 20000 in
theorem ggX8_many_X8_minutes : GoodIn wsX8_many wsX8_minutes := goodIn_r _ [11, 2, 3, 1, 12, 13, 14, 15, 10, 16, 17, 18, 19, 20, 21, 22, 23, 24, 25, 26, 27, 28, 29, 30, 31, 32, 33, 34, 35, 36, 37, 38] (by decide +kernel) (by decide +kernel)
set_option maxRecDepth 20000 in
theorem gX8_many_X8_minutes : GoodIn wsX8_many (wsV RX8 216 RX8 yX8_minutes wsX8_minutes) := goodIn_app (goodIn_of _ (by decide +kernel)) ggX8_many_X8_minutes
theorem dX8_many_0 : decode cX8_many 0 = .ok (.iload_n 1, 1) := by decide +kernel
theorem dX8_many_1 : decode cX8_many 1 = .ok (.tableswitch 91 0 7 #[47, 54, 59, 64, 71, 76, 81, 86], 47) := by decide +kernel
theorem dX8_many_48 : decode cX8_many 48 = .ok (.aload_n 0, 1) := by decide +kernel
theorem dX8_many_49 : decode cX8_many 49 = .ok (.getfield 7, 3) := by decide +kernel
theorem dX8_many_52 : decode cX8_many 52 = .ok (.iconst 0, 1) := by decide +kernel
theorem dX8_many_53 : decode cX8_many 53 = .ok (.iaload, 1) := by decide +kernel
theorem dX8_many_54 : decode cX8_many 54 = .ok (.ireturn, 1) := by decide +kernel
theorem dX8_many_55 : decode cX8_many 55 = .ok (.aload_n 0, 1) := by decide +kernel
theorem dX8_many_56 : decode cX8_many 56 = .ok (.getfield 111, 3) := by decide +kernel
theorem dX8_many_59 : decode cX8_many 59 = .ok (.ireturn, 1) := by decide +kernel
theorem dX8_many_60 : decode cX8_many 60 = .ok (.aload_n 0, 1) := by decide +kernel
theorem dX8_many_61 : decode cX8_many 61 = .ok (.getfield 114, 3) := by decide +kernel
theorem dX8_many_64 : decode cX8_many 64 = .ok (.ireturn, 1) := by decide +kernel
theorem dX8_many_65 : decode cX8_many 65 = .ok (.aload_n 0, 1) := by decide +kernel
theorem dX8_many_66 : decode cX8_many 66 = .ok (.getfield 7, 3) := by decide +kernel
theorem dX8_many_69 : decode cX8_many 69 = .ok (.iconst 1, 1) := by decide +kernel
theorem dX8_many_70 : decode cX8_many 70 = .ok (.iaload, 1) := by decide +kernel
theorem dX8_many_71 : decode cX8_many 71 = .ok (.ireturn, 1) := by decide +kernel
theorem dX8_many_72 : decode cX8_many 72 = .ok (.aload_n 0, 1) := by decide +kernel
theorem dX8_many_73 : decode cX8_many 73 = .ok (.invokevirtual 216, 3) := by decide +kernel
theorem dX8_many_76 : decode cX8_many 76 = .ok (.ireturn, 1) := by decide +kernel
theorem dX8_many_77 : decode cX8_many 77 = .ok (.aload_n 0, 1) := by decide +kernel
theorem dX8_many_78 : decode cX8_many 78 = .ok (.getfield 117, 3) := by decide +kernel
theorem dX8_many_81 : decode cX8_many 81 = .ok (.ireturn, 1) := by decide +kernel
theorem dX8_many_82 : decode cX8_many 82 = .ok (.aload_n 0, 1) := by decide +kernel
theorem dX8_many_83 : decode cX8_many 83 = .ok (.getfield 120, 3) := by decide +kernel
theorem dX8_many_86 : decode cX8_many 86 = .ok (.ireturn, 1) := by decide +kernel
theorem dX8_many_87 : decode cX8_many 87 = .ok (.aload_n 0, 1) := by decide +kernel
theorem dX8_many_88 : decode cX8_many 88 = .ok (.getfield 67, 3) := by decide +kernel
theorem dX8_many_91 : decode cX8_many 91 = .ok (.ireturn, 1) := by decide +kernel
theorem dX8_many_92 : decode cX8_many 92 = .ok (.iconst (-1), 1) := by decide +kernel
theorem dX8_many_93 : decode cX8_many 93 = .ok (.ireturn, 1) := by decide +kernel
