theorem dX8_in_0 : decode cX8_in 0 = .ok (.lload_n 0, 1) := by decide +kernel
theorem dX8_in_1 : decode cX8_in 1 = .ok (.lload_n 2, 1) := by decide +kernel
theorem dX8_in_2 : decode cX8_in 2 = .ok (.lcmp, 1) := by decide +kernel
theorem dX8_in_3 : decode cX8_in 3 = .ok (.ifCond .lt 14, 3) := by decide +kernel
theorem dX8_in_6 : decode cX8_in 6 = .ok (.lload_n 0, 1) := by decide +kernel
theorem dX8_in_7 : decode cX8_in 7 = .ok (.lload 4, 2) := by decide +kernel
theorem dX8_in_9 : decode cX8_in 9 = .ok (.lcmp, 1) := by decide +kernel
theorem dX8_in_10 : decode cX8_in 10 = .ok (.ifCond .gt 7, 3) := by decide +kernel
theorem dX8_in_13 : decode cX8_in 13 = .ok (.iconst 1, 1) := by decide +kernel
theorem dX8_in_14 : decode cX8_in 14 = .ok (.goto 4, 3) := by decide +kernel
theorem dX8_in_17 : decode cX8_in 17 = .ok (.iconst 0, 1) := by decide +kernel
theorem dX8_in_18 : decode cX8_in 18 = .ok (.ireturn, 1) := by decide +kernel
set_option maxRecDepth 20000 in
theorem ggX8_init_X8_plain : GoodIn wsX8_init wsX8_plain := goodIn_r _ [21] (by decide +kernel) (by decide +kernel)
set_option maxRecDepth 20000 in
theorem gX8_init_X8_plain : GoodIn wsX8_init (va_wsS RX8 47 yX8_plain wsX8_plain) := goodIn_app (goodIn_of _ (by decide +kernel)) ggX8_init_X8_plain
set_option maxRecDepth 20000 in
theorem ggX8_init_X8_stretches : GoodIn wsX8_init wsX8_stretches := goodIn_r _ [25, 5, 29, 30, 31, 32, 33, 34, 35, 36, 37, 38, 39, 40, 41, 42, 43, 44, 45, 46, 47, 48, 49, 50] (by decide +kernel) (by decide +kernel)
set_option maxRecDepth 20000 in
theorem gX8_init_X8_stretches : GoodIn wsX8_init (wsV RX8 51 RX8 yX8_stretches wsX8_stretches) := goodIn_app (goodIn_of _ (by decide +kernel)) ggX8_init_X8_stretches
set_option maxRecDepth 20000 in
theorem ggX8_init_X8_ties : GoodIn wsX8_init wsX8_ties := goodIn_r _ [28] (by decide +kernel) (by decide +kernel)
set_option maxRecDepth 20000 in
theorem gX8_init_X8_ties : GoodIn wsX8_init (va_wsS RX8 55 yX8_ties wsX8_ties) := goodIn_app (goodIn_of _ (by decide +kernel)) ggX8_init_X8_ties
theorem dX8_init_0 : decode cX8_init 0 = .ok (.aload_n 0, 1) := by decide +kernel
theorem dX8_init_1 : decode cX8_init 1 = .ok (.invokespecial 1, 3) := by decide +kernel
theorem dX8_init_4 : decode cX8_init 4 = .ok (.aload_n 0, 1) := by decide +kernel
theorem dX8_init_5 : decode cX8_init 5 = .ok (.bipush 73, 2) := by decide +kernel
theorem dX8_init_7 : decode cX8_init 7 = .ok (.newarray .int, 2) := by decide +kernel
theorem dX8_init_9 : decode cX8_init 9 = .ok (.putfield 7, 3) := by decide +kernel
theorem dX8_init_12 : decode cX8_init 12 = .ok (.aload_n 0, 1) := by decide +kernel
theorem dX8_init_13 : decode cX8_init 13 = .ok (.sipush 200, 3) := by decide +kernel
theorem dX8_init_16 : decode cX8_init 16 = .ok (.newarray .int, 2) := by decide +kernel
theorem dX8_init_18 : decode cX8_init 18 = .ok (.putfield 13, 3) := by decide +kernel
theorem dX8_init_21 : decode cX8_init 21 = .ok (.aload_n 0, 1) := by decide +kernel
theorem dX8_init_22 : decode cX8_init 22 = .ok (.bipush 73, 2) := by decide +kernel
theorem dX8_init_24 : decode cX8_init 24 = .ok (.newarray .int, 2) := by decide +kernel
theorem dX8_init_26 : decode cX8_init 26 = .ok (.putfield 16, 3) := by decide +kernel
theorem dX8_init_29 : decode cX8_init 29 = .ok (.aload_n 0, 1) := by decide +kernel
theorem dX8_init_30 : decode cX8_init 30 = .ok (.iconst 3, 1) := by decide +kernel
theorem dX8_init_31 : decode cX8_init 31 = .ok (.newarray .int, 2) := by decide +kernel
theorem dX8_init_33 : decode cX8_init 33 = .ok (.putfield 19, 3) := by decide +kernel
theorem dX8_init_36 : decode cX8_init 36 = .ok (.aload_n 0, 1) := by decide +kernel
theorem dX8_init_37 : decode cX8_init 37 = .ok (.bipush 6, 2) := by decide +kernel
theorem dX8_init_39 : decode cX8_init 39 = .ok (.newarray .int, 2) := by decide +kernel
theorem dX8_init_41 : decode cX8_init 41 = .ok (.putfield 22, 3) := by decide +kernel
theorem dX8_init_44 : decode cX8_init 44 = .ok (.aload_n 0, 1) := by decide +kernel
theorem dX8_init_45 : decode cX8_init 45 = .ok (.bipush 6, 2) := by decide +kernel
theorem dX8_init_47 : decode cX8_init 47 = .ok (.newarray .int, 2) := by decide +kernel
theorem dX8_init_49 : decode cX8_init 49 = .ok (.putfield 25, 3) := by decide +kernel
theorem dX8_init_52 : decode cX8_init 52 = .ok (.aload_n 0, 1) := by decide +kernel
theorem dX8_init_53 : decode cX8_init 53 = .ok (.bipush 6, 2) := by decide +kernel
theorem dX8_init_55 : decode cX8_init 55 = .ok (.newarray .int, 2) := by decide +kernel
theorem dX8_init_57 : decode cX8_init 57 = .ok (.putfield 28, 3) := by decide +kernel
theorem dX8_init_60 : decode cX8_init 60 = .ok (.aload_n 0, 1) := by decide +kernel
theorem dX8_init_61 : decode cX8_init 61 = .ok (.bipush 8, 2) := by decide +kernel
theorem dX8_init_63 : decode cX8_init 63 = .ok (.newarray .int, 2) := by decide +kernel
theorem dX8_init_65 : decode cX8_init 65 = .ok (.putfield 31, 3) := by decide +kernel
theorem dX8_init_68 : decode cX8_init 68 = .ok (.aload_n 0, 1) := by decide +kernel
theorem dX8_init_69 : decode cX8_init 69 = .ok (.bipush 9, 2) := by decide +kernel
theorem dX8_init_71 : decode cX8_init 71 = .ok (.newarray .long, 2) := by decide +kernel
theorem dX8_init_73 : decode cX8_init 73 = .ok (.putfield 34, 3) := by decide +kernel
theorem dX8_init_76 : decode cX8_init 76 = .ok (.aload_n 0, 1) := by decide +kernel
theorem dX8_init_77 : decode cX8_init 77 = .ok (.bipush 6, 2) := by decide +kernel
theorem dX8_init_79 : decode cX8_init 79 = .ok (.newarray .int, 2) := by decide +kernel
theorem dX8_init_81 : decode cX8_init 81 = .ok (.putfield 38, 3) := by decide +kernel
theorem dX8_init_84 : decode cX8_init 84 = .ok (.aload_n 0, 1) := by decide +kernel
theorem dX8_init_85 : decode cX8_init 85 = .ok (.bipush 6, 2) := by decide +kernel
theorem dX8_init_87 : decode cX8_init 87 = .ok (.newarray .int, 2) := by decide +kernel
theorem dX8_init_89 : decode cX8_init 89 = .ok (.putfield 41, 3) := by decide +kernel
theorem dX8_init_92 : decode cX8_init 92 = .ok (.aload_n 0, 1) := by decide +kernel
theorem dX8_init_93 : decode cX8_init 93 = .ok (.bipush 40, 2) := by decide +kernel
theorem dX8_init_95 : decode cX8_init 95 = .ok (.newarray .int, 2) := by decide +kernel
theorem dX8_init_97 : decode cX8_init 97 = .ok (.putfield 44, 3) := by decide +kernel
theorem dX8_init_100 : decode cX8_init 100 = .ok (.aload_n 0, 1) := by decide +kernel
theorem dX8_init_101 : decode cX8_init 101 = .ok (.getfield 7, 3) := by decide +kernel
theorem dX8_init_104 : decode cX8_init 104 = .ok (.invokestatic 47, 3) := by decide +kernel
theorem dX8_init_107 : decode cX8_init 107 = .ok (.aload_n 0, 1) := by decide +kernel
theorem dX8_init_108 : decode cX8_init 108 = .ok (.getfield 7, 3) := by decide +kernel
theorem dX8_init_111 : decode cX8_init 111 = .ok (.iconst 0, 1) := by decide +kernel
theorem dX8_init_112 : decode cX8_init 112 = .ok (.iconst 3, 1) := by decide +kernel
theorem dX8_init_113 : decode cX8_init 113 = .ok (.iastore, 1) := by decide +kernel
theorem dX8_init_114 : decode cX8_init 114 = .ok (.aload_n 0, 1) := by decide +kernel
theorem dX8_init_115 : decode cX8_init 115 = .ok (.iconst 5, 1) := by decide +kernel
theorem dX8_init_116 : decode cX8_init 116 = .ok (.bipush 20, 2) := by decide +kernel
theorem dX8_init_118 : decode cX8_init 118 = .ok (.iconst 1, 1) := by decide +kernel
theorem dX8_init_119 : decode cX8_init 119 = .ok (.iconst 2, 1) := by decide +kernel
theorem dX8_init_120 : decode cX8_init 120 = .ok (.invokevirtual 51, 3) := by decide +kernel
theorem dX8_init_123 : decode cX8_init 123 = .ok (.aload_n 0, 1) := by decide +kernel
theorem dX8_init_124 : decode cX8_init 124 = .ok (.bipush 8, 2) := by decide +kernel
theorem dX8_init_126 : decode cX8_init 126 = .ok (.bipush 30, 2) := by decide +kernel
theorem dX8_init_128 : decode cX8_init 128 = .ok (.iconst 3, 1) := by decide +kernel
theorem dX8_init_129 : decode cX8_init 129 = .ok (.iconst 1, 1) := by decide +kernel
theorem dX8_init_130 : decode cX8_init 130 = .ok (.invokevirtual 51, 3) := by decide +kernel
theorem dX8_init_133 : decode cX8_init 133 = .ok (.aload_n 0, 1) := by decide +kernel
theorem dX8_init_134 : decode cX8_init 134 = .ok (.bipush 11, 2) := by decide +kernel
theorem dX8_init_136 : decode cX8_init 136 = .ok (.bipush 10, 2) := by decide +kernel
theorem dX8_init_138 : decode cX8_init 138 = .ok (.iconst 0, 1) := by decide +kernel
theorem dX8_init_139 : decode cX8_init 139 = .ok (.iconst 5, 1) := by decide +kernel
theorem dX8_init_140 : decode cX8_init 140 = .ok (.invokevirtual 51, 3) := by decide +kernel
theorem dX8_init_143 : decode cX8_init 143 = .ok (.aload_n 0, 1) := by decide +kernel
theorem dX8_init_144 : decode cX8_init 144 = .ok (.getfield 7, 3) := by decide +kernel
theorem dX8_init_147 : decode cX8_init 147 = .ok (.bipush 29, 2) := by decide +kernel
theorem dX8_init_149 : decode cX8_init 149 = .ok (.iconst 2, 1) := by decide +kernel
theorem dX8_init_150 : decode cX8_init 150 = .ok (.iastore, 1) := by decide +kernel
theorem dX8_init_151 : decode cX8_init 151 = .ok (.aload_n 0, 1) := by decide +kernel
theorem dX8_init_152 : decode cX8_init 152 = .ok (.getfield 7, 3) := by decide +kernel
theorem dX8_init_155 : decode cX8_init 155 = .ok (.bipush 30, 2) := by decide +kernel
theorem dX8_init_157 : decode cX8_init 157 = .ok (.iconst 1, 1) := by decide +kernel
theorem dX8_init_158 : decode cX8_init 158 = .ok (.iastore, 1) := by decide +kernel
theorem dX8_init_159 : decode cX8_init 159 = .ok (.aload_n 0, 1) := by decide +kernel
theorem dX8_init_160 : decode cX8_init 160 = .ok (.getfield 7, 3) := by decide +kernel
theorem dX8_init_163 : decode cX8_init 163 = .ok (.bipush 31, 2) := by decide +kernel
theorem dX8_init_165 : decode cX8_init 165 = .ok (.iconst 0, 1) := by decide +kernel
theorem dX8_init_166 : decode cX8_init 166 = .ok (.iastore, 1) := by decide +kernel
theorem dX8_init_167 : decode cX8_init 167 = .ok (.aload_n 0, 1) := by decide +kernel
theorem dX8_init_168 : decode cX8_init 168 = .ok (.getfield 7, 3) := by decide +kernel
theorem dX8_init_171 : decode cX8_init 171 = .ok (.bipush 32, 2) := by decide +kernel
theorem dX8_init_173 : decode cX8_init 173 = .ok (.iconst 4, 1) := by decide +kernel
theorem dX8_init_174 : decode cX8_init 174 = .ok (.iastore, 1) := by decide +kernel
theorem dX8_init_175 : decode cX8_init 175 = .ok (.aload_n 0, 1) := by decide +kernel
theorem dX8_init_176 : decode cX8_init 176 = .ok (.getfield 7, 3) := by decide +kernel
theorem dX8_init_179 : decode cX8_init 179 = .ok (.bipush 33, 2) := by decide +kernel
theorem dX8_init_181 : decode cX8_init 181 = .ok (.iconst 1, 1) := by decide +kernel
theorem dX8_init_182 : decode cX8_init 182 = .ok (.iastore, 1) := by decide +kernel
theorem dX8_init_183 : decode cX8_init 183 = .ok (.aload_n 0, 1) := by decide +kernel
theorem dX8_init_184 : decode cX8_init 184 = .ok (.getfield 7, 3) := by decide +kernel
theorem dX8_init_187 : decode cX8_init 187 = .ok (.bipush 34, 2) := by decide +kernel
theorem dX8_init_189 : decode cX8_init 189 = .ok (.iconst 2, 1) := by decide +kernel
theorem dX8_init_190 : decode cX8_init 190 = .ok (.iastore, 1) := by decide +kernel
theorem dX8_init_191 : decode cX8_init 191 = .ok (.aload_n 0, 1) := by decide +kernel
theorem dX8_init_192 : decode cX8_init 192 = .ok (.getfield 7, 3) := by decide +kernel
theorem dX8_init_195 : decode cX8_init 195 = .ok (.bipush 35, 2) := by decide +kernel
theorem dX8_init_197 : decode cX8_init 197 = .ok (.iconst 3, 1) := by decide +kernel
theorem dX8_init_198 : decode cX8_init 198 = .ok (.iastore, 1) := by decide +kernel
theorem dX8_init_199 : decode cX8_init 199 = .ok (.aload_n 0, 1) := by decide +kernel
theorem dX8_init_200 : decode cX8_init 200 = .ok (.getfield 7, 3) := by decide +kernel
theorem dX8_init_203 : decode cX8_init 203 = .ok (.bipush 36, 2) := by decide +kernel
theorem dX8_init_205 : decode cX8_init 205 = .ok (.iconst 1, 1) := by decide +kernel
theorem dX8_init_206 : decode cX8_init 206 = .ok (.iastore, 1) := by decide +kernel
theorem dX8_init_207 : decode cX8_init 207 = .ok (.aload_n 0, 1) := by decide +kernel
theorem dX8_init_208 : decode cX8_init 208 = .ok (.getfield 7, 3) := by decide +kernel
theorem dX8_init_211 : decode cX8_init 211 = .ok (.iconst 0, 1) := by decide +kernel
theorem dX8_init_212 : decode cX8_init 212 = .ok (.iconst 1, 1) := by decide +kernel
theorem dX8_init_213 : decode cX8_init 213 = .ok (.iconst 5, 1) := by decide +kernel
theorem dX8_init_214 : decode cX8_init 214 = .ok (.invokestatic 55, 3) := by decide +kernel
theorem dX8_init_217 : decode cX8_init 217 = .ok (.aload_n 0, 1) := by decide +kernel
theorem dX8_init_218 : decode cX8_init 218 = .ok (.getfield 7, 3) := by decide +kernel
theorem dX8_init_221 : decode cX8_init 221 = .ok (.iconst 2, 1) := by decide +kernel
theorem dX8_init_222 : decode cX8_init 222 = .ok (.iconst 3, 1) := by decide +kernel
theorem dX8_init_223 : decode cX8_init 223 = .ok (.iconst 2, 1) := by decide +kernel
theorem dX8_init_224 : decode cX8_init 224 = .ok (.invokestatic 55, 3) := by decide +kernel
theorem dX8_init_227 : decode cX8_init 227 = .ok (.aload_n 0, 1) := by decide +kernel
theorem dX8_init_228 : decode cX8_init 228 = .ok (.getfield 7, 3) := by decide +kernel
theorem dX8_init_231 : decode cX8_init 231 = .ok (.iconst 0, 1) := by decide +kernel
theorem dX8_init_232 : decode cX8_init 232 = .ok (.iconst 2, 1) := by decide +kernel
theorem dX8_init_233 : decode cX8_init 233 = .ok (.iconst 1, 1) := by decide +kernel
theorem dX8_init_234 : decode cX8_init 234 = .ok (.invokestatic 55, 3) := by decide +kernel
theorem dX8_init_237 : decode cX8_init 237 = .ok (.return_, 1) := by decide +kernel
theorem dX8_stretches_0 : decode cX8_stretches 0 = .ok (.aload_n 0, 1) := by decide +kernel
theorem dX8_stretches_1 : decode cX8_stretches 1 = .ok (.getfield 7, 3) := by decide +kernel
theorem dX8_stretches_4 : decode cX8_stretches 4 = .ok (.iload_n 1, 1) := by decide +kernel
theorem dX8_stretches_5 : decode cX8_stretches 5 = .ok (.iload_n 2, 1) := by decide +kernel
theorem dX8_stretches_6 : decode cX8_stretches 6 = .ok (.iastore, 1) := by decide +kernel
theorem dX8_stretches_7 : decode cX8_stretches 7 = .ok (.aload_n 0, 1) := by decide +kernel
theorem dX8_stretches_8 : decode cX8_stretches 8 = .ok (.getfield 7, 3) := by decide +kernel
theorem dX8_stretches_11 : decode cX8_stretches 11 = .ok (.iload_n 1, 1) := by decide +kernel
theorem dX8_stretches_12 : decode cX8_stretches 12 = .ok (.iconst 1, 1) := by decide +kernel
theorem dX8_stretches_13 : decode cX8_stretches 13 = .ok (.iadd, 1) := by decide +kernel
theorem dX8_stretches_14 : decode cX8_stretches 14 = .ok (.iload_n 3, 1) := by decide +kernel
theorem dX8_stretches_15 : decode cX8_stretches 15 = .ok (.iastore, 1) := by decide +kernel
theorem dX8_stretches_16 : decode cX8_stretches 16 = .ok (.aload_n 0, 1) := by decide +kernel
theorem dX8_stretches_17 : decode cX8_stretches 17 = .ok (.getfield 7, 3) := by decide +kernel
theorem dX8_stretches_20 : decode cX8_stretches 20 = .ok (.iload_n 1, 1) := by decide +kernel
theorem dX8_stretches_21 : decode cX8_stretches 21 = .ok (.iconst 2, 1) := by decide +kernel
theorem dX8_stretches_22 : decode cX8_stretches 22 = .ok (.iadd, 1) := by decide +kernel
theorem dX8_stretches_23 : decode cX8_stretches 23 = .ok (.iload 4, 2) := by decide +kernel
theorem dX8_stretches_25 : decode cX8_stretches 25 = .ok (.iastore, 1) := by decide +kernel
theorem dX8_stretches_26 : decode cX8_stretches 26 = .ok (.return_, 1) := by decide +kernel
theorem dX8_ties_0 : decode cX8_ties 0 = .ok (.aload_n 0, 1) := by decide +kernel
theorem dX8_ties_1 : decode cX8_ties 1 = .ok (.bipush 37, 2) := by decide +kernel
theorem dX8_ties_3 : decode cX8_ties 3 = .ok (.bipush 6, 2) := by decide +kernel
theorem dX8_ties_5 : decode cX8_ties 5 = .ok (.iload_n 1, 1) := by decide +kernel
theorem dX8_ties_6 : decode cX8_ties 6 = .ok (.imul, 1) := by decide +kernel
theorem dX8_ties_7 : decode cX8_ties 7 = .ok (.iadd, 1) := by decide +kernel
theorem dX8_ties_8 : decode cX8_ties 8 = .ok (.iload_n 2, 1) := by decide +kernel
theorem dX8_ties_9 : decode cX8_ties 9 = .ok (.iadd, 1) := by decide +kernel
theorem dX8_ties_10 : decode cX8_ties 10 = .ok (.iload_n 3, 1) := by decide +kernel
theorem dX8_ties_11 : decode cX8_ties 11 = .ok (.iastore, 1) := by decide +kernel
theorem dX8_ties_12 : decode cX8_ties 12 = .ok (.aload_n 0, 1) := by decide +kernel
theorem dX8_ties_13 : decode cX8_ties 13 = .ok (.bipush 37, 2) := by decide +kernel
theorem dX8_ties_15 : decode cX8_ties 15 = .ok (.bipush 6, 2) := by decide +kernel
theorem dX8_ties_17 : decode cX8_ties 17 = .ok (.iload_n 2, 1) := by decide +kernel
theorem dX8_ties_18 : decode cX8_ties 18 = .ok (.imul, 1) := by decide +kernel
theorem dX8_ties_19 : decode cX8_ties 19 = .ok (.iadd, 1) := by decide +kernel
theorem dX8_ties_20 : decode cX8_ties 20 = .ok (.iload_n 1, 1) := by decide +kernel
theorem dX8_ties_21 : decode cX8_ties 21 = .ok (.iadd, 1) := by decide +kernel
theorem dX8_ties_22 : decode cX8_ties 22 = .ok (.iload_n 3, 1) := by decide +kernel
theorem dX8_ties_23 : decode cX8_ties 23 = .ok (.iastore, 1) := by decide +kernel
theorem dX8_ties_24 : decode cX8_ties 24 = .ok (.return_, 1) := by decide +kernel
theorem dX8_plain_0 : decode cX8_plain 0 = .ok (.iconst 0, 1) := by decide +kernel
theorem dX8_plain_1 : decode cX8_plain 1 = .ok (.istore_n 1, 1) := by decide +kernel
theorem dX8_plain_2 : decode cX8_plain 2 = .ok (.iload_n 1, 1) := by decide +kernel
theorem dX8_plain_3 : decode cX8_plain 3 = .ok (.bipush 73, 2) := by decide +kernel
theorem dX8_plain_5 : decode cX8_plain 5 = .ok (.if_icmp .ge 13, 3) := by decide +kernel
theorem dX8_plain_8 : decode cX8_plain 8 = .ok (.aload_n 0, 1) := by decide +kernel
theorem dX8_plain_9 : decode cX8_plain 9 = .ok (.iload_n 1, 1) := by decide +kernel
theorem dX8_plain_10 : decode cX8_plain 10 = .ok (.iconst 0, 1) := by decide +kernel
theorem dX8_plain_11 : decode cX8_plain 11 = .ok (.iastore, 1) := by decide +kernel
theorem dX8_plain_12 : decode cX8_plain 12 = .ok (.iinc 1 1, 3) := by decide +kernel
theorem dX8_plain_15 : decode cX8_plain 15 = .ok (.goto (-13), 3) := by decide +kernel
theorem dX8_plain_18 : decode cX8_plain 18 = .ok (.aload_n 0, 1) := by decide +kernel
theorem dX8_plain_19 : decode cX8_plain 19 = .ok (.iconst 1, 1) := by decide +kernel
theorem dX8_plain_20 : decode cX8_plain 20 = .ok (.iconst 4, 1) := by decide +kernel
theorem dX8_plain_21 : decode cX8_plain 21 = .ok (.iastore, 1) := by decide +kernel
theorem dX8_plain_22 : decode cX8_plain 22 = .ok (.aload_n 0, 1) := by decide +kernel
theorem dX8_plain_23 : decode cX8_plain 23 = .ok (.iconst 2, 1) := by decide +kernel
theorem dX8_plain_24 : decode cX8_plain 24 = .ok (.bipush 60, 2) := by decide +kernel
theorem dX8_plain_26 : decode cX8_plain 26 = .ok (.iastore, 1) := by decide +kernel
theorem dX8_plain_27 : decode cX8_plain 27 = .ok (.aload_n 0, 1) := by decide +kernel
theorem dX8_plain_28 : decode cX8_plain 28 = .ok (.iconst 3, 1) := by decide +kernel
theorem dX8_plain_29 : decode cX8_plain 29 = .ok (.bipush 10, 2) := by decide +kernel
theorem dX8_plain_31 : decode cX8_plain 31 = .ok (.iastore, 1) := by decide +kernel
theorem dX8_plain_32 : decode cX8_plain 32 = .ok (.aload_n 0, 1) := by decide +kernel
theorem dX8_plain_33 : decode cX8_plain 33 = .ok (.iconst 4, 1) := by decide +kernel
theorem dX8_plain_34 : decode cX8_plain 34 = .ok (.bipush 8, 2) := by decide +kernel
theorem dX8_plain_36 : decode cX8_plain 36 = .ok (.iastore, 1) := by decide +kernel
theorem dX8_plain_37 : decode cX8_plain 37 = .ok (.iconst 0, 1) := by decide +kernel
theorem dX8_plain_38 : decode cX8_plain 38 = .ok (.istore_n 1, 1) := by decide +kernel
theorem dX8_plain_39 : decode cX8_plain 39 = .ok (.iload_n 1, 1) := by decide +kernel
theorem dX8_plain_40 : decode cX8_plain 40 = .ok (.iconst 4, 1) := by decide +kernel
theorem dX8_plain_41 : decode cX8_plain 41 = .ok (.if_icmp .ge 29, 3) := by decide +kernel
theorem dX8_plain_44 : decode cX8_plain 44 = .ok (.aload_n 0, 1) := by decide +kernel
theorem dX8_plain_45 : decode cX8_plain 45 = .ok (.bipush 29, 2) := by decide +kernel
theorem dX8_plain_47 : decode cX8_plain 47 = .ok (.iconst 2, 1) := by decide +kernel
theorem dX8_plain_48 : decode cX8_plain 48 = .ok (.iload_n 1, 1) := by decide +kernel
theorem dX8_plain_49 : decode cX8_plain 49 = .ok (.imul, 1) := by decide +kernel
theorem dX8_plain_50 : decode cX8_plain 50 = .ok (.iadd, 1) := by decide +kernel
theorem dX8_plain_51 : decode cX8_plain 51 = .ok (.iconst 1, 1) := by decide +kernel
theorem dX8_plain_52 : decode cX8_plain 52 = .ok (.iastore, 1) := by decide +kernel
theorem dX8_plain_53 : decode cX8_plain 53 = .ok (.aload_n 0, 1) := by decide +kernel
theorem dX8_plain_54 : decode cX8_plain 54 = .ok (.bipush 29, 2) := by decide +kernel
theorem dX8_plain_56 : decode cX8_plain 56 = .ok (.iconst 2, 1) := by decide +kernel
theorem dX8_plain_57 : decode cX8_plain 57 = .ok (.iload_n 1, 1) := by decide +kernel
theorem dX8_plain_58 : decode cX8_plain 58 = .ok (.imul, 1) := by decide +kernel
theorem dX8_plain_59 : decode cX8_plain 59 = .ok (.iadd, 1) := by decide +kernel
theorem dX8_plain_60 : decode cX8_plain 60 = .ok (.iconst 1, 1) := by decide +kernel
theorem dX8_plain_61 : decode cX8_plain 61 = .ok (.iadd, 1) := by decide +kernel
theorem dX8_plain_62 : decode cX8_plain 62 = .ok (.iconst 2, 1) := by decide +kernel
theorem dX8_plain_63 : decode cX8_plain 63 = .ok (.iastore, 1) := by decide +kernel
theorem dX8_plain_64 : decode cX8_plain 64 = .ok (.iinc 1 1, 3) := by decide +kernel
theorem dX8_plain_67 : decode cX8_plain 67 = .ok (.goto (-28), 3) := by decide +kernel
theorem dX8_plain_70 : decode cX8_plain 70 = .ok (.return_, 1) := by decide +kernel
set_option maxRecDepth 20000 in
theorem ggX8_write_X8_in : GoodIn wsX8_write wsX8_in := goodIn_r _ [8] (by decide +kernel) (by decide +kernel)
set_option maxRecDepth 20000 in
theorem gX8_write_X8_in : GoodIn wsX8_write (va_wsS RX8 63 yX8_in wsX8_in) := goodIn_app (goodIn_of _ (by decide +kernel)) ggX8_write_X8_in
theorem dX8_write_0 : decode cX8_write 0 = .ok (.iload_n 1, 1) := by decide +kernel
theorem dX8_write_1 : decode cX8_write 1 = .ok (.i2l, 1) := by decide +kernel
theorem dX8_write_2 : decode cX8_write 2 = .ok (.ldc2_w 59, 3) := by decide +kernel
theorem dX8_write_5 : decode cX8_write 5 = .ok (.ldc2_w 61, 3) := by decide +kernel
theorem dX8_write_8 : decode cX8_write 8 = .ok (.invokestatic 63, 3) := by decide +kernel
theorem dX8_write_11 : decode cX8_write 11 = .ok (.ifCond .ne 5, 3) := by decide +kernel
theorem dX8_write_14 : decode cX8_write 14 = .ok (.iconst (-1), 1) := by decide +kernel
theorem dX8_write_15 : decode cX8_write 15 = .ok (.ireturn, 1) := by decide +kernel
theorem dX8_write_16 : decode cX8_write 16 = .ok (.aload_n 0, 1) := by decide +kernel
theorem dX8_write_17 : decode cX8_write 17 = .ok (.getfield 67, 3) := by decide +kernel
theorem dX8_write_20 : decode cX8_write 20 = .ok (.sipush 200, 3) := by decide +kernel
theorem dX8_write_23 : decode cX8_write 23 = .ok (.if_icmp .ne 6, 3) := by decide +kernel
theorem dX8_write_26 : decode cX8_write 26 = .ok (.bipush (-3), 2) := by decide +kernel
theorem dX8_write_28 : decode cX8_write 28 = .ok (.ireturn, 1) := by decide +kernel
theorem dX8_write_29 : decode cX8_write 29 = .ok (.aload_n 0, 1) := by decide +kernel
theorem dX8_write_30 : decode cX8_write 30 = .ok (.getfield 13, 3) := by decide +kernel
theorem dX8_write_33 : decode cX8_write 33 = .ok (.aload_n 0, 1) := by decide +kernel
theorem dX8_write_34 : decode cX8_write 34 = .ok (.getfield 67, 3) := by decide +kernel
theorem dX8_write_37 : decode cX8_write 37 = .ok (.iload_n 1, 1) := by decide +kernel
theorem dX8_write_38 : decode cX8_write 38 = .ok (.iastore, 1) := by decide +kernel
theorem dX8_write_39 : decode cX8_write 39 = .ok (.aload_n 0, 1) := by decide +kernel
theorem dX8_write_40 : decode cX8_write 40 = .ok (.dup, 1) := by decide +kernel
theorem dX8_write_41 : decode cX8_write 41 = .ok (.getfield 67, 3) := by decide +kernel
theorem dX8_write_44 : decode cX8_write 44 = .ok (.iconst 1, 1) := by decide +kernel
theorem dX8_write_45 : decode cX8_write 45 = .ok (.iadd, 1) := by decide +kernel
theorem dX8_write_46 : decode cX8_write 46 = .ok (.putfield 67, 3) := by decide +kernel
theorem dX8_write_49 : decode cX8_write 49 = .ok (.aload_n 0, 1) := by decide +kernel
theorem dX8_write_50 : decode cX8_write 50 = .ok (.getfield 67, 3) := by decide +kernel
theorem dX8_write_53 : decode cX8_write 53 = .ok (.ireturn, 1) := by decide +kernel
theorem dX8_wipe_0 : decode cX8_wipe 0 = .ok (.aload_n 0, 1) := by decide +kernel
theorem dX8_wipe_1 : decode cX8_wipe 1 = .ok (.getfield 67, 3) := by decide +kernel
theorem dX8_wipe_4 : decode cX8_wipe 4 = .ok (.istore_n 1, 1) := by decide +kernel
theorem dX8_wipe_5 : decode cX8_wipe 5 = .ok (.aload_n 0, 1) := by decide +kernel
theorem dX8_wipe_6 : decode cX8_wipe 6 = .ok (.iconst 0, 1) := by decide +kernel
theorem dX8_wipe_7 : decode cX8_wipe 7 = .ok (.putfield 67, 3) := by decide +kernel
theorem dX8_wipe_10 : decode cX8_wipe 10 = .ok (.iload_n 1, 1) := by decide +kernel
theorem dX8_wipe_11 : decode cX8_wipe 11 = .ok (.ireturn, 1) := by decide +kernel
set_option maxRecDepth 20000 in
theorem ggX8_isFigure_X8_in : GoodIn wsX8_isFigure wsX8_in := goodIn_r _ [8] (by decide +kernel) (by decide +kernel)
set_option maxRecDepth 20000 in
theorem gX8_isFigure_X8_in : GoodIn wsX8_isFigure (va_wsS RX8 63 yX8_in wsX8_in) := goodIn_app (goodIn_of _ (by decide +kernel)) ggX8_isFigure_X8_in
theorem dX8_isFigure_0 : decode cX8_isFigure 0 = .ok (.iload_n 1, 1) := by decide +kernel
theorem dX8_isFigure_1 : decode cX8_isFigure 1 = .ok (.aload_n 0, 1) := by decide +kernel
theorem dX8_isFigure_2 : decode cX8_isFigure 2 = .ok (.getfield 67, 3) := by decide +kernel
theorem dX8_isFigure_5 : decode cX8_isFigure 5 = .ok (.if_icmp .ge 26, 3) := by decide +kernel
theorem dX8_isFigure_8 : decode cX8_isFigure 8 = .ok (.aload_n 0, 1) := by decide +kernel
theorem dX8_isFigure_9 : decode cX8_isFigure 9 = .ok (.getfield 13, 3) := by decide +kernel
theorem dX8_isFigure_12 : decode cX8_isFigure 12 = .ok (.iload_n 1, 1) := by decide +kernel
theorem dX8_isFigure_13 : decode cX8_isFigure 13 = .ok (.iaload, 1) := by decide +kernel
theorem dX8_isFigure_14 : decode cX8_isFigure 14 = .ok (.i2l, 1) := by decide +kernel
theorem dX8_isFigure_15 : decode cX8_isFigure 15 = .ok (.ldc2_w 71, 3) := by decide +kernel
theorem dX8_isFigure_18 : decode cX8_isFigure 18 = .ok (.ldc2_w 73, 3) := by decide +kernel
theorem dX8_isFigure_21 : decode cX8_isFigure 21 = .ok (.invokestatic 63, 3) := by decide +kernel
theorem dX8_isFigure_24 : decode cX8_isFigure 24 = .ok (.ifCond .eq 7, 3) := by decide +kernel
theorem dX8_isFigure_27 : decode cX8_isFigure 27 = .ok (.iconst 1, 1) := by decide +kernel
theorem dX8_isFigure_28 : decode cX8_isFigure 28 = .ok (.goto 4, 3) := by decide +kernel
theorem dX8_isFigure_31 : decode cX8_isFigure 31 = .ok (.iconst 0, 1) := by decide +kernel
theorem dX8_isFigure_32 : decode cX8_isFigure 32 = .ok (.ireturn, 1) := by decide +kernel
set_option maxRecDepth 20000 in
theorem ggX8_readsNumbers_X8_isFigure : GoodIn wsX8_readsNumbers wsX8_isFigure := goodIn_r _ [10, 5, 2, 11, 12, 13, 14, 9, 15, 16, 17, 18, 19, 20, 21, 22, 23, 24, 25, 26, 27, 28, 29, 30, 31, 32, 33, 34, 35, 36, 37] (by decide +kernel) (by decide +kernel)
set_option maxRecDepth 20000 in
theorem gX8_readsNumbers_X8_isFigure : GoodIn wsX8_readsNumbers (wsV RX8 78 RX8 yX8_isFigure wsX8_isFigure) := goodIn_app (goodIn_of _ (by decide +kernel)) ggX8_readsNumbers_X8_isFigure
set_option maxRecDepth 20000 in
theorem ggX8_readsNumbers_X8_in : GoodIn wsX8_readsNumbers wsX8_in := goodIn_r _ [15] (by decide +kernel) (by decide +kernel)
set_option maxRecDepth 20000 in
theorem gX8_readsNumbers_X8_in : GoodIn wsX8_readsNumbers (va_wsS RX8 63 yX8_in wsX8_in) := goodIn_app (goodIn_of _ (by decide +kernel)) ggX8_readsNumbers_X8_in
theorem dX8_readsNumbers_0 : decode cX8_readsNumbers 0 = .ok (.iconst 1, 1) := by decide +kernel
theorem dX8_readsNumbers_1 : decode cX8_readsNumbers 1 = .ok (.istore_n 2, 1) := by decide +kernel
theorem dX8_readsNumbers_2 : decode cX8_readsNumbers 2 = .ok (.iconst 0, 1) := by decide +kernel
theorem dX8_readsNumbers_3 : decode cX8_readsNumbers 3 = .ok (.istore_n 3, 1) := by decide +kernel
theorem dX8_readsNumbers_4 : decode cX8_readsNumbers 4 = .ok (.iload_n 3, 1) := by decide +kernel
theorem dX8_readsNumbers_5 : decode cX8_readsNumbers 5 = .ok (.iload_n 1, 1) := by decide +kernel
theorem dX8_readsNumbers_6 : decode cX8_readsNumbers 6 = .ok (.if_icmp .ge 156, 3) := by decide +kernel
theorem dX8_readsNumbers_9 : decode cX8_readsNumbers 9 = .ok (.iload_n 2, 1) := by decide +kernel
theorem dX8_readsNumbers_10 : decode cX8_readsNumbers 10 = .ok (.ifCond .eq 152, 3) := by decide +kernel
theorem dX8_readsNumbers_13 : decode cX8_readsNumbers 13 = .ok (.aload_n 0, 1) := by decide +kernel
theorem dX8_readsNumbers_14 : decode cX8_readsNumbers 14 = .ok (.getfield 75, 3) := by decide +kernel
theorem dX8_readsNumbers_17 : decode cX8_readsNumbers 17 = .ok (.istore 4, 2) := by decide +kernel
theorem dX8_readsNumbers_19 : decode cX8_readsNumbers 19 = .ok (.iconst 0, 1) := by decide +kernel
theorem dX8_readsNumbers_20 : decode cX8_readsNumbers 20 = .ok (.istore 5, 2) := by decide +kernel
theorem dX8_readsNumbers_22 : decode cX8_readsNumbers 22 = .ok (.aload_n 0, 1) := by decide +kernel
theorem dX8_readsNumbers_23 : decode cX8_readsNumbers 23 = .ok (.aload_n 0, 1) := by decide +kernel
theorem dX8_readsNumbers_24 : decode cX8_readsNumbers 24 = .ok (.getfield 75, 3) := by decide +kernel
theorem dX8_readsNumbers_27 : decode cX8_readsNumbers 27 = .ok (.invokevirtual 78, 3) := by decide +kernel
theorem dX8_readsNumbers_30 : decode cX8_readsNumbers 30 = .ok (.ifCond .eq 47, 3) := by decide +kernel
theorem dX8_readsNumbers_33 : decode cX8_readsNumbers 33 = .ok (.aload_n 0, 1) := by decide +kernel
theorem dX8_readsNumbers_34 : decode cX8_readsNumbers 34 = .ok (.getfield 75, 3) := by decide +kernel
theorem dX8_readsNumbers_37 : decode cX8_readsNumbers 37 = .ok (.iload 4, 2) := by decide +kernel
theorem dX8_readsNumbers_39 : decode cX8_readsNumbers 39 = .ok (.isub, 1) := by decide +kernel
theorem dX8_readsNumbers_40 : decode cX8_readsNumbers 40 = .ok (.iconst 3, 1) := by decide +kernel
theorem dX8_readsNumbers_41 : decode cX8_readsNumbers 41 = .ok (.if_icmp .ge 36, 3) := by decide +kernel
theorem dX8_readsNumbers_44 : decode cX8_readsNumbers 44 = .ok (.bipush 10, 2) := by decide +kernel
theorem dX8_readsNumbers_46 : decode cX8_readsNumbers 46 = .ok (.iload 5, 2) := by decide +kernel
theorem dX8_readsNumbers_48 : decode cX8_readsNumbers 48 = .ok (.imul, 1) := by decide +kernel
theorem dX8_readsNumbers_49 : decode cX8_readsNumbers 49 = .ok (.aload_n 0, 1) := by decide +kernel
theorem dX8_readsNumbers_50 : decode cX8_readsNumbers 50 = .ok (.getfield 13, 3) := by decide +kernel
theorem dX8_readsNumbers_53 : decode cX8_readsNumbers 53 = .ok (.aload_n 0, 1) := by decide +kernel
theorem dX8_readsNumbers_54 : decode cX8_readsNumbers 54 = .ok (.getfield 75, 3) := by decide +kernel
theorem dX8_readsNumbers_57 : decode cX8_readsNumbers 57 = .ok (.iaload, 1) := by decide +kernel
theorem dX8_readsNumbers_58 : decode cX8_readsNumbers 58 = .ok (.iadd, 1) := by decide +kernel
theorem dX8_readsNumbers_59 : decode cX8_readsNumbers 59 = .ok (.bipush 48, 2) := by decide +kernel
theorem dX8_readsNumbers_61 : decode cX8_readsNumbers 61 = .ok (.isub, 1) := by decide +kernel
theorem dX8_readsNumbers_62 : decode cX8_readsNumbers 62 = .ok (.istore 5, 2) := by decide +kernel
theorem dX8_readsNumbers_64 : decode cX8_readsNumbers 64 = .ok (.aload_n 0, 1) := by decide +kernel
theorem dX8_readsNumbers_65 : decode cX8_readsNumbers 65 = .ok (.dup, 1) := by decide +kernel
theorem dX8_readsNumbers_66 : decode cX8_readsNumbers 66 = .ok (.getfield 75, 3) := by decide +kernel
theorem dX8_readsNumbers_69 : decode cX8_readsNumbers 69 = .ok (.iconst 1, 1) := by decide +kernel
theorem dX8_readsNumbers_70 : decode cX8_readsNumbers 70 = .ok (.iadd, 1) := by decide +kernel
theorem dX8_readsNumbers_71 : decode cX8_readsNumbers 71 = .ok (.putfield 75, 3) := by decide +kernel
theorem dX8_readsNumbers_74 : decode cX8_readsNumbers 74 = .ok (.goto (-52), 3) := by decide +kernel
theorem dX8_readsNumbers_77 : decode cX8_readsNumbers 77 = .ok (.aload_n 0, 1) := by decide +kernel
theorem dX8_readsNumbers_78 : decode cX8_readsNumbers 78 = .ok (.getfield 19, 3) := by decide +kernel
theorem dX8_readsNumbers_81 : decode cX8_readsNumbers 81 = .ok (.iload_n 3, 1) := by decide +kernel
theorem dX8_readsNumbers_82 : decode cX8_readsNumbers 82 = .ok (.iload 5, 2) := by decide +kernel
theorem dX8_readsNumbers_84 : decode cX8_readsNumbers 84 = .ok (.iastore, 1) := by decide +kernel
theorem dX8_readsNumbers_85 : decode cX8_readsNumbers 85 = .ok (.aload_n 0, 1) := by decide +kernel
theorem dX8_readsNumbers_86 : decode cX8_readsNumbers 86 = .ok (.getfield 75, 3) := by decide +kernel
theorem dX8_readsNumbers_89 : decode cX8_readsNumbers 89 = .ok (.iload 4, 2) := by decide +kernel
theorem dX8_readsNumbers_91 : decode cX8_readsNumbers 91 = .ok (.isub, 1) := by decide +kernel
theorem dX8_readsNumbers_92 : decode cX8_readsNumbers 92 = .ok (.i2l, 1) := by decide +kernel
theorem dX8_readsNumbers_93 : decode cX8_readsNumbers 93 = .ok (.lconst 1, 1) := by decide +kernel
theorem dX8_readsNumbers_94 : decode cX8_readsNumbers 94 = .ok (.ldc2_w 82, 3) := by decide +kernel
theorem dX8_readsNumbers_97 : decode cX8_readsNumbers 97 = .ok (.invokestatic 63, 3) := by decide +kernel
theorem dX8_readsNumbers_100 : decode cX8_readsNumbers 100 = .ok (.ifCond .eq 44, 3) := by decide +kernel
theorem dX8_readsNumbers_103 : decode cX8_readsNumbers 103 = .ok (.aload_n 0, 1) := by decide +kernel
theorem dX8_readsNumbers_104 : decode cX8_readsNumbers 104 = .ok (.getfield 75, 3) := by decide +kernel
theorem dX8_readsNumbers_107 : decode cX8_readsNumbers 107 = .ok (.aload_n 0, 1) := by decide +kernel
theorem dX8_readsNumbers_108 : decode cX8_readsNumbers 108 = .ok (.getfield 67, 3) := by decide +kernel
theorem dX8_readsNumbers_111 : decode cX8_readsNumbers 111 = .ok (.if_icmp .ge 33, 3) := by decide +kernel
theorem dX8_readsNumbers_114 : decode cX8_readsNumbers 114 = .ok (.aload_n 0, 1) := by decide +kernel
theorem dX8_readsNumbers_115 : decode cX8_readsNumbers 115 = .ok (.getfield 13, 3) := by decide +kernel
theorem dX8_readsNumbers_118 : decode cX8_readsNumbers 118 = .ok (.aload_n 0, 1) := by decide +kernel
theorem dX8_readsNumbers_119 : decode cX8_readsNumbers 119 = .ok (.getfield 75, 3) := by decide +kernel
theorem dX8_readsNumbers_122 : decode cX8_readsNumbers 122 = .ok (.iaload, 1) := by decide +kernel
theorem dX8_readsNumbers_123 : decode cX8_readsNumbers 123 = .ok (.iload_n 3, 1) := by decide +kernel
theorem dX8_readsNumbers_124 : decode cX8_readsNumbers 124 = .ok (.iload_n 1, 1) := by decide +kernel
theorem dX8_readsNumbers_125 : decode cX8_readsNumbers 125 = .ok (.iconst 1, 1) := by decide +kernel
theorem dX8_readsNumbers_126 : decode cX8_readsNumbers 126 = .ok (.isub, 1) := by decide +kernel
theorem dX8_readsNumbers_127 : decode cX8_readsNumbers 127 = .ok (.if_icmp .ne 8, 3) := by decide +kernel
theorem dX8_readsNumbers_130 : decode cX8_readsNumbers 130 = .ok (.bipush 59, 2) := by decide +kernel
theorem dX8_readsNumbers_132 : decode cX8_readsNumbers 132 = .ok (.goto 5, 3) := by decide +kernel
theorem dX8_readsNumbers_135 : decode cX8_readsNumbers 135 = .ok (.bipush 44, 2) := by decide +kernel
theorem dX8_readsNumbers_137 : decode cX8_readsNumbers 137 = .ok (.if_icmp .ne 7, 3) := by decide +kernel
theorem dX8_readsNumbers_140 : decode cX8_readsNumbers 140 = .ok (.iconst 1, 1) := by decide +kernel
theorem dX8_readsNumbers_141 : decode cX8_readsNumbers 141 = .ok (.goto 4, 3) := by decide +kernel
theorem dX8_readsNumbers_144 : decode cX8_readsNumbers 144 = .ok (.iconst 0, 1) := by decide +kernel
theorem dX8_readsNumbers_145 : decode cX8_readsNumbers 145 = .ok (.istore_n 2, 1) := by decide +kernel
theorem dX8_readsNumbers_146 : decode cX8_readsNumbers 146 = .ok (.aload_n 0, 1) := by decide +kernel
theorem dX8_readsNumbers_147 : decode cX8_readsNumbers 147 = .ok (.dup, 1) := by decide +kernel
theorem dX8_readsNumbers_148 : decode cX8_readsNumbers 148 = .ok (.getfield 75, 3) := by decide +kernel
theorem dX8_readsNumbers_151 : decode cX8_readsNumbers 151 = .ok (.iconst 1, 1) := by decide +kernel
theorem dX8_readsNumbers_152 : decode cX8_readsNumbers 152 = .ok (.iadd, 1) := by decide +kernel
theorem dX8_readsNumbers_153 : decode cX8_readsNumbers 153 = .ok (.putfield 75, 3) := by decide +kernel
theorem dX8_readsNumbers_156 : decode cX8_readsNumbers 156 = .ok (.iinc 3 1, 3) := by decide +kernel
theorem dX8_readsNumbers_159 : decode cX8_readsNumbers 159 = .ok (.goto (-155), 3) := by decide +kernel
theorem dX8_readsNumbers_162 : decode cX8_readsNumbers 162 = .ok (.iload_n 2, 1) := by decide +kernel
theorem dX8_readsNumbers_163 : decode cX8_readsNumbers 163 = .ok (.ireturn, 1) := by decide +kernel
set_option maxRecDepth 20000 in
theorem ggX8_readsStretch_X8_readsNumbers : GoodIn wsX8_readsStretch wsX8_readsNumbers := goodIn_r _ [8, 9, 10, 2, 11, 12, 13, 14, 15, 7, 16, 17, 18, 19, 20, 21, 22, 23, 24, 25, 26, 27, 28, 29, 30, 31, 32, 33, 34, 35, 36, 37, 38, 39, 40, 41, 42, 43] (by decide +kernel) (by decide +kernel)
set_option maxRecDepth 20000 in
theorem gX8_readsStretch_X8_readsNumbers : GoodIn wsX8_readsStretch (wsV RX8 84 RX8 yX8_readsNumbers wsX8_readsNumbers) := goodIn_app (goodIn_of _ (by decide +kernel)) ggX8_readsStretch_X8_readsNumbers
set_option maxRecDepth 20000 in
theorem ggX8_readsStretch_X8_in : GoodIn wsX8_readsStretch wsX8_in := goodIn_r _ [21] (by decide +kernel) (by decide +kernel)
set_option maxRecDepth 20000 in
theorem gX8_readsStretch_X8_in : GoodIn wsX8_readsStretch (va_wsS RX8 63 yX8_in wsX8_in) := goodIn_app (goodIn_of _ (by decide +kernel)) ggX8_readsStretch_X8_in
theorem dX8_readsStretch_0 : decode cX8_readsStretch 0 = .ok (.aload_n 0, 1) := by decide +kernel
theorem dX8_readsStretch_1 : decode cX8_readsStretch 1 = .ok (.getfield 16, 3) := by decide +kernel
theorem dX8_readsStretch_4 : decode cX8_readsStretch 4 = .ok (.iconst 0, 1) := by decide +kernel
theorem dX8_readsStretch_5 : decode cX8_readsStretch 5 = .ok (.iaload, 1) := by decide +kernel
theorem dX8_readsStretch_6 : decode cX8_readsStretch 6 = .ok (.bipush 8, 2) := by decide +kernel
theorem dX8_readsStretch_8 : decode cX8_readsStretch 8 = .ok (.if_icmp .ge 54, 3) := by decide +kernel
theorem dX8_readsStretch_11 : decode cX8_readsStretch 11 = .ok (.aload_n 0, 1) := by decide +kernel
theorem dX8_readsStretch_12 : decode cX8_readsStretch 12 = .ok (.iconst 3, 1) := by decide +kernel
theorem dX8_readsStretch_13 : decode cX8_readsStretch 13 = .ok (.invokevirtual 84, 3) := by decide +kernel
theorem dX8_readsStretch_16 : decode cX8_readsStretch 16 = .ok (.ifCond .eq 46, 3) := by decide +kernel
theorem dX8_readsStretch_19 : decode cX8_readsStretch 19 = .ok (.aload_n 0, 1) := by decide +kernel
theorem dX8_readsStretch_20 : decode cX8_readsStretch 20 = .ok (.getfield 19, 3) := by decide +kernel
theorem dX8_readsStretch_23 : decode cX8_readsStretch 23 = .ok (.iconst 0, 1) := by decide +kernel
theorem dX8_readsStretch_24 : decode cX8_readsStretch 24 = .ok (.iaload, 1) := by decide +kernel
theorem dX8_readsStretch_25 : decode cX8_readsStretch 25 = .ok (.i2l, 1) := by decide +kernel
theorem dX8_readsStretch_26 : decode cX8_readsStretch 26 = .ok (.lconst 1, 1) := by decide +kernel
theorem dX8_readsStretch_27 : decode cX8_readsStretch 27 = .ok (.ldc2_w 87, 3) := by decide +kernel
theorem dX8_readsStretch_30 : decode cX8_readsStretch 30 = .ok (.invokestatic 63, 3) := by decide +kernel
theorem dX8_readsStretch_33 : decode cX8_readsStretch 33 = .ok (.ifCond .eq 29, 3) := by decide +kernel
theorem dX8_readsStretch_36 : decode cX8_readsStretch 36 = .ok (.aload_n 0, 1) := by decide +kernel
theorem dX8_readsStretch_37 : decode cX8_readsStretch 37 = .ok (.getfield 19, 3) := by decide +kernel
theorem dX8_readsStretch_40 : decode cX8_readsStretch 40 = .ok (.iconst 1, 1) := by decide +kernel
theorem dX8_readsStretch_41 : decode cX8_readsStretch 41 = .ok (.iaload, 1) := by decide +kernel
theorem dX8_readsStretch_42 : decode cX8_readsStretch 42 = .ok (.bipush 11, 2) := by decide +kernel
theorem dX8_readsStretch_44 : decode cX8_readsStretch 44 = .ok (.if_icmp .ge 18, 3) := by decide +kernel
theorem dX8_readsStretch_47 : decode cX8_readsStretch 47 = .ok (.aload_n 0, 1) := by decide +kernel
theorem dX8_readsStretch_48 : decode cX8_readsStretch 48 = .ok (.getfield 19, 3) := by decide +kernel
theorem dX8_readsStretch_51 : decode cX8_readsStretch 51 = .ok (.iconst 2, 1) := by decide +kernel
theorem dX8_readsStretch_52 : decode cX8_readsStretch 52 = .ok (.iaload, 1) := by decide +kernel
theorem dX8_readsStretch_53 : decode cX8_readsStretch 53 = .ok (.bipush 11, 2) := by decide +kernel
theorem dX8_readsStretch_55 : decode cX8_readsStretch 55 = .ok (.if_icmp .ge 7, 3) := by decide +kernel
theorem dX8_readsStretch_58 : decode cX8_readsStretch 58 = .ok (.iconst 1, 1) := by decide +kernel
theorem dX8_readsStretch_59 : decode cX8_readsStretch 59 = .ok (.goto 4, 3) := by decide +kernel
theorem dX8_readsStretch_62 : decode cX8_readsStretch 62 = .ok (.iconst 0, 1) := by decide +kernel
theorem dX8_readsStretch_63 : decode cX8_readsStretch 63 = .ok (.istore_n 1, 1) := by decide +kernel
theorem dX8_readsStretch_64 : decode cX8_readsStretch 64 = .ok (.iconst 0, 1) := by decide +kernel
theorem dX8_readsStretch_65 : decode cX8_readsStretch 65 = .ok (.istore_n 2, 1) := by decide +kernel
theorem dX8_readsStretch_66 : decode cX8_readsStretch 66 = .ok (.iload_n 2, 1) := by decide +kernel
theorem dX8_readsStretch_67 : decode cX8_readsStretch 67 = .ok (.iconst 3, 1) := by decide +kernel
theorem dX8_readsStretch_68 : decode cX8_readsStretch 68 = .ok (.if_icmp .ge 36, 3) := by decide +kernel
theorem dX8_readsStretch_71 : decode cX8_readsStretch 71 = .ok (.iload_n 1, 1) := by decide +kernel
theorem dX8_readsStretch_72 : decode cX8_readsStretch 72 = .ok (.ifCond .eq 32, 3) := by decide +kernel
theorem dX8_readsStretch_75 : decode cX8_readsStretch 75 = .ok (.aload_n 0, 1) := by decide +kernel
theorem dX8_readsStretch_76 : decode cX8_readsStretch 76 = .ok (.getfield 16, 3) := by decide +kernel
theorem dX8_readsStretch_79 : decode cX8_readsStretch 79 = .ok (.iconst 5, 1) := by decide +kernel
theorem dX8_readsStretch_80 : decode cX8_readsStretch 80 = .ok (.iconst 3, 1) := by decide +kernel
theorem dX8_readsStretch_81 : decode cX8_readsStretch 81 = .ok (.aload_n 0, 1) := by decide +kernel
theorem dX8_readsStretch_82 : decode cX8_readsStretch 82 = .ok (.getfield 16, 3) := by decide +kernel
theorem dX8_readsStretch_85 : decode cX8_readsStretch 85 = .ok (.iconst 0, 1) := by decide +kernel
theorem dX8_readsStretch_86 : decode cX8_readsStretch 86 = .ok (.iaload, 1) := by decide +kernel
theorem dX8_readsStretch_87 : decode cX8_readsStretch 87 = .ok (.imul, 1) := by decide +kernel
theorem dX8_readsStretch_88 : decode cX8_readsStretch 88 = .ok (.iadd, 1) := by decide +kernel
theorem dX8_readsStretch_89 : decode cX8_readsStretch 89 = .ok (.iload_n 2, 1) := by decide +kernel
theorem dX8_readsStretch_90 : decode cX8_readsStretch 90 = .ok (.iadd, 1) := by decide +kernel
theorem dX8_readsStretch_91 : decode cX8_readsStretch 91 = .ok (.aload_n 0, 1) := by decide +kernel
theorem dX8_readsStretch_92 : decode cX8_readsStretch 92 = .ok (.getfield 19, 3) := by decide +kernel
theorem dX8_readsStretch_95 : decode cX8_readsStretch 95 = .ok (.iload_n 2, 1) := by decide +kernel
theorem dX8_readsStretch_96 : decode cX8_readsStretch 96 = .ok (.iaload, 1) := by decide +kernel
theorem dX8_readsStretch_97 : decode cX8_readsStretch 97 = .ok (.iastore, 1) := by decide +kernel
theorem dX8_readsStretch_98 : decode cX8_readsStretch 98 = .ok (.iinc 2 1, 3) := by decide +kernel
theorem dX8_readsStretch_101 : decode cX8_readsStretch 101 = .ok (.goto (-35), 3) := by decide +kernel
theorem dX8_readsStretch_104 : decode cX8_readsStretch 104 = .ok (.aload_n 0, 1) := by decide +kernel
theorem dX8_readsStretch_105 : decode cX8_readsStretch 105 = .ok (.getfield 16, 3) := by decide +kernel
theorem dX8_readsStretch_108 : decode cX8_readsStretch 108 = .ok (.iconst 0, 1) := by decide +kernel
theorem dX8_readsStretch_109 : decode cX8_readsStretch 109 = .ok (.dup2, 1) := by decide +kernel
theorem dX8_readsStretch_110 : decode cX8_readsStretch 110 = .ok (.iaload, 1) := by decide +kernel
theorem dX8_readsStretch_111 : decode cX8_readsStretch 111 = .ok (.iload_n 1, 1) := by decide +kernel
theorem dX8_readsStretch_112 : decode cX8_readsStretch 112 = .ok (.ifCond .eq 7, 3) := by decide +kernel
theorem dX8_readsStretch_115 : decode cX8_readsStretch 115 = .ok (.iconst 1, 1) := by decide +kernel
theorem dX8_readsStretch_116 : decode cX8_readsStretch 116 = .ok (.goto 4, 3) := by decide +kernel
theorem dX8_readsStretch_119 : decode cX8_readsStretch 119 = .ok (.iconst 0, 1) := by decide +kernel
theorem dX8_readsStretch_120 : decode cX8_readsStretch 120 = .ok (.iadd, 1) := by decide +kernel
theorem dX8_readsStretch_121 : decode cX8_readsStretch 121 = .ok (.iastore, 1) := by decide +kernel
theorem dX8_readsStretch_122 : decode cX8_readsStretch 122 = .ok (.iload_n 1, 1) := by decide +kernel
theorem dX8_readsStretch_123 : decode cX8_readsStretch 123 = .ok (.ireturn, 1) := by decide +kernel
set_option maxRecDepth 20000 in
theorem ggX8_readsSort_X8_readsNumbers : GoodIn wsX8_readsSort wsX8_readsNumbers := goodIn_r _ [7, 8, 9, 1, 10, 11, 12, 13, 14, 6, 15, 16, 17, 18, 19, 20, 21, 22, 23, 24, 25, 26, 27, 28, 29, 30, 31, 32, 33, 34, 35, 36, 37, 38, 39, 40, 41, 42] (by decide +kernel) (by decide +kernel)
set_option maxRecDepth 20000 in
theorem gX8_readsSort_X8_readsNumbers : GoodIn wsX8_readsSort (wsV RX8 84 RX8 yX8_readsNumbers wsX8_readsNumbers) := goodIn_app (goodIn_of _ (by decide +kernel)) ggX8_readsSort_X8_readsNumbers
theorem dX8_readsSort_0 : decode cX8_readsSort 0 = .ok (.aload_n 0, 1) := by decide +kernel
theorem dX8_readsSort_1 : decode cX8_readsSort 1 = .ok (.iconst 3, 1) := by decide +kernel
theorem dX8_readsSort_2 : decode cX8_readsSort 2 = .ok (.invokevirtual 84, 3) := by decide +kernel
theorem dX8_readsSort_5 : decode cX8_readsSort 5 = .ok (.ifCond .eq 39, 3) := by decide +kernel
theorem dX8_readsSort_8 : decode cX8_readsSort 8 = .ok (.aload_n 0, 1) := by decide +kernel
theorem dX8_readsSort_9 : decode cX8_readsSort 9 = .ok (.getfield 19, 3) := by decide +kernel
theorem dX8_readsSort_12 : decode cX8_readsSort 12 = .ok (.iconst 0, 1) := by decide +kernel
theorem dX8_readsSort_13 : decode cX8_readsSort 13 = .ok (.iaload, 1) := by decide +kernel
theorem dX8_readsSort_14 : decode cX8_readsSort 14 = .ok (.iconst 4, 1) := by decide +kernel
theorem dX8_readsSort_15 : decode cX8_readsSort 15 = .ok (.if_icmp .ge 29, 3) := by decide +kernel
theorem dX8_readsSort_18 : decode cX8_readsSort 18 = .ok (.aload_n 0, 1) := by decide +kernel
theorem dX8_readsSort_19 : decode cX8_readsSort 19 = .ok (.getfield 19, 3) := by decide +kernel
theorem dX8_readsSort_22 : decode cX8_readsSort 22 = .ok (.iconst 1, 1) := by decide +kernel
theorem dX8_readsSort_23 : decode cX8_readsSort 23 = .ok (.iaload, 1) := by decide +kernel
theorem dX8_readsSort_24 : decode cX8_readsSort 24 = .ok (.bipush 6, 2) := by decide +kernel
theorem dX8_readsSort_26 : decode cX8_readsSort 26 = .ok (.if_icmp .ge 18, 3) := by decide +kernel
theorem dX8_readsSort_29 : decode cX8_readsSort 29 = .ok (.aload_n 0, 1) := by decide +kernel
theorem dX8_readsSort_30 : decode cX8_readsSort 30 = .ok (.getfield 19, 3) := by decide +kernel
theorem dX8_readsSort_33 : decode cX8_readsSort 33 = .ok (.iconst 2, 1) := by decide +kernel
theorem dX8_readsSort_34 : decode cX8_readsSort 34 = .ok (.iaload, 1) := by decide +kernel
theorem dX8_readsSort_35 : decode cX8_readsSort 35 = .ok (.bipush 61, 2) := by decide +kernel
theorem dX8_readsSort_37 : decode cX8_readsSort 37 = .ok (.if_icmp .ge 7, 3) := by decide +kernel
theorem dX8_readsSort_40 : decode cX8_readsSort 40 = .ok (.iconst 1, 1) := by decide +kernel
theorem dX8_readsSort_41 : decode cX8_readsSort 41 = .ok (.goto 4, 3) := by decide +kernel
theorem dX8_readsSort_44 : decode cX8_readsSort 44 = .ok (.iconst 0, 1) := by decide +kernel
theorem dX8_readsSort_45 : decode cX8_readsSort 45 = .ok (.istore_n 1, 1) := by decide +kernel
theorem dX8_readsSort_46 : decode cX8_readsSort 46 = .ok (.iload_n 1, 1) := by decide +kernel
theorem dX8_readsSort_47 : decode cX8_readsSort 47 = .ok (.ifCond .eq 49, 3) := by decide +kernel
theorem dX8_readsSort_50 : decode cX8_readsSort 50 = .ok (.aload_n 0, 1) := by decide +kernel
theorem dX8_readsSort_51 : decode cX8_readsSort 51 = .ok (.getfield 16, 3) := by decide +kernel
theorem dX8_readsSort_54 : decode cX8_readsSort 54 = .ok (.bipush 29, 2) := by decide +kernel
theorem dX8_readsSort_56 : decode cX8_readsSort 56 = .ok (.iconst 2, 1) := by decide +kernel
theorem dX8_readsSort_57 : decode cX8_readsSort 57 = .ok (.aload_n 0, 1) := by decide +kernel
theorem dX8_readsSort_58 : decode cX8_readsSort 58 = .ok (.getfield 19, 3) := by decide +kernel
theorem dX8_readsSort_61 : decode cX8_readsSort 61 = .ok (.iconst 0, 1) := by decide +kernel
theorem dX8_readsSort_62 : decode cX8_readsSort 62 = .ok (.iaload, 1) := by decide +kernel
theorem dX8_readsSort_63 : decode cX8_readsSort 63 = .ok (.imul, 1) := by decide +kernel
theorem dX8_readsSort_64 : decode cX8_readsSort 64 = .ok (.iadd, 1) := by decide +kernel
theorem dX8_readsSort_65 : decode cX8_readsSort 65 = .ok (.aload_n 0, 1) := by decide +kernel
theorem dX8_readsSort_66 : decode cX8_readsSort 66 = .ok (.getfield 19, 3) := by decide +kernel
theorem dX8_readsSort_69 : decode cX8_readsSort 69 = .ok (.iconst 1, 1) := by decide +kernel
theorem dX8_readsSort_70 : decode cX8_readsSort 70 = .ok (.iaload, 1) := by decide +kernel
theorem dX8_readsSort_71 : decode cX8_readsSort 71 = .ok (.iastore, 1) := by decide +kernel
theorem dX8_readsSort_72 : decode cX8_readsSort 72 = .ok (.aload_n 0, 1) := by decide +kernel
theorem dX8_readsSort_73 : decode cX8_readsSort 73 = .ok (.getfield 16, 3) := by decide +kernel
theorem dX8_readsSort_76 : decode cX8_readsSort 76 = .ok (.bipush 29, 2) := by decide +kernel
theorem dX8_readsSort_78 : decode cX8_readsSort 78 = .ok (.iconst 2, 1) := by decide +kernel
theorem dX8_readsSort_79 : decode cX8_readsSort 79 = .ok (.aload_n 0, 1) := by decide +kernel
theorem dX8_readsSort_80 : decode cX8_readsSort 80 = .ok (.getfield 19, 3) := by decide +kernel
theorem dX8_readsSort_83 : decode cX8_readsSort 83 = .ok (.iconst 0, 1) := by decide +kernel
theorem dX8_readsSort_84 : decode cX8_readsSort 84 = .ok (.iaload, 1) := by decide +kernel
theorem dX8_readsSort_85 : decode cX8_readsSort 85 = .ok (.imul, 1) := by decide +kernel
theorem dX8_readsSort_86 : decode cX8_readsSort 86 = .ok (.iadd, 1) := by decide +kernel
theorem dX8_readsSort_87 : decode cX8_readsSort 87 = .ok (.iconst 1, 1) := by decide +kernel
theorem dX8_readsSort_88 : decode cX8_readsSort 88 = .ok (.iadd, 1) := by decide +kernel
theorem dX8_readsSort_89 : decode cX8_readsSort 89 = .ok (.aload_n 0, 1) := by decide +kernel
theorem dX8_readsSort_90 : decode cX8_readsSort 90 = .ok (.getfield 19, 3) := by decide +kernel
theorem dX8_readsSort_93 : decode cX8_readsSort 93 = .ok (.iconst 2, 1) := by decide +kernel
theorem dX8_readsSort_94 : decode cX8_readsSort 94 = .ok (.iaload, 1) := by decide +kernel
theorem dX8_readsSort_95 : decode cX8_readsSort 95 = .ok (.iastore, 1) := by decide +kernel
theorem dX8_readsSort_96 : decode cX8_readsSort 96 = .ok (.iload_n 1, 1) := by decide +kernel
theorem dX8_readsSort_97 : decode cX8_readsSort 97 = .ok (.ireturn, 1) := by decide +kernel
set_option maxRecDepth 20000 in
theorem ggX8_readsCost_X8_readsNumbers : GoodIn wsX8_readsCost wsX8_readsNumbers := goodIn_r _ [7, 8, 9, 1, 10, 11, 12, 13, 14, 6, 15, 16, 17, 18, 19, 20, 21, 22, 23, 24, 25, 26, 27, 28, 29, 30, 31, 32, 33, 34, 35, 36, 37, 38, 39, 40, 41, 42] (by decide +kernel) (by decide +kernel)
set_option maxRecDepth 20000 in
theorem gX8_readsCost_X8_readsNumbers : GoodIn wsX8_readsCost (wsV RX8 84 RX8 yX8_readsNumbers wsX8_readsNumbers) := goodIn_app (goodIn_of _ (by decide +kernel)) ggX8_readsCost_X8_readsNumbers
theorem dX8_readsCost_0 : decode cX8_readsCost 0 = .ok (.aload_n 0, 1) := by decide +kernel
theorem dX8_readsCost_1 : decode cX8_readsCost 1 = .ok (.iconst 3, 1) := by decide +kernel
theorem dX8_readsCost_2 : decode cX8_readsCost 2 = .ok (.invokevirtual 84, 3) := by decide +kernel
theorem dX8_readsCost_5 : decode cX8_readsCost 5 = .ok (.ifCond .eq 18, 3) := by decide +kernel
theorem dX8_readsCost_8 : decode cX8_readsCost 8 = .ok (.aload_n 0, 1) := by decide +kernel
theorem dX8_readsCost_9 : decode cX8_readsCost 9 = .ok (.getfield 19, 3) := by decide +kernel
theorem dX8_readsCost_12 : decode cX8_readsCost 12 = .ok (.iconst 2, 1) := by decide +kernel
theorem dX8_readsCost_13 : decode cX8_readsCost 13 = .ok (.iaload, 1) := by decide +kernel
theorem dX8_readsCost_14 : decode cX8_readsCost 14 = .ok (.bipush 11, 2) := by decide +kernel
theorem dX8_readsCost_16 : decode cX8_readsCost 16 = .ok (.if_icmp .ge 7, 3) := by decide +kernel
theorem dX8_readsCost_19 : decode cX8_readsCost 19 = .ok (.iconst 1, 1) := by decide +kernel
theorem dX8_readsCost_20 : decode cX8_readsCost 20 = .ok (.goto 4, 3) := by decide +kernel
theorem dX8_readsCost_23 : decode cX8_readsCost 23 = .ok (.iconst 0, 1) := by decide +kernel
theorem dX8_readsCost_24 : decode cX8_readsCost 24 = .ok (.istore_n 1, 1) := by decide +kernel
theorem dX8_readsCost_25 : decode cX8_readsCost 25 = .ok (.iconst 0, 1) := by decide +kernel
theorem dX8_readsCost_26 : decode cX8_readsCost 26 = .ok (.istore_n 2, 1) := by decide +kernel
theorem dX8_readsCost_27 : decode cX8_readsCost 27 = .ok (.iload_n 2, 1) := by decide +kernel
theorem dX8_readsCost_28 : decode cX8_readsCost 28 = .ok (.iconst 3, 1) := by decide +kernel
theorem dX8_readsCost_29 : decode cX8_readsCost 29 = .ok (.if_icmp .ge 27, 3) := by decide +kernel
theorem dX8_readsCost_32 : decode cX8_readsCost 32 = .ok (.iload_n 1, 1) := by decide +kernel
theorem dX8_readsCost_33 : decode cX8_readsCost 33 = .ok (.ifCond .eq 23, 3) := by decide +kernel
theorem dX8_readsCost_36 : decode cX8_readsCost 36 = .ok (.aload_n 0, 1) := by decide +kernel
theorem dX8_readsCost_37 : decode cX8_readsCost 37 = .ok (.getfield 16, 3) := by decide +kernel
theorem dX8_readsCost_40 : decode cX8_readsCost 40 = .ok (.iconst 2, 1) := by decide +kernel
theorem dX8_readsCost_41 : decode cX8_readsCost 41 = .ok (.iload_n 2, 1) := by decide +kernel
theorem dX8_readsCost_42 : decode cX8_readsCost 42 = .ok (.iadd, 1) := by decide +kernel
theorem dX8_readsCost_43 : decode cX8_readsCost 43 = .ok (.aload_n 0, 1) := by decide +kernel
theorem dX8_readsCost_44 : decode cX8_readsCost 44 = .ok (.getfield 19, 3) := by decide +kernel
theorem dX8_readsCost_47 : decode cX8_readsCost 47 = .ok (.iload_n 2, 1) := by decide +kernel
theorem dX8_readsCost_48 : decode cX8_readsCost 48 = .ok (.iaload, 1) := by decide +kernel
theorem dX8_readsCost_49 : decode cX8_readsCost 49 = .ok (.iastore, 1) := by decide +kernel
theorem dX8_readsCost_50 : decode cX8_readsCost 50 = .ok (.iinc 2 1, 3) := by decide +kernel
theorem dX8_readsCost_53 : decode cX8_readsCost 53 = .ok (.goto (-26), 3) := by decide +kernel
theorem dX8_readsCost_56 : decode cX8_readsCost 56 = .ok (.iload_n 1, 1) := by decide +kernel
theorem dX8_readsCost_57 : decode cX8_readsCost 57 = .ok (.ireturn, 1) := by decide +kernel
set_option maxRecDepth 20000 in
theorem ggX8_readsFriends_X8_readsNumbers : GoodIn wsX8_readsFriends wsX8_readsNumbers := goodIn_r _ [8, 9, 10, 1, 11, 12, 13, 14, 15, 7, 16, 17, 18, 19, 20, 21, 22, 23, 24, 25, 26, 27, 28, 29, 30, 31, 32, 33, 34, 35, 36, 37, 38, 39, 40, 41, 42, 43] (by decide +kernel) (by decide +kernel)
set_option maxRecDepth 20000 in
theorem gX8_readsFriends_X8_readsNumbers : GoodIn wsX8_readsFriends (wsV RX8 84 RX8 yX8_readsNumbers wsX8_readsNumbers) := goodIn_app (goodIn_of _ (by decide +kernel)) ggX8_readsFriends_X8_readsNumbers
set_option maxRecDepth 20000 in
theorem ggX8_readsFriends_X8_in : GoodIn wsX8_readsFriends wsX8_in := goodIn_r _ [21] (by decide +kernel) (by decide +kernel)
set_option maxRecDepth 20000 in
theorem gX8_readsFriends_X8_in : GoodIn wsX8_readsFriends (va_wsS RX8 63 yX8_in wsX8_in) := goodIn_app (goodIn_of _ (by decide +kernel)) ggX8_readsFriends_X8_in
theorem dX8_readsFriends_0 : decode cX8_readsFriends 0 = .ok (.aload_n 0, 1) := by decide +kernel
theorem dX8_readsFriends_1 : decode cX8_readsFriends 1 = .ok (.iconst 1, 1) := by decide +kernel
theorem dX8_readsFriends_2 : decode cX8_readsFriends 2 = .ok (.invokevirtual 84, 3) := by decide +kernel
theorem dX8_readsFriends_5 : decode cX8_readsFriends 5 = .ok (.ifCond .eq 24, 3) := by decide +kernel
theorem dX8_readsFriends_8 : decode cX8_readsFriends 8 = .ok (.aload_n 0, 1) := by decide +kernel
theorem dX8_readsFriends_9 : decode cX8_readsFriends 9 = .ok (.getfield 19, 3) := by decide +kernel
theorem dX8_readsFriends_12 : decode cX8_readsFriends 12 = .ok (.iconst 0, 1) := by decide +kernel
theorem dX8_readsFriends_13 : decode cX8_readsFriends 13 = .ok (.iaload, 1) := by decide +kernel
theorem dX8_readsFriends_14 : decode cX8_readsFriends 14 = .ok (.i2l, 1) := by decide +kernel
theorem dX8_readsFriends_15 : decode cX8_readsFriends 15 = .ok (.lconst 1, 1) := by decide +kernel
theorem dX8_readsFriends_16 : decode cX8_readsFriends 16 = .ok (.ldc2_w 89, 3) := by decide +kernel
theorem dX8_readsFriends_19 : decode cX8_readsFriends 19 = .ok (.invokestatic 63, 3) := by decide +kernel
theorem dX8_readsFriends_22 : decode cX8_readsFriends 22 = .ok (.ifCond .eq 7, 3) := by decide +kernel
theorem dX8_readsFriends_25 : decode cX8_readsFriends 25 = .ok (.iconst 1, 1) := by decide +kernel
theorem dX8_readsFriends_26 : decode cX8_readsFriends 26 = .ok (.goto 4, 3) := by decide +kernel
theorem dX8_readsFriends_29 : decode cX8_readsFriends 29 = .ok (.iconst 0, 1) := by decide +kernel
theorem dX8_readsFriends_30 : decode cX8_readsFriends 30 = .ok (.istore_n 1, 1) := by decide +kernel
theorem dX8_readsFriends_31 : decode cX8_readsFriends 31 = .ok (.aload_n 0, 1) := by decide +kernel
theorem dX8_readsFriends_32 : decode cX8_readsFriends 32 = .ok (.getfield 16, 3) := by decide +kernel
theorem dX8_readsFriends_35 : decode cX8_readsFriends 35 = .ok (.iconst 1, 1) := by decide +kernel
theorem dX8_readsFriends_36 : decode cX8_readsFriends 36 = .ok (.iload_n 1, 1) := by decide +kernel
theorem dX8_readsFriends_37 : decode cX8_readsFriends 37 = .ok (.ifCond .eq 12, 3) := by decide +kernel
theorem dX8_readsFriends_40 : decode cX8_readsFriends 40 = .ok (.aload_n 0, 1) := by decide +kernel
theorem dX8_readsFriends_41 : decode cX8_readsFriends 41 = .ok (.getfield 19, 3) := by decide +kernel
theorem dX8_readsFriends_44 : decode cX8_readsFriends 44 = .ok (.iconst 0, 1) := by decide +kernel
theorem dX8_readsFriends_45 : decode cX8_readsFriends 45 = .ok (.iaload, 1) := by decide +kernel
theorem dX8_readsFriends_46 : decode cX8_readsFriends 46 = .ok (.goto 9, 3) := by decide +kernel
theorem dX8_readsFriends_49 : decode cX8_readsFriends 49 = .ok (.aload_n 0, 1) := by decide +kernel
theorem dX8_readsFriends_50 : decode cX8_readsFriends 50 = .ok (.getfield 16, 3) := by decide +kernel
theorem dX8_readsFriends_53 : decode cX8_readsFriends 53 = .ok (.iconst 1, 1) := by decide +kernel
theorem dX8_readsFriends_54 : decode cX8_readsFriends 54 = .ok (.iaload, 1) := by decide +kernel
theorem dX8_readsFriends_55 : decode cX8_readsFriends 55 = .ok (.iastore, 1) := by decide +kernel
theorem dX8_readsFriends_56 : decode cX8_readsFriends 56 = .ok (.iload_n 1, 1) := by decide +kernel
theorem dX8_readsFriends_57 : decode cX8_readsFriends 57 = .ok (.ireturn, 1) := by decide +kernel
set_option maxRecDepth 20000 in
theorem ggX8_readsTie_X8_readsNumbers : GoodIn wsX8_readsTie wsX8_readsNumbers := goodIn_r _ [7, 8, 9, 1, 10, 11, 12, 13, 14, 6, 15, 16, 17, 18, 19, 20, 24, 25, 26, 27, 28, 29, 30, 31, 32, 33, 34, 35, 36, 37, 38, 39, 40, 41, 42, 43, 44, 45] (by decide +kernel) (by decide +kernel)
set_option maxRecDepth 20000 in
theorem gX8_readsTie_X8_readsNumbers : GoodIn wsX8_readsTie (wsV RX8 84 RX8 yX8_readsNumbers wsX8_readsNumbers) := goodIn_app (goodIn_of _ (by decide +kernel)) ggX8_readsTie_X8_readsNumbers
set_option maxRecDepth 20000 in
theorem ggX8_readsTie_X8_ties : GoodIn wsX8_readsTie wsX8_ties := goodIn_r _ [23] (by decide +kernel) (by decide +kernel)
set_option maxRecDepth 20000 in
theorem gX8_readsTie_X8_ties : GoodIn wsX8_readsTie (va_wsS RX8 55 yX8_ties wsX8_ties) := goodIn_app (goodIn_of _ (by decide +kernel)) ggX8_readsTie_X8_ties
theorem dX8_readsTie_0 : decode cX8_readsTie 0 = .ok (.aload_n 0, 1) := by decide +kernel
theorem dX8_readsTie_1 : decode cX8_readsTie 1 = .ok (.iconst 3, 1) := by decide +kernel
theorem dX8_readsTie_2 : decode cX8_readsTie 2 = .ok (.invokevirtual 84, 3) := by decide +kernel
theorem dX8_readsTie_5 : decode cX8_readsTie 5 = .ok (.ifCond .eq 55, 3) := by decide +kernel
theorem dX8_readsTie_8 : decode cX8_readsTie 8 = .ok (.aload_n 0, 1) := by decide +kernel
theorem dX8_readsTie_9 : decode cX8_readsTie 9 = .ok (.getfield 19, 3) := by decide +kernel
theorem dX8_readsTie_12 : decode cX8_readsTie 12 = .ok (.iconst 0, 1) := by decide +kernel
theorem dX8_readsTie_13 : decode cX8_readsTie 13 = .ok (.iaload, 1) := by decide +kernel
theorem dX8_readsTie_14 : decode cX8_readsTie 14 = .ok (.bipush 6, 2) := by decide +kernel
theorem dX8_readsTie_16 : decode cX8_readsTie 16 = .ok (.if_icmp .ge 44, 3) := by decide +kernel
theorem dX8_readsTie_19 : decode cX8_readsTie 19 = .ok (.aload_n 0, 1) := by decide +kernel
theorem dX8_readsTie_20 : decode cX8_readsTie 20 = .ok (.getfield 19, 3) := by decide +kernel
theorem dX8_readsTie_23 : decode cX8_readsTie 23 = .ok (.iconst 1, 1) := by decide +kernel
theorem dX8_readsTie_24 : decode cX8_readsTie 24 = .ok (.iaload, 1) := by decide +kernel
theorem dX8_readsTie_25 : decode cX8_readsTie 25 = .ok (.bipush 6, 2) := by decide +kernel
theorem dX8_readsTie_27 : decode cX8_readsTie 27 = .ok (.if_icmp .ge 33, 3) := by decide +kernel
theorem dX8_readsTie_30 : decode cX8_readsTie 30 = .ok (.aload_n 0, 1) := by decide +kernel
theorem dX8_readsTie_31 : decode cX8_readsTie 31 = .ok (.getfield 19, 3) := by decide +kernel
theorem dX8_readsTie_34 : decode cX8_readsTie 34 = .ok (.iconst 0, 1) := by decide +kernel
theorem dX8_readsTie_35 : decode cX8_readsTie 35 = .ok (.iaload, 1) := by decide +kernel
theorem dX8_readsTie_36 : decode cX8_readsTie 36 = .ok (.aload_n 0, 1) := by decide +kernel
theorem dX8_readsTie_37 : decode cX8_readsTie 37 = .ok (.getfield 19, 3) := by decide +kernel
theorem dX8_readsTie_40 : decode cX8_readsTie 40 = .ok (.iconst 1, 1) := by decide +kernel
theorem dX8_readsTie_41 : decode cX8_readsTie 41 = .ok (.iaload, 1) := by decide +kernel
theorem dX8_readsTie_42 : decode cX8_readsTie 42 = .ok (.if_icmp .eq 18, 3) := by decide +kernel
theorem dX8_readsTie_45 : decode cX8_readsTie 45 = .ok (.aload_n 0, 1) := by decide +kernel
theorem dX8_readsTie_46 : decode cX8_readsTie 46 = .ok (.getfield 19, 3) := by decide +kernel
theorem dX8_readsTie_49 : decode cX8_readsTie 49 = .ok (.iconst 2, 1) := by decide +kernel
theorem dX8_readsTie_50 : decode cX8_readsTie 50 = .ok (.iaload, 1) := by decide +kernel
theorem dX8_readsTie_51 : decode cX8_readsTie 51 = .ok (.bipush 10, 2) := by decide +kernel
theorem dX8_readsTie_53 : decode cX8_readsTie 53 = .ok (.if_icmp .ge 7, 3) := by decide +kernel
theorem dX8_readsTie_56 : decode cX8_readsTie 56 = .ok (.iconst 1, 1) := by decide +kernel
theorem dX8_readsTie_57 : decode cX8_readsTie 57 = .ok (.goto 4, 3) := by decide +kernel
theorem dX8_readsTie_60 : decode cX8_readsTie 60 = .ok (.iconst 0, 1) := by decide +kernel
theorem dX8_readsTie_61 : decode cX8_readsTie 61 = .ok (.istore_n 1, 1) := by decide +kernel
theorem dX8_readsTie_62 : decode cX8_readsTie 62 = .ok (.iload_n 1, 1) := by decide +kernel
theorem dX8_readsTie_63 : decode cX8_readsTie 63 = .ok (.ifCond .eq 28, 3) := by decide +kernel
theorem dX8_readsTie_66 : decode cX8_readsTie 66 = .ok (.aload_n 0, 1) := by decide +kernel
theorem dX8_readsTie_67 : decode cX8_readsTie 67 = .ok (.getfield 16, 3) := by decide +kernel
theorem dX8_readsTie_70 : decode cX8_readsTie 70 = .ok (.aload_n 0, 1) := by decide +kernel
theorem dX8_readsTie_71 : decode cX8_readsTie 71 = .ok (.getfield 19, 3) := by decide +kernel
theorem dX8_readsTie_74 : decode cX8_readsTie 74 = .ok (.iconst 0, 1) := by decide +kernel
theorem dX8_readsTie_75 : decode cX8_readsTie 75 = .ok (.iaload, 1) := by decide +kernel
theorem dX8_readsTie_76 : decode cX8_readsTie 76 = .ok (.aload_n 0, 1) := by decide +kernel
theorem dX8_readsTie_77 : decode cX8_readsTie 77 = .ok (.getfield 19, 3) := by decide +kernel
theorem dX8_readsTie_80 : decode cX8_readsTie 80 = .ok (.iconst 1, 1) := by decide +kernel
theorem dX8_readsTie_81 : decode cX8_readsTie 81 = .ok (.iaload, 1) := by decide +kernel
theorem dX8_readsTie_82 : decode cX8_readsTie 82 = .ok (.aload_n 0, 1) := by decide +kernel
theorem dX8_readsTie_83 : decode cX8_readsTie 83 = .ok (.getfield 19, 3) := by decide +kernel
theorem dX8_readsTie_86 : decode cX8_readsTie 86 = .ok (.iconst 2, 1) := by decide +kernel
theorem dX8_readsTie_87 : decode cX8_readsTie 87 = .ok (.iaload, 1) := by decide +kernel
theorem dX8_readsTie_88 : decode cX8_readsTie 88 = .ok (.invokestatic 55, 3) := by decide +kernel
theorem dX8_readsTie_91 : decode cX8_readsTie 91 = .ok (.iload_n 1, 1) := by decide +kernel
theorem dX8_readsTie_92 : decode cX8_readsTie 92 = .ok (.ireturn, 1) := by decide +kernel
set_option maxRecDepth 20000 in
theorem ggX8_faults_X8_plain : GoodIn wsX8_faults wsX8_plain := goodIn_r _ [8] (by decide +kernel) (by decide +kernel)
set_option maxRecDepth 20000 in
theorem gX8_faults_X8_plain : GoodIn wsX8_faults (va_wsS RX8 47 yX8_plain wsX8_plain) := goodIn_app (goodIn_of _ (by decide +kernel)) ggX8_faults_X8_plain
set_option maxRecDepth 20000 in
theorem ggX8_faults_X8_readsStretch : GoodIn wsX8_faults wsX8_readsStretch := goodIn_r _ [12, 1, 13, 14, 15, 16, 17, 7, 18, 2, 4, 19, 3, 20, 21, 22, 23, 24, 25, 26, 27, 28, 49, 50, 51, 52, 53, 54, 55, 56, 57, 58, 59, 60, 61, 62, 63, 64, 65, 66, 67, 68, 69, 70] (by decide +kernel) (by decide +kernel)
set_option maxRecDepth 20000 in
theorem gX8_faults_X8_readsStretch : GoodIn wsX8_faults (wsV RX8 91 RX8 yX8_readsStretch wsX8_readsStretch) := goodIn_app (goodIn_of _ (by decide +kernel)) ggX8_faults_X8_readsStretch
set_option maxRecDepth 20000 in
theorem ggX8_faults_X8_readsSort : GoodIn wsX8_faults wsX8_readsSort := goodIn_r _ [32, 13, 1, 15, 16, 17, 7, 18, 2, 4, 19, 3, 20, 21, 22, 23, 24, 25, 26, 27, 28, 49, 50, 51, 52, 53, 54, 55, 56, 57, 58, 59, 60, 61, 62, 63, 64, 65, 66, 67, 68, 69, 70] (by decide +kernel) (by decide +kernel)
set_option maxRecDepth 20000 in
theorem gX8_faults_X8_readsSort : GoodIn wsX8_faults (wsV RX8 95 RX8 yX8_readsSort wsX8_readsSort) := goodIn_app (goodIn_of _ (by decide +kernel)) ggX8_faults_X8_readsSort
set_option maxRecDepth 20000 in
theorem ggX8_faults_X8_readsCost : GoodIn wsX8_faults wsX8_readsCost := goodIn_r _ [36, 13, 1, 15, 16, 17, 7, 18, 2, 4, 19, 3, 20, 21, 22, 23, 24, 25, 26, 27, 28, 49, 50, 51, 52, 53, 54, 55, 56, 57, 58, 59, 60, 61, 62, 63, 64, 65, 66, 67, 68, 69, 70] (by decide +kernel) (by decide +kernel)
set_option maxRecDepth 20000 in
theorem gX8_faults_X8_readsCost : GoodIn wsX8_faults (wsV RX8 98 RX8 yX8_readsCost wsX8_readsCost) := goodIn_app (goodIn_of _ (by decide +kernel)) ggX8_faults_X8_readsCost
set_option maxRecDepth 20000 in
theorem ggX8_faults_X8_readsFriends : GoodIn wsX8_faults wsX8_readsFriends := goodIn_r _ [40, 13, 41, 1, 15, 16, 17, 7, 18, 2, 4, 19, 3, 20, 21, 22, 23, 24, 25, 26, 27, 28, 49, 50, 51, 52, 53, 54, 55, 56, 57, 58, 59, 60, 61, 62, 63, 64, 65, 66, 67, 68, 69, 70] (by decide +kernel) (by decide +kernel)
set_option maxRecDepth 20000 in
theorem gX8_faults_X8_readsFriends : GoodIn wsX8_faults (wsV RX8 101 RX8 yX8_readsFriends wsX8_readsFriends) := goodIn_app (goodIn_of _ (by decide +kernel)) ggX8_faults_X8_readsFriends
set_option maxRecDepth 20000 in
theorem ggX8_faults_X8_readsTie : GoodIn wsX8_faults wsX8_readsTie := goodIn_r _ [45, 13, 1, 15, 16, 17, 7, 18, 2, 4, 19, 3, 20, 21, 22, 23, 24, 25, 26, 27, 28, 46, 47, 48, 49, 50, 51, 52, 53, 54, 55, 56, 57, 58, 59, 60, 61, 62, 63, 64, 65, 66, 67, 68, 69, 70] (by decide +kernel) (by decide +kernel)
set_option maxRecDepth 20000 in
theorem gX8_faults_X8_readsTie : GoodIn wsX8_faults (wsV RX8 104 RX8 yX8_readsTie wsX8_readsTie) := goodIn_app (goodIn_of _ (by decide +kernel)) ggX8_faults_X8_readsTie
theorem dX8_faults_0 : decode cX8_faults 0 = .ok (.aload_n 0, 1) := by decide +kernel
theorem dX8_faults_1 : decode cX8_faults 1 = .ok (.getfield 16, 3) := by decide +kernel
theorem dX8_faults_4 : decode cX8_faults 4 = .ok (.invokestatic 47, 3) := by decide +kernel
theorem dX8_faults_7 : decode cX8_faults 7 = .ok (.aload_n 0, 1) := by decide +kernel
theorem dX8_faults_8 : decode cX8_faults 8 = .ok (.iconst 0, 1) := by decide +kernel
theorem dX8_faults_9 : decode cX8_faults 9 = .ok (.putfield 75, 3) := by decide +kernel
theorem dX8_faults_12 : decode cX8_faults 12 = .ok (.aload_n 0, 1) := by decide +kernel
theorem dX8_faults_13 : decode cX8_faults 13 = .ok (.getfield 75, 3) := by decide +kernel
theorem dX8_faults_16 : decode cX8_faults 16 = .ok (.aload_n 0, 1) := by decide +kernel
theorem dX8_faults_17 : decode cX8_faults 17 = .ok (.getfield 67, 3) := by decide +kernel
theorem dX8_faults_20 : decode cX8_faults 20 = .ok (.if_icmp .ge 108, 3) := by decide +kernel
theorem dX8_faults_23 : decode cX8_faults 23 = .ok (.aload_n 0, 1) := by decide +kernel
theorem dX8_faults_24 : decode cX8_faults 24 = .ok (.getfield 75, 3) := by decide +kernel
theorem dX8_faults_27 : decode cX8_faults 27 = .ok (.istore_n 1, 1) := by decide +kernel
theorem dX8_faults_28 : decode cX8_faults 28 = .ok (.aload_n 0, 1) := by decide +kernel
theorem dX8_faults_29 : decode cX8_faults 29 = .ok (.getfield 13, 3) := by decide +kernel
theorem dX8_faults_32 : decode cX8_faults 32 = .ok (.aload_n 0, 1) := by decide +kernel
theorem dX8_faults_33 : decode cX8_faults 33 = .ok (.getfield 75, 3) := by decide +kernel
theorem dX8_faults_36 : decode cX8_faults 36 = .ok (.iaload, 1) := by decide +kernel
theorem dX8_faults_37 : decode cX8_faults 37 = .ok (.istore_n 2, 1) := by decide +kernel
theorem dX8_faults_38 : decode cX8_faults 38 = .ok (.aload_n 0, 1) := by decide +kernel
theorem dX8_faults_39 : decode cX8_faults 39 = .ok (.dup, 1) := by decide +kernel
theorem dX8_faults_40 : decode cX8_faults 40 = .ok (.getfield 75, 3) := by decide +kernel
theorem dX8_faults_43 : decode cX8_faults 43 = .ok (.iconst 1, 1) := by decide +kernel
theorem dX8_faults_44 : decode cX8_faults 44 = .ok (.iadd, 1) := by decide +kernel
theorem dX8_faults_45 : decode cX8_faults 45 = .ok (.putfield 75, 3) := by decide +kernel
theorem dX8_faults_48 : decode cX8_faults 48 = .ok (.iload_n 2, 1) := by decide +kernel
theorem dX8_faults_49 : decode cX8_faults 49 = .ok (.bipush 115, 2) := by decide +kernel
theorem dX8_faults_51 : decode cX8_faults 51 = .ok (.if_icmp .ne 10, 3) := by decide +kernel
theorem dX8_faults_54 : decode cX8_faults 54 = .ok (.aload_n 0, 1) := by decide +kernel
theorem dX8_faults_55 : decode cX8_faults 55 = .ok (.invokevirtual 91, 3) := by decide +kernel
theorem dX8_faults_58 : decode cX8_faults 58 = .ok (.goto 60, 3) := by decide +kernel
theorem dX8_faults_61 : decode cX8_faults 61 = .ok (.iload_n 2, 1) := by decide +kernel
theorem dX8_faults_62 : decode cX8_faults 62 = .ok (.bipush 117, 2) := by decide +kernel
theorem dX8_faults_64 : decode cX8_faults 64 = .ok (.if_icmp .ne 10, 3) := by decide +kernel
theorem dX8_faults_67 : decode cX8_faults 67 = .ok (.aload_n 0, 1) := by decide +kernel
theorem dX8_faults_68 : decode cX8_faults 68 = .ok (.invokevirtual 95, 3) := by decide +kernel
theorem dX8_faults_71 : decode cX8_faults 71 = .ok (.goto 47, 3) := by decide +kernel
theorem dX8_faults_74 : decode cX8_faults 74 = .ok (.iload_n 2, 1) := by decide +kernel
theorem dX8_faults_75 : decode cX8_faults 75 = .ok (.bipush 104, 2) := by decide +kernel
theorem dX8_faults_77 : decode cX8_faults 77 = .ok (.if_icmp .ne 10, 3) := by decide +kernel
theorem dX8_faults_80 : decode cX8_faults 80 = .ok (.aload_n 0, 1) := by decide +kernel
theorem dX8_faults_81 : decode cX8_faults 81 = .ok (.invokevirtual 98, 3) := by decide +kernel
theorem dX8_faults_84 : decode cX8_faults 84 = .ok (.goto 34, 3) := by decide +kernel
theorem dX8_faults_87 : decode cX8_faults 87 = .ok (.iload_n 2, 1) := by decide +kernel
theorem dX8_faults_88 : decode cX8_faults 88 = .ok (.bipush 107, 2) := by decide +kernel
theorem dX8_faults_90 : decode cX8_faults 90 = .ok (.if_icmp .ne 10, 3) := by decide +kernel
theorem dX8_faults_93 : decode cX8_faults 93 = .ok (.aload_n 0, 1) := by decide +kernel
theorem dX8_faults_94 : decode cX8_faults 94 = .ok (.invokevirtual 101, 3) := by decide +kernel
theorem dX8_faults_97 : decode cX8_faults 97 = .ok (.goto 21, 3) := by decide +kernel
theorem dX8_faults_100 : decode cX8_faults 100 = .ok (.iload_n 2, 1) := by decide +kernel
theorem dX8_faults_101 : decode cX8_faults 101 = .ok (.bipush 116, 2) := by decide +kernel
theorem dX8_faults_103 : decode cX8_faults 103 = .ok (.if_icmp .ne 14, 3) := by decide +kernel
theorem dX8_faults_106 : decode cX8_faults 106 = .ok (.aload_n 0, 1) := by decide +kernel
theorem dX8_faults_107 : decode cX8_faults 107 = .ok (.invokevirtual 104, 3) := by decide +kernel
theorem dX8_faults_110 : decode cX8_faults 110 = .ok (.ifCond .eq 7, 3) := by decide +kernel
theorem dX8_faults_113 : decode cX8_faults 113 = .ok (.iconst 1, 1) := by decide +kernel
theorem dX8_faults_114 : decode cX8_faults 114 = .ok (.goto 4, 3) := by decide +kernel
theorem dX8_faults_117 : decode cX8_faults 117 = .ok (.iconst 0, 1) := by decide +kernel
theorem dX8_faults_118 : decode cX8_faults 118 = .ok (.istore_n 3, 1) := by decide +kernel
theorem dX8_faults_119 : decode cX8_faults 119 = .ok (.iload_n 3, 1) := by decide +kernel
theorem dX8_faults_120 : decode cX8_faults 120 = .ok (.ifCond .ne 5, 3) := by decide +kernel
theorem dX8_faults_123 : decode cX8_faults 123 = .ok (.iload_n 1, 1) := by decide +kernel
theorem dX8_faults_124 : decode cX8_faults 124 = .ok (.ireturn, 1) := by decide +kernel
theorem dX8_faults_125 : decode cX8_faults 125 = .ok (.goto (-113), 3) := by decide +kernel
theorem dX8_faults_128 : decode cX8_faults 128 = .ok (.bipush (-4), 2) := by decide +kernel
theorem dX8_faults_130 : decode cX8_faults 130 = .ok (.ireturn, 1) := by decide +kernel
set_option maxRecDepth 20000 in
theorem ggX8_fault_X8_faults : GoodIn wsX8_fault wsX8_faults := goodIn_r _ [5, 6, 7, 8, 9, 10, 11, 4, 12, 13, 14, 15, 16, 17, 18, 19, 20, 21, 22, 23, 24, 25, 26, 27, 28, 29, 30, 31, 32, 33, 34, 35, 36, 37, 38, 39, 40, 41, 42, 43, 44, 45, 46, 47, 48, 49, 50, 51, 52, 53, 54, 55, 56, 57, 58, 59, 60, 61, 62, 63, 64, 65, 66, 67, 68, 69, 70, 71, 72, 73, 74] (by decide +kernel) (by decide +kernel)
set_option maxRecDepth 20000 in
theorem gX8_fault_X8_faults : GoodIn wsX8_fault (wsV RX8 107 RX8 yX8_faults wsX8_faults) := goodIn_app (goodIn_of _ (by decide +kernel)) ggX8_fault_X8_faults
theorem dX8_fault_0 : decode cX8_fault 0 = .ok (.aload_n 0, 1) := by decide +kernel
theorem dX8_fault_1 : decode cX8_fault 1 = .ok (.invokevirtual 107, 3) := by decide +kernel
theorem dX8_fault_4 : decode cX8_fault 4 = .ok (.ireturn, 1) := by decide +kernel
set_option maxRecDepth 20000 in
theorem ggX8_lay_X8_faults : GoodIn wsX8_lay wsX8_faults := goodIn_r _ [11, 1, 12, 13, 14, 15, 16, 10, 17, 18, 19, 20, 21, 22, 23, 24, 25, 26, 27, 28, 29, 30, 31, 32, 33, 34, 35, 36, 37, 38, 39, 40, 41, 42, 43, 44, 45, 46, 47, 48, 49, 50, 51, 52, 53, 54, 55, 56, 57, 58, 59, 60, 61, 62, 63, 64, 65, 66, 67, 68, 69, 70, 71, 72, 73, 74, 75, 76, 77, 78, 79] (by decide +kernel) (by decide +kernel)
set_option maxRecDepth 20000 in
theorem gX8_lay_X8_faults : GoodIn wsX8_lay (wsV RX8 107 RX8 yX8_faults wsX8_faults) := goodIn_app (goodIn_of _ (by decide +kernel)) ggX8_lay_X8_faults
theorem dX8_lay_0 : decode cX8_lay 0 = .ok (.aload_n 0, 1) := by decide +kernel
theorem dX8_lay_1 : decode cX8_lay 1 = .ok (.invokevirtual 107, 3) := by decide +kernel
theorem dX8_lay_4 : decode cX8_lay 4 = .ok (.bipush (-4), 2) := by decide +kernel
theorem dX8_lay_6 : decode cX8_lay 6 = .ok (.if_icmp .ne 16, 3) := by decide +kernel
theorem dX8_lay_9 : decode cX8_lay 9 = .ok (.aload_n 0, 1) := by decide +kernel
theorem dX8_lay_10 : decode cX8_lay 10 = .ok (.getfield 16, 3) := by decide +kernel
theorem dX8_lay_13 : decode cX8_lay 13 = .ok (.iconst 0, 1) := by decide +kernel
theorem dX8_lay_14 : decode cX8_lay 14 = .ok (.iaload, 1) := by decide +kernel
theorem dX8_lay_15 : decode cX8_lay 15 = .ok (.ifCond .le 7, 3) := by decide +kernel
theorem dX8_lay_18 : decode cX8_lay 18 = .ok (.iconst 1, 1) := by decide +kernel
theorem dX8_lay_19 : decode cX8_lay 19 = .ok (.goto 4, 3) := by decide +kernel
theorem dX8_lay_22 : decode cX8_lay 22 = .ok (.iconst 0, 1) := by decide +kernel
theorem dX8_lay_23 : decode cX8_lay 23 = .ok (.istore_n 1, 1) := by decide +kernel
theorem dX8_lay_24 : decode cX8_lay 24 = .ok (.iconst 0, 1) := by decide +kernel
theorem dX8_lay_25 : decode cX8_lay 25 = .ok (.istore_n 2, 1) := by decide +kernel
theorem dX8_lay_26 : decode cX8_lay 26 = .ok (.iload_n 2, 1) := by decide +kernel
theorem dX8_lay_27 : decode cX8_lay 27 = .ok (.bipush 6, 2) := by decide +kernel
theorem dX8_lay_29 : decode cX8_lay 29 = .ok (.if_icmp .ge 70, 3) := by decide +kernel
theorem dX8_lay_32 : decode cX8_lay 32 = .ok (.iconst 0, 1) := by decide +kernel
theorem dX8_lay_33 : decode cX8_lay 33 = .ok (.istore_n 3, 1) := by decide +kernel
theorem dX8_lay_34 : decode cX8_lay 34 = .ok (.iload_n 3, 1) := by decide +kernel
theorem dX8_lay_35 : decode cX8_lay 35 = .ok (.bipush 6, 2) := by decide +kernel
theorem dX8_lay_37 : decode cX8_lay 37 = .ok (.if_icmp .ge 56, 3) := by decide +kernel
theorem dX8_lay_40 : decode cX8_lay 40 = .ok (.iload_n 1, 1) := by decide +kernel
theorem dX8_lay_41 : decode cX8_lay 41 = .ok (.ifCond .eq 44, 3) := by decide +kernel
theorem dX8_lay_44 : decode cX8_lay 44 = .ok (.aload_n 0, 1) := by decide +kernel
theorem dX8_lay_45 : decode cX8_lay 45 = .ok (.getfield 16, 3) := by decide +kernel
theorem dX8_lay_48 : decode cX8_lay 48 = .ok (.bipush 37, 2) := by decide +kernel
theorem dX8_lay_50 : decode cX8_lay 50 = .ok (.bipush 6, 2) := by decide +kernel
theorem dX8_lay_52 : decode cX8_lay 52 = .ok (.iload_n 2, 1) := by decide +kernel
theorem dX8_lay_53 : decode cX8_lay 53 = .ok (.imul, 1) := by decide +kernel
theorem dX8_lay_54 : decode cX8_lay 54 = .ok (.iadd, 1) := by decide +kernel
theorem dX8_lay_55 : decode cX8_lay 55 = .ok (.iload_n 3, 1) := by decide +kernel
theorem dX8_lay_56 : decode cX8_lay 56 = .ok (.iadd, 1) := by decide +kernel
theorem dX8_lay_57 : decode cX8_lay 57 = .ok (.iaload, 1) := by decide +kernel
theorem dX8_lay_58 : decode cX8_lay 58 = .ok (.ifCond .eq 23, 3) := by decide +kernel
theorem dX8_lay_61 : decode cX8_lay 61 = .ok (.iload_n 2, 1) := by decide +kernel
theorem dX8_lay_62 : decode cX8_lay 62 = .ok (.aload_n 0, 1) := by decide +kernel
theorem dX8_lay_63 : decode cX8_lay 63 = .ok (.getfield 16, 3) := by decide +kernel
theorem dX8_lay_66 : decode cX8_lay 66 = .ok (.iconst 1, 1) := by decide +kernel
theorem dX8_lay_67 : decode cX8_lay 67 = .ok (.iaload, 1) := by decide +kernel
theorem dX8_lay_68 : decode cX8_lay 68 = .ok (.if_icmp .ge 17, 3) := by decide +kernel
theorem dX8_lay_71 : decode cX8_lay 71 = .ok (.iload_n 3, 1) := by decide +kernel
theorem dX8_lay_72 : decode cX8_lay 72 = .ok (.aload_n 0, 1) := by decide +kernel
theorem dX8_lay_73 : decode cX8_lay 73 = .ok (.getfield 16, 3) := by decide +kernel
theorem dX8_lay_76 : decode cX8_lay 76 = .ok (.iconst 1, 1) := by decide +kernel
theorem dX8_lay_77 : decode cX8_lay 77 = .ok (.iaload, 1) := by decide +kernel
theorem dX8_lay_78 : decode cX8_lay 78 = .ok (.if_icmp .ge 7, 3) := by decide +kernel
theorem dX8_lay_81 : decode cX8_lay 81 = .ok (.iconst 1, 1) := by decide +kernel
theorem dX8_lay_82 : decode cX8_lay 82 = .ok (.goto 4, 3) := by decide +kernel
theorem dX8_lay_85 : decode cX8_lay 85 = .ok (.iconst 0, 1) := by decide +kernel
theorem dX8_lay_86 : decode cX8_lay 86 = .ok (.istore_n 1, 1) := by decide +kernel
theorem dX8_lay_87 : decode cX8_lay 87 = .ok (.iinc 3 1, 3) := by decide +kernel
theorem dX8_lay_90 : decode cX8_lay 90 = .ok (.goto (-56), 3) := by decide +kernel
theorem dX8_lay_93 : decode cX8_lay 93 = .ok (.iinc 2 1, 3) := by decide +kernel
theorem dX8_lay_96 : decode cX8_lay 96 = .ok (.goto (-70), 3) := by decide +kernel
theorem dX8_lay_99 : decode cX8_lay 99 = .ok (.iload_n 1, 1) := by decide +kernel
theorem dX8_lay_100 : decode cX8_lay 100 = .ok (.ifCond .ne 6, 3) := by decide +kernel
theorem dX8_lay_103 : decode cX8_lay 103 = .ok (.bipush (-2), 2) := by decide +kernel
theorem dX8_lay_105 : decode cX8_lay 105 = .ok (.ireturn, 1) := by decide +kernel
theorem dX8_lay_106 : decode cX8_lay 106 = .ok (.iconst 0, 1) := by decide +kernel
theorem dX8_lay_107 : decode cX8_lay 107 = .ok (.istore_n 2, 1) := by decide +kernel
theorem dX8_lay_108 : decode cX8_lay 108 = .ok (.iload_n 2, 1) := by decide +kernel
theorem dX8_lay_109 : decode cX8_lay 109 = .ok (.bipush 73, 2) := by decide +kernel
theorem dX8_lay_111 : decode cX8_lay 111 = .ok (.if_icmp .ge 21, 3) := by decide +kernel
theorem dX8_lay_114 : decode cX8_lay 114 = .ok (.aload_n 0, 1) := by decide +kernel
theorem dX8_lay_115 : decode cX8_lay 115 = .ok (.getfield 7, 3) := by decide +kernel
theorem dX8_lay_118 : decode cX8_lay 118 = .ok (.iload_n 2, 1) := by decide +kernel
theorem dX8_lay_119 : decode cX8_lay 119 = .ok (.aload_n 0, 1) := by decide +kernel
theorem dX8_lay_120 : decode cX8_lay 120 = .ok (.getfield 16, 3) := by decide +kernel
theorem dX8_lay_123 : decode cX8_lay 123 = .ok (.iload_n 2, 1) := by decide +kernel
theorem dX8_lay_124 : decode cX8_lay 124 = .ok (.iaload, 1) := by decide +kernel
theorem dX8_lay_125 : decode cX8_lay 125 = .ok (.iastore, 1) := by decide +kernel
theorem dX8_lay_126 : decode cX8_lay 126 = .ok (.iinc 2 1, 3) := by decide +kernel
theorem dX8_lay_129 : decode cX8_lay 129 = .ok (.goto (-21), 3) := by decide +kernel
theorem dX8_lay_132 : decode cX8_lay 132 = .ok (.aload_n 0, 1) := by decide +kernel
theorem dX8_lay_133 : decode cX8_lay 133 = .ok (.iconst 0, 1) := by decide +kernel
theorem dX8_lay_134 : decode cX8_lay 134 = .ok (.putfield 111, 3) := by decide +kernel
theorem dX8_lay_137 : decode cX8_lay 137 = .ok (.aload_n 0, 1) := by decide +kernel
theorem dX8_lay_138 : decode cX8_lay 138 = .ok (.iconst 0, 1) := by decide +kernel
theorem dX8_lay_139 : decode cX8_lay 139 = .ok (.putfield 114, 3) := by decide +kernel
theorem dX8_lay_142 : decode cX8_lay 142 = .ok (.aload_n 0, 1) := by decide +kernel
theorem dX8_lay_143 : decode cX8_lay 143 = .ok (.iconst 0, 1) := by decide +kernel
theorem dX8_lay_144 : decode cX8_lay 144 = .ok (.putfield 117, 3) := by decide +kernel
theorem dX8_lay_147 : decode cX8_lay 147 = .ok (.aload_n 0, 1) := by decide +kernel
theorem dX8_lay_148 : decode cX8_lay 148 = .ok (.iconst 0, 1) := by decide +kernel
theorem dX8_lay_149 : decode cX8_lay 149 = .ok (.putfield 120, 3) := by decide +kernel
theorem dX8_lay_152 : decode cX8_lay 152 = .ok (.aload_n 0, 1) := by decide +kernel
theorem dX8_lay_153 : decode cX8_lay 153 = .ok (.getfield 7, 3) := by decide +kernel
theorem dX8_lay_156 : decode cX8_lay 156 = .ok (.iconst 0, 1) := by decide +kernel
theorem dX8_lay_157 : decode cX8_lay 157 = .ok (.iaload, 1) := by decide +kernel
theorem dX8_lay_158 : decode cX8_lay 158 = .ok (.ireturn, 1) := by decide +kernel
theorem dX8_m_0 : decode cX8_m 0 = .ok (.aload_n 0, 1) := by decide +kernel
theorem dX8_m_1 : decode cX8_m 1 = .ok (.getfield 7, 3) := by decide +kernel
theorem dX8_m_4 : decode cX8_m 4 = .ok (.iconst 2, 1) := by decide +kernel
theorem dX8_m_5 : decode cX8_m 5 = .ok (.iconst 3, 1) := by decide +kernel
theorem dX8_m_6 : decode cX8_m 6 = .ok (.iload_n 1, 1) := by decide +kernel
theorem dX8_m_7 : decode cX8_m 7 = .ok (.imul, 1) := by decide +kernel
theorem dX8_m_8 : decode cX8_m 8 = .ok (.iadd, 1) := by decide +kernel
theorem dX8_m_9 : decode cX8_m 9 = .ok (.iaload, 1) := by decide +kernel
theorem dX8_m_10 : decode cX8_m 10 = .ok (.ireturn, 1) := by decide +kernel
set_option maxRecDepth 20000 in
theorem ggX8_stretch_X8_in : GoodIn wsX8_stretch wsX8_in := goodIn_r _ [6] (by decide +kernel) (by decide +kernel)
set_option maxRecDepth 20000 in
theorem gX8_stretch_X8_in : GoodIn wsX8_stretch (va_wsS RX8 63 yX8_in wsX8_in) := goodIn_app (goodIn_of _ (by decide +kernel)) ggX8_stretch_X8_in
theorem dX8_stretch_0 : decode cX8_stretch 0 = .ok (.iload_n 1, 1) := by decide +kernel
theorem dX8_stretch_1 : decode cX8_stretch 1 = .ok (.i2l, 1) := by decide +kernel
theorem dX8_stretch_2 : decode cX8_stretch 2 = .ok (.lconst 1, 1) := by decide +kernel
theorem dX8_stretch_3 : decode cX8_stretch 3 = .ok (.aload_n 0, 1) := by decide +kernel
theorem dX8_stretch_4 : decode cX8_stretch 4 = .ok (.getfield 7, 3) := by decide +kernel
theorem dX8_stretch_7 : decode cX8_stretch 7 = .ok (.iconst 0, 1) := by decide +kernel
theorem dX8_stretch_8 : decode cX8_stretch 8 = .ok (.iaload, 1) := by decide +kernel
theorem dX8_stretch_9 : decode cX8_stretch 9 = .ok (.i2l, 1) := by decide +kernel
theorem dX8_stretch_10 : decode cX8_stretch 10 = .ok (.invokestatic 63, 3) := by decide +kernel
theorem dX8_stretch_13 : decode cX8_stretch 13 = .ok (.ifCond .eq 30, 3) := by decide +kernel
theorem dX8_stretch_16 : decode cX8_stretch 16 = .ok (.iload_n 2, 1) := by decide +kernel
theorem dX8_stretch_17 : decode cX8_stretch 17 = .ok (.i2l, 1) := by decide +kernel
theorem dX8_stretch_18 : decode cX8_stretch 18 = .ok (.lconst 0, 1) := by decide +kernel
theorem dX8_stretch_19 : decode cX8_stretch 19 = .ok (.ldc2_w 82, 3) := by decide +kernel
theorem dX8_stretch_22 : decode cX8_stretch 22 = .ok (.invokestatic 63, 3) := by decide +kernel
theorem dX8_stretch_25 : decode cX8_stretch 25 = .ok (.ifCond .eq 18, 3) := by decide +kernel
theorem dX8_stretch_28 : decode cX8_stretch 28 = .ok (.aload_n 0, 1) := by decide +kernel
theorem dX8_stretch_29 : decode cX8_stretch 29 = .ok (.getfield 7, 3) := by decide +kernel
theorem dX8_stretch_32 : decode cX8_stretch 32 = .ok (.iconst 2, 1) := by decide +kernel
theorem dX8_stretch_33 : decode cX8_stretch 33 = .ok (.iconst 3, 1) := by decide +kernel
theorem dX8_stretch_34 : decode cX8_stretch 34 = .ok (.iload_n 1, 1) := by decide +kernel
theorem dX8_stretch_35 : decode cX8_stretch 35 = .ok (.imul, 1) := by decide +kernel
theorem dX8_stretch_36 : decode cX8_stretch 36 = .ok (.iadd, 1) := by decide +kernel
theorem dX8_stretch_37 : decode cX8_stretch 37 = .ok (.iload_n 2, 1) := by decide +kernel
theorem dX8_stretch_38 : decode cX8_stretch 38 = .ok (.iadd, 1) := by decide +kernel
theorem dX8_stretch_39 : decode cX8_stretch 39 = .ok (.iaload, 1) := by decide +kernel
theorem dX8_stretch_40 : decode cX8_stretch 40 = .ok (.goto 4, 3) := by decide +kernel
theorem dX8_stretch_43 : decode cX8_stretch 43 = .ok (.iconst (-1), 1) := by decide +kernel
theorem dX8_stretch_44 : decode cX8_stretch 44 = .ok (.ireturn, 1) := by decide +kernel
set_option maxRecDepth 20000 in
theorem ggX8_sort_X8_in : GoodIn wsX8_sort wsX8_in := goodIn_r _ [6] (by decide +kernel) (by decide +kernel)
set_option maxRecDepth 20000 in
theorem gX8_sort_X8_in : GoodIn wsX8_sort (va_wsS RX8 63 yX8_in wsX8_in) := goodIn_app (goodIn_of _ (by decide +kernel)) ggX8_sort_X8_in
theorem dX8_sort_0 : decode cX8_sort 0 = .ok (.iload_n 1, 1) := by decide +kernel
theorem dX8_sort_1 : decode cX8_sort 1 = .ok (.i2l, 1) := by decide +kernel
theorem dX8_sort_2 : decode cX8_sort 2 = .ok (.lconst 0, 1) := by decide +kernel
theorem dX8_sort_3 : decode cX8_sort 3 = .ok (.ldc2_w 123, 3) := by decide +kernel
