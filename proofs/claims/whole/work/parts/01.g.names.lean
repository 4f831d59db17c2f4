theorem dX5_isAlways_12 : decode cX5_isAlways 12 = .ok (.ireturn, 1) := by decide +kernel
set_option maxRecDepth 100000 in
theorem ggX5_reads_X5_isAlways : GoodIn wsX5_reads wsX5_isAlways := goodIn_r _ [4] rfl (by decide +kernel)
set_option maxRecDepth 100000 in
theorem gX5_reads_X5_isAlways : GoodIn wsX5_reads (va_wsS RX5 72 yX5_isAlways wsX5_isAlways) := goodIn_app (goodIn_of _ (by decide +kernel)) ggX5_reads_X5_isAlways
theorem dX5_reads_0 : decode cX5_reads 0 = .ok (.iload_n 1, 1) := by decide +kernel
theorem dX5_reads_1 : decode cX5_reads 1 = .ok (.bipush 8, 2) := by decide +kernel
theorem dX5_reads_3 : decode cX5_reads 3 = .ok (.if_icmp .eq 28, 3) := by decide +kernel
theorem dX5_reads_6 : decode cX5_reads 6 = .ok (.iload_n 1, 1) := by decide +kernel
theorem dX5_reads_7 : decode cX5_reads 7 = .ok (.bipush 15, 2) := by decide +kernel
theorem dX5_reads_9 : decode cX5_reads 9 = .ok (.if_icmp .eq 22, 3) := by decide +kernel
theorem dX5_reads_12 : decode cX5_reads 12 = .ok (.iload_n 1, 1) := by decide +kernel
theorem dX5_reads_13 : decode cX5_reads 13 = .ok (.bipush 16, 2) := by decide +kernel
theorem dX5_reads_15 : decode cX5_reads 15 = .ok (.if_icmp .eq 16, 3) := by decide +kernel
theorem dX5_reads_18 : decode cX5_reads 18 = .ok (.iload_n 1, 1) := by decide +kernel
theorem dX5_reads_19 : decode cX5_reads 19 = .ok (.bipush 23, 2) := by decide +kernel
theorem dX5_reads_21 : decode cX5_reads 21 = .ok (.if_icmp .ne 14, 3) := by decide +kernel
theorem dX5_reads_24 : decode cX5_reads 24 = .ok (.iload_n 2, 1) := by decide +kernel
theorem dX5_reads_25 : decode cX5_reads 25 = .ok (.invokestatic 72, 3) := by decide +kernel
theorem dX5_reads_28 : decode cX5_reads 28 = .ok (.ifCond .ne 7, 3) := by decide +kernel
theorem dX5_reads_31 : decode cX5_reads 31 = .ok (.iconst 1, 1) := by decide +kernel
theorem dX5_reads_32 : decode cX5_reads 32 = .ok (.goto 4, 3) := by decide +kernel
theorem dX5_reads_35 : decode cX5_reads 35 = .ok (.iconst 0, 1) := by decide +kernel
theorem dX5_reads_36 : decode cX5_reads 36 = .ok (.ireturn, 1) := by decide +kernel
theorem dX5_sizeOf_0 : decode cX5_sizeOf 0 = .ok (.iload_n 0, 1) := by decide +kernel
theorem dX5_sizeOf_1 : decode cX5_sizeOf 1 = .ok (.tableswitch 109 7 28 #[103, 105, 103, 103, 109, 109, 103, 109, 105, 105, 109, 105, 105, 103, 107, 107, 109, 105, 103, 109, 109, 107], 103) := by decide +kernel
theorem dX5_sizeOf_104 : decode cX5_sizeOf 104 = .ok (.iconst 2, 1) := by decide +kernel
theorem dX5_sizeOf_105 : decode cX5_sizeOf 105 = .ok (.ireturn, 1) := by decide +kernel
theorem dX5_sizeOf_106 : decode cX5_sizeOf 106 = .ok (.iconst 3, 1) := by decide +kernel
theorem dX5_sizeOf_107 : decode cX5_sizeOf 107 = .ok (.ireturn, 1) := by decide +kernel
theorem dX5_sizeOf_108 : decode cX5_sizeOf 108 = .ok (.iconst 4, 1) := by decide +kernel
theorem dX5_sizeOf_109 : decode cX5_sizeOf 109 = .ok (.ireturn, 1) := by decide +kernel
theorem dX5_sizeOf_110 : decode cX5_sizeOf 110 = .ok (.iconst 1, 1) := by decide +kernel
theorem dX5_sizeOf_111 : decode cX5_sizeOf 111 = .ok (.ireturn, 1) := by decide +kernel
set_option maxRecDepth 100000 in
theorem ggX5_find_X5_look : GoodIn wsX5_find wsX5_look := goodIn_r _ [13, 6, 5, 8, 14, 15, 12, 16, 33, 34, 35, 36, 37, 38, 39, 40, 41, 42, 43, 44, 45, 46, 47, 48, 49, 50, 51, 52, 53, 54, 55, 56, 57, 58, 59] rfl (by decide +kernel)
set_option maxRecDepth 100000 in
theorem gX5_find_X5_look : GoodIn wsX5_find (wsV RX5 88 RX5 yX5_look wsX5_look) := goodIn_app (goodIn_of _ (by decide +kernel)) ggX5_find_X5_look
set_option maxRecDepth 100000 in
theorem ggX5_find_X5_reads : GoodIn wsX5_find wsX5_reads := goodIn_r _ [20, 21, 22, 12, 23] rfl (by decide +kernel)
set_option maxRecDepth 100000 in
theorem gX5_find_X5_reads : GoodIn wsX5_find (wsV RX5 92 RX5 yX5_reads wsX5_reads) := goodIn_app (goodIn_of _ (by decide +kernel)) ggX5_find_X5_reads
set_option maxRecDepth 100000 in
theorem ggX5_find_X5_isAlways : GoodIn wsX5_find wsX5_isAlways := goodIn_r _ [23] rfl (by decide +kernel)
set_option maxRecDepth 100000 in
theorem gX5_find_X5_isAlways : GoodIn wsX5_find (va_wsS RX5 72 yX5_isAlways wsX5_isAlways) := goodIn_app (goodIn_of _ (by decide +kernel)) ggX5_find_X5_isAlways
set_option maxRecDepth 100000 in
theorem ggX5_find_X5_sizeOf : GoodIn wsX5_find wsX5_sizeOf := goodIn_r _ [26] rfl (by decide +kernel)
set_option maxRecDepth 100000 in
theorem gX5_find_X5_sizeOf : GoodIn wsX5_find (va_wsS RX5 96 yX5_sizeOf wsX5_sizeOf) := goodIn_app (goodIn_of _ (by decide +kernel)) ggX5_find_X5_sizeOf
set_option maxRecDepth 100000 in
theorem ggX5_find_X5_makes : GoodIn wsX5_find wsX5_makes := goodIn_r _ [29] rfl (by decide +kernel)
set_option maxRecDepth 100000 in
theorem gX5_find_X5_makes : GoodIn wsX5_find (va_wsS RX5 99 yX5_makes wsX5_makes) := goodIn_app (goodIn_of _ (by decide +kernel)) ggX5_find_X5_makes
set_option maxRecDepth 100000 in
theorem ggX5_find_X5_ends : GoodIn wsX5_find wsX5_ends := goodIn_r _ [32] rfl (by decide +kernel)
set_option maxRecDepth 100000 in
theorem gX5_find_X5_ends : GoodIn wsX5_find (va_wsS RX5 102 yX5_ends wsX5_ends) := goodIn_app (goodIn_of _ (by decide +kernel)) ggX5_find_X5_ends
theorem dX5_find_0 : decode cX5_find 0 = .ok (.aload_n 0, 1) := by decide +kernel
theorem dX5_find_1 : decode cX5_find 1 = .ok (.iconst 0, 1) := by decide +kernel
theorem dX5_find_2 : decode cX5_find 2 = .ok (.putfield 76, 3) := by decide +kernel
theorem dX5_find_5 : decode cX5_find 5 = .ok (.aload_n 0, 1) := by decide +kernel
theorem dX5_find_6 : decode cX5_find 6 = .ok (.iconst 0, 1) := by decide +kernel
theorem dX5_find_7 : decode cX5_find 7 = .ok (.putfield 79, 3) := by decide +kernel
theorem dX5_find_10 : decode cX5_find 10 = .ok (.aload_n 0, 1) := by decide +kernel
theorem dX5_find_11 : decode cX5_find 11 = .ok (.iconst 0, 1) := by decide +kernel
theorem dX5_find_12 : decode cX5_find 12 = .ok (.putfield 82, 3) := by decide +kernel
theorem dX5_find_15 : decode cX5_find 15 = .ok (.aload_n 0, 1) := by decide +kernel
theorem dX5_find_16 : decode cX5_find 16 = .ok (.iconst 0, 1) := by decide +kernel
theorem dX5_find_17 : decode cX5_find 17 = .ok (.putfield 85, 3) := by decide +kernel
theorem dX5_find_20 : decode cX5_find 20 = .ok (.iload_n 1, 1) := by decide +kernel
theorem dX5_find_21 : decode cX5_find 21 = .ok (.istore_n 2, 1) := by decide +kernel
theorem dX5_find_22 : decode cX5_find 22 = .ok (.iconst 1, 1) := by decide +kernel
theorem dX5_find_23 : decode cX5_find 23 = .ok (.istore_n 3, 1) := by decide +kernel
theorem dX5_find_24 : decode cX5_find 24 = .ok (.iconst (-1), 1) := by decide +kernel
theorem dX5_find_25 : decode cX5_find 25 = .ok (.istore 4, 2) := by decide +kernel
theorem dX5_find_27 : decode cX5_find 27 = .ok (.iload_n 3, 1) := by decide +kernel
theorem dX5_find_28 : decode cX5_find 28 = .ok (.ifCond .eq 316, 3) := by decide +kernel
theorem dX5_find_31 : decode cX5_find 31 = .ok (.aload_n 0, 1) := by decide +kernel
theorem dX5_find_32 : decode cX5_find 32 = .ok (.iload_n 2, 1) := by decide +kernel
theorem dX5_find_33 : decode cX5_find 33 = .ok (.invokevirtual 88, 3) := by decide +kernel
theorem dX5_find_36 : decode cX5_find 36 = .ok (.aload_n 0, 1) := by decide +kernel
theorem dX5_find_37 : decode cX5_find 37 = .ok (.getfield 66, 3) := by decide +kernel
theorem dX5_find_40 : decode cX5_find 40 = .ok (.ifCond .ne 6, 3) := by decide +kernel
theorem dX5_find_43 : decode cX5_find 43 = .ok (.goto 301, 3) := by decide +kernel
theorem dX5_find_46 : decode cX5_find 46 = .ok (.aload_n 0, 1) := by decide +kernel
theorem dX5_find_47 : decode cX5_find 47 = .ok (.getfield 7, 3) := by decide +kernel
theorem dX5_find_50 : decode cX5_find 50 = .ok (.iload_n 2, 1) := by decide +kernel
theorem dX5_find_51 : decode cX5_find 51 = .ok (.iaload, 1) := by decide +kernel
theorem dX5_find_52 : decode cX5_find 52 = .ok (.istore 5, 2) := by decide +kernel
theorem dX5_find_54 : decode cX5_find 54 = .ok (.aload_n 0, 1) := by decide +kernel
theorem dX5_find_55 : decode cX5_find 55 = .ok (.getfield 53, 3) := by decide +kernel
theorem dX5_find_58 : decode cX5_find 58 = .ok (.aload_n 0, 1) := by decide +kernel
theorem dX5_find_59 : decode cX5_find 59 = .ok (.getfield 76, 3) := by decide +kernel
theorem dX5_find_62 : decode cX5_find 62 = .ok (.aload_n 0, 1) := by decide +kernel
theorem dX5_find_63 : decode cX5_find 63 = .ok (.getfield 66, 3) := by decide +kernel
theorem dX5_find_66 : decode cX5_find 66 = .ok (.iastore, 1) := by decide +kernel
theorem dX5_find_67 : decode cX5_find 67 = .ok (.aload_n 0, 1) := by decide +kernel
theorem dX5_find_68 : decode cX5_find 68 = .ok (.aload_n 0, 1) := by decide +kernel
theorem dX5_find_69 : decode cX5_find 69 = .ok (.getfield 66, 3) := by decide +kernel
theorem dX5_find_72 : decode cX5_find 72 = .ok (.iload 5, 2) := by decide +kernel
theorem dX5_find_74 : decode cX5_find 74 = .ok (.invokevirtual 92, 3) := by decide +kernel
theorem dX5_find_77 : decode cX5_find 77 = .ok (.ifCond .ne 30, 3) := by decide +kernel
theorem dX5_find_80 : decode cX5_find 80 = .ok (.aload_n 0, 1) := by decide +kernel
theorem dX5_find_81 : decode cX5_find 81 = .ok (.getfield 66, 3) := by decide +kernel
theorem dX5_find_84 : decode cX5_find 84 = .ok (.bipush 22, 2) := by decide +kernel
theorem dX5_find_86 : decode cX5_find 86 = .ok (.if_icmp .eq 21, 3) := by decide +kernel
theorem dX5_find_89 : decode cX5_find 89 = .ok (.aload_n 0, 1) := by decide +kernel
theorem dX5_find_90 : decode cX5_find 90 = .ok (.getfield 66, 3) := by decide +kernel
theorem dX5_find_93 : decode cX5_find 93 = .ok (.bipush 26, 2) := by decide +kernel
theorem dX5_find_95 : decode cX5_find 95 = .ok (.if_icmp .eq 12, 3) := by decide +kernel
theorem dX5_find_98 : decode cX5_find 98 = .ok (.aload_n 0, 1) := by decide +kernel
theorem dX5_find_99 : decode cX5_find 99 = .ok (.getfield 66, 3) := by decide +kernel
theorem dX5_find_102 : decode cX5_find 102 = .ok (.bipush 24, 2) := by decide +kernel
theorem dX5_find_104 : decode cX5_find 104 = .ok (.if_icmp .ne 6, 3) := by decide +kernel
theorem dX5_find_107 : decode cX5_find 107 = .ok (.iconst (-1), 1) := by decide +kernel
theorem dX5_find_108 : decode cX5_find 108 = .ok (.istore 4, 2) := by decide +kernel
theorem dX5_find_110 : decode cX5_find 110 = .ok (.aload_n 0, 1) := by decide +kernel
theorem dX5_find_111 : decode cX5_find 111 = .ok (.aload_n 0, 1) := by decide +kernel
theorem dX5_find_112 : decode cX5_find 112 = .ok (.getfield 79, 3) := by decide +kernel
theorem dX5_find_115 : decode cX5_find 115 = .ok (.aload_n 0, 1) := by decide +kernel
theorem dX5_find_116 : decode cX5_find 116 = .ok (.getfield 66, 3) := by decide +kernel
theorem dX5_find_119 : decode cX5_find 119 = .ok (.bipush 23, 2) := by decide +kernel
theorem dX5_find_121 : decode cX5_find 121 = .ok (.if_icmp .ne 15, 3) := by decide +kernel
theorem dX5_find_124 : decode cX5_find 124 = .ok (.iload 5, 2) := by decide +kernel
theorem dX5_find_126 : decode cX5_find 126 = .ok (.invokestatic 72, 3) := by decide +kernel
theorem dX5_find_129 : decode cX5_find 129 = .ok (.ifCond .ne 7, 3) := by decide +kernel
theorem dX5_find_132 : decode cX5_find 132 = .ok (.iconst 3, 1) := by decide +kernel
theorem dX5_find_133 : decode cX5_find 133 = .ok (.goto 10, 3) := by decide +kernel
theorem dX5_find_136 : decode cX5_find 136 = .ok (.aload_n 0, 1) := by decide +kernel
theorem dX5_find_137 : decode cX5_find 137 = .ok (.getfield 66, 3) := by decide +kernel
theorem dX5_find_140 : decode cX5_find 140 = .ok (.invokestatic 96, 3) := by decide +kernel
theorem dX5_find_143 : decode cX5_find 143 = .ok (.iadd, 1) := by decide +kernel
theorem dX5_find_144 : decode cX5_find 144 = .ok (.putfield 79, 3) := by decide +kernel
theorem dX5_find_147 : decode cX5_find 147 = .ok (.aload_n 0, 1) := by decide +kernel
theorem dX5_find_148 : decode cX5_find 148 = .ok (.getfield 66, 3) := by decide +kernel
theorem dX5_find_151 : decode cX5_find 151 = .ok (.invokestatic 99, 3) := by decide +kernel
theorem dX5_find_154 : decode cX5_find 154 = .ok (.ifCond .eq 101, 3) := by decide +kernel
theorem dX5_find_157 : decode cX5_find 157 = .ok (.iload 4, 2) := by decide +kernel
theorem dX5_find_159 : decode cX5_find 159 = .ok (.ifCond .lt 67, 3) := by decide +kernel
theorem dX5_find_162 : decode cX5_find 162 = .ok (.aload_n 0, 1) := by decide +kernel
theorem dX5_find_163 : decode cX5_find 163 = .ok (.getfield 53, 3) := by decide +kernel
theorem dX5_find_166 : decode cX5_find 166 = .ok (.iload 4, 2) := by decide +kernel
theorem dX5_find_168 : decode cX5_find 168 = .ok (.iaload, 1) := by decide +kernel
theorem dX5_find_169 : decode cX5_find 169 = .ok (.istore 6, 2) := by decide +kernel
theorem dX5_find_171 : decode cX5_find 171 = .ok (.aload_n 0, 1) := by decide +kernel
theorem dX5_find_172 : decode cX5_find 172 = .ok (.dup, 1) := by decide +kernel
theorem dX5_find_173 : decode cX5_find 173 = .ok (.getfield 85, 3) := by decide +kernel
theorem dX5_find_176 : decode cX5_find 176 = .ok (.iconst 1, 1) := by decide +kernel
theorem dX5_find_177 : decode cX5_find 177 = .ok (.iadd, 1) := by decide +kernel
theorem dX5_find_178 : decode cX5_find 178 = .ok (.putfield 85, 3) := by decide +kernel
theorem dX5_find_181 : decode cX5_find 181 = .ok (.aload_n 0, 1) := by decide +kernel
theorem dX5_find_182 : decode cX5_find 182 = .ok (.aload_n 0, 1) := by decide +kernel
theorem dX5_find_183 : decode cX5_find 183 = .ok (.getfield 79, 3) := by decide +kernel
theorem dX5_find_186 : decode cX5_find 186 = .ok (.iload 6, 2) := by decide +kernel
theorem dX5_find_188 : decode cX5_find 188 = .ok (.bipush 16, 2) := by decide +kernel
theorem dX5_find_190 : decode cX5_find 190 = .ok (.if_icmp .ne 7, 3) := by decide +kernel
theorem dX5_find_193 : decode cX5_find 193 = .ok (.iconst 4, 1) := by decide +kernel
theorem dX5_find_194 : decode cX5_find 194 = .ok (.goto 4, 3) := by decide +kernel
theorem dX5_find_197 : decode cX5_find 197 = .ok (.iconst 3, 1) := by decide +kernel
theorem dX5_find_198 : decode cX5_find 198 = .ok (.isub, 1) := by decide +kernel
theorem dX5_find_199 : decode cX5_find 199 = .ok (.iload 6, 2) := by decide +kernel
theorem dX5_find_201 : decode cX5_find 201 = .ok (.bipush 10, 2) := by decide +kernel
theorem dX5_find_203 : decode cX5_find 203 = .ok (.if_icmp .eq 10, 3) := by decide +kernel
theorem dX5_find_206 : decode cX5_find 206 = .ok (.iload 6, 2) := by decide +kernel
theorem dX5_find_208 : decode cX5_find 208 = .ok (.bipush 19, 2) := by decide +kernel
theorem dX5_find_210 : decode cX5_find 210 = .ok (.if_icmp .ne 11, 3) := by decide +kernel
theorem dX5_find_213 : decode cX5_find 213 = .ok (.iload 6, 2) := by decide +kernel
theorem dX5_find_215 : decode cX5_find 215 = .ok (.invokestatic 96, 3) := by decide +kernel
theorem dX5_find_218 : decode cX5_find 218 = .ok (.goto 4, 3) := by decide +kernel
theorem dX5_find_221 : decode cX5_find 221 = .ok (.iconst 0, 1) := by decide +kernel
theorem dX5_find_222 : decode cX5_find 222 = .ok (.isub, 1) := by decide +kernel
theorem dX5_find_223 : decode cX5_find 223 = .ok (.putfield 79, 3) := by decide +kernel
theorem dX5_find_226 : decode cX5_find 226 = .ok (.aload_n 0, 1) := by decide +kernel
theorem dX5_find_227 : decode cX5_find 227 = .ok (.getfield 76, 3) := by decide +kernel
theorem dX5_find_230 : decode cX5_find 230 = .ok (.istore 4, 2) := by decide +kernel
theorem dX5_find_232 : decode cX5_find 232 = .ok (.aload_n 0, 1) := by decide +kernel
theorem dX5_find_233 : decode cX5_find 233 = .ok (.aload_n 0, 1) := by decide +kernel
theorem dX5_find_234 : decode cX5_find 234 = .ok (.getfield 79, 3) := by decide +kernel
theorem dX5_find_237 : decode cX5_find 237 = .ok (.aload_n 0, 1) := by decide +kernel
theorem dX5_find_238 : decode cX5_find 238 = .ok (.getfield 66, 3) := by decide +kernel
theorem dX5_find_241 : decode cX5_find 241 = .ok (.bipush 16, 2) := by decide +kernel
theorem dX5_find_243 : decode cX5_find 243 = .ok (.if_icmp .ne 7, 3) := by decide +kernel
theorem dX5_find_246 : decode cX5_find 246 = .ok (.iconst 4, 1) := by decide +kernel
theorem dX5_find_247 : decode cX5_find 247 = .ok (.goto 4, 3) := by decide +kernel
theorem dX5_find_250 : decode cX5_find 250 = .ok (.iconst 3, 1) := by decide +kernel
theorem dX5_find_251 : decode cX5_find 251 = .ok (.iadd, 1) := by decide +kernel
theorem dX5_find_252 : decode cX5_find 252 = .ok (.putfield 79, 3) := by decide +kernel
theorem dX5_find_255 : decode cX5_find 255 = .ok (.aload_n 0, 1) := by decide +kernel
theorem dX5_find_256 : decode cX5_find 256 = .ok (.dup, 1) := by decide +kernel
theorem dX5_find_257 : decode cX5_find 257 = .ok (.getfield 76, 3) := by decide +kernel
theorem dX5_find_260 : decode cX5_find 260 = .ok (.iconst 1, 1) := by decide +kernel
theorem dX5_find_261 : decode cX5_find 261 = .ok (.iadd, 1) := by decide +kernel
theorem dX5_find_262 : decode cX5_find 262 = .ok (.putfield 76, 3) := by decide +kernel
theorem dX5_find_265 : decode cX5_find 265 = .ok (.iconst 0, 1) := by decide +kernel
theorem dX5_find_266 : decode cX5_find 266 = .ok (.istore 6, 2) := by decide +kernel
theorem dX5_find_268 : decode cX5_find 268 = .ok (.iload 6, 2) := by decide +kernel
theorem dX5_find_270 : decode cX5_find 270 = .ok (.aload_n 0, 1) := by decide +kernel
theorem dX5_find_271 : decode cX5_find 271 = .ok (.getfield 69, 3) := by decide +kernel
theorem dX5_find_274 : decode cX5_find 274 = .ok (.if_icmp .ge 31, 3) := by decide +kernel
theorem dX5_find_277 : decode cX5_find 277 = .ok (.aload_n 0, 1) := by decide +kernel
theorem dX5_find_278 : decode cX5_find 278 = .ok (.aload_n 0, 1) := by decide +kernel
theorem dX5_find_279 : decode cX5_find 279 = .ok (.getfield 82, 3) := by decide +kernel
theorem dX5_find_282 : decode cX5_find 282 = .ok (.iconst 1, 1) := by decide +kernel
theorem dX5_find_283 : decode cX5_find 283 = .ok (.iload_n 2, 1) := by decide +kernel
theorem dX5_find_284 : decode cX5_find 284 = .ok (.iload 6, 2) := by decide +kernel
theorem dX5_find_286 : decode cX5_find 286 = .ok (.iadd, 1) := by decide +kernel
theorem dX5_find_287 : decode cX5_find 287 = .ok (.sipush 255, 3) := by decide +kernel
theorem dX5_find_290 : decode cX5_find 290 = .ok (.iand, 1) := by decide +kernel
theorem dX5_find_291 : decode cX5_find 291 = .ok (.bipush 32, 2) := by decide +kernel
theorem dX5_find_293 : decode cX5_find 293 = .ok (.idiv, 1) := by decide +kernel
theorem dX5_find_294 : decode cX5_find 294 = .ok (.ishl, 1) := by decide +kernel
theorem dX5_find_295 : decode cX5_find 295 = .ok (.ior, 1) := by decide +kernel
theorem dX5_find_296 : decode cX5_find 296 = .ok (.putfield 82, 3) := by decide +kernel
theorem dX5_find_299 : decode cX5_find 299 = .ok (.iinc 6 1, 3) := by decide +kernel
theorem dX5_find_302 : decode cX5_find 302 = .ok (.goto (-34), 3) := by decide +kernel
theorem dX5_find_305 : decode cX5_find 305 = .ok (.iload_n 2, 1) := by decide +kernel
theorem dX5_find_306 : decode cX5_find 306 = .ok (.aload_n 0, 1) := by decide +kernel
theorem dX5_find_307 : decode cX5_find 307 = .ok (.getfield 69, 3) := by decide +kernel
theorem dX5_find_310 : decode cX5_find 310 = .ok (.iadd, 1) := by decide +kernel
theorem dX5_find_311 : decode cX5_find 311 = .ok (.sipush 255, 3) := by decide +kernel
theorem dX5_find_314 : decode cX5_find 314 = .ok (.iand, 1) := by decide +kernel
theorem dX5_find_315 : decode cX5_find 315 = .ok (.istore_n 2, 1) := by decide +kernel
theorem dX5_find_316 : decode cX5_find 316 = .ok (.aload_n 0, 1) := by decide +kernel
theorem dX5_find_317 : decode cX5_find 317 = .ok (.getfield 66, 3) := by decide +kernel
theorem dX5_find_320 : decode cX5_find 320 = .ok (.invokestatic 102, 3) := by decide +kernel
theorem dX5_find_323 : decode cX5_find 323 = .ok (.ifCond .ne 16, 3) := by decide +kernel
theorem dX5_find_326 : decode cX5_find 326 = .ok (.aload_n 0, 1) := by decide +kernel
theorem dX5_find_327 : decode cX5_find 327 = .ok (.getfield 76, 3) := by decide +kernel
theorem dX5_find_330 : decode cX5_find 330 = .ok (.bipush 8, 2) := by decide +kernel
theorem dX5_find_332 : decode cX5_find 332 = .ok (.if_icmp .ge 7, 3) := by decide +kernel
theorem dX5_find_335 : decode cX5_find 335 = .ok (.iconst 1, 1) := by decide +kernel
theorem dX5_find_336 : decode cX5_find 336 = .ok (.goto 4, 3) := by decide +kernel
theorem dX5_find_339 : decode cX5_find 339 = .ok (.iconst 0, 1) := by decide +kernel
theorem dX5_find_340 : decode cX5_find 340 = .ok (.istore_n 3, 1) := by decide +kernel
theorem dX5_find_341 : decode cX5_find 341 = .ok (.goto (-314), 3) := by decide +kernel
theorem dX5_find_344 : decode cX5_find 344 = .ok (.aload_n 0, 1) := by decide +kernel
theorem dX5_find_345 : decode cX5_find 345 = .ok (.getfield 76, 3) := by decide +kernel
theorem dX5_find_348 : decode cX5_find 348 = .ok (.ifCond .le 17, 3) := by decide +kernel
theorem dX5_find_351 : decode cX5_find 351 = .ok (.aload_n 0, 1) := by decide +kernel
theorem dX5_find_352 : decode cX5_find 352 = .ok (.getfield 53, 3) := by decide +kernel
theorem dX5_find_355 : decode cX5_find 355 = .ok (.aload_n 0, 1) := by decide +kernel
theorem dX5_find_356 : decode cX5_find 356 = .ok (.getfield 76, 3) := by decide +kernel
theorem dX5_find_359 : decode cX5_find 359 = .ok (.iconst 1, 1) := by decide +kernel
theorem dX5_find_360 : decode cX5_find 360 = .ok (.isub, 1) := by decide +kernel
theorem dX5_find_361 : decode cX5_find 361 = .ok (.iaload, 1) := by decide +kernel
theorem dX5_find_362 : decode cX5_find 362 = .ok (.goto 4, 3) := by decide +kernel
theorem dX5_find_365 : decode cX5_find 365 = .ok (.iconst 0, 1) := by decide +kernel
theorem dX5_find_366 : decode cX5_find 366 = .ok (.istore 5, 2) := by decide +kernel
theorem dX5_find_368 : decode cX5_find 368 = .ok (.aload_n 0, 1) := by decide +kernel
theorem dX5_find_369 : decode cX5_find 369 = .ok (.getfield 76, 3) := by decide +kernel
theorem dX5_find_372 : decode cX5_find 372 = .ok (.ifCond .le 27, 3) := by decide +kernel
theorem dX5_find_375 : decode cX5_find 375 = .ok (.iload 5, 2) := by decide +kernel
theorem dX5_find_377 : decode cX5_find 377 = .ok (.iconst 4, 1) := by decide +kernel
theorem dX5_find_378 : decode cX5_find 378 = .ok (.if_icmp .eq 11, 3) := by decide +kernel
theorem dX5_find_381 : decode cX5_find 381 = .ok (.iload 5, 2) := by decide +kernel
theorem dX5_find_383 : decode cX5_find 383 = .ok (.invokestatic 102, 3) := by decide +kernel
theorem dX5_find_386 : decode cX5_find 386 = .ok (.ifCond .ne 13, 3) := by decide +kernel
theorem dX5_find_389 : decode cX5_find 389 = .ok (.aload_n 0, 1) := by decide +kernel
theorem dX5_find_390 : decode cX5_find 390 = .ok (.dup, 1) := by decide +kernel
theorem dX5_find_391 : decode cX5_find 391 = .ok (.getfield 79, 3) := by decide +kernel
theorem dX5_find_394 : decode cX5_find 394 = .ok (.iconst 1, 1) := by decide +kernel
theorem dX5_find_395 : decode cX5_find 395 = .ok (.iadd, 1) := by decide +kernel
theorem dX5_find_396 : decode cX5_find 396 = .ok (.putfield 79, 3) := by decide +kernel
theorem dX5_find_399 : decode cX5_find 399 = .ok (.return_, 1) := by decide +kernel
theorem dX5_remove_0 : decode cX5_remove 0 = .ok (.aload_n 0, 1) := by decide +kernel
theorem dX5_remove_1 : decode cX5_remove 1 = .ok (.getfield 50, 3) := by decide +kernel
theorem dX5_remove_4 : decode cX5_remove 4 = .ok (.iconst 1, 1) := by decide +kernel
theorem dX5_remove_5 : decode cX5_remove 5 = .ok (.dup2, 1) := by decide +kernel
theorem dX5_remove_6 : decode cX5_remove 6 = .ok (.iaload, 1) := by decide +kernel
theorem dX5_remove_7 : decode cX5_remove 7 = .ok (.iconst 1, 1) := by decide +kernel
theorem dX5_remove_8 : decode cX5_remove 8 = .ok (.isub, 1) := by decide +kernel
theorem dX5_remove_9 : decode cX5_remove 9 = .ok (.iastore, 1) := by decide +kernel
theorem dX5_remove_10 : decode cX5_remove 10 = .ok (.aload_n 0, 1) := by decide +kernel
theorem dX5_remove_11 : decode cX5_remove 11 = .ok (.getfield 50, 3) := by decide +kernel
theorem dX5_remove_14 : decode cX5_remove 14 = .ok (.iconst 2, 1) := by decide +kernel
theorem dX5_remove_15 : decode cX5_remove 15 = .ok (.aload_n 0, 1) := by decide +kernel
theorem dX5_remove_16 : decode cX5_remove 16 = .ok (.getfield 50, 3) := by decide +kernel
theorem dX5_remove_19 : decode cX5_remove 19 = .ok (.iconst 2, 1) := by decide +kernel
theorem dX5_remove_20 : decode cX5_remove 20 = .ok (.iaload, 1) := by decide +kernel
theorem dX5_remove_21 : decode cX5_remove 21 = .ok (.aload_n 0, 1) := by decide +kernel
theorem dX5_remove_22 : decode cX5_remove 22 = .ok (.getfield 29, 3) := by decide +kernel
theorem dX5_remove_25 : decode cX5_remove 25 = .ok (.iload_n 1, 1) := by decide +kernel
theorem dX5_remove_26 : decode cX5_remove 26 = .ok (.iaload, 1) := by decide +kernel
theorem dX5_remove_27 : decode cX5_remove 27 = .ok (.isub, 1) := by decide +kernel
theorem dX5_remove_28 : decode cX5_remove 28 = .ok (.iastore, 1) := by decide +kernel
theorem dX5_remove_29 : decode cX5_remove 29 = .ok (.aload_n 0, 1) := by decide +kernel
theorem dX5_remove_30 : decode cX5_remove 30 = .ok (.getfield 29, 3) := by decide +kernel
theorem dX5_remove_33 : decode cX5_remove 33 = .ok (.iload_n 1, 1) := by decide +kernel
theorem dX5_remove_34 : decode cX5_remove 34 = .ok (.iconst 0, 1) := by decide +kernel
theorem dX5_remove_35 : decode cX5_remove 35 = .ok (.iastore, 1) := by decide +kernel
theorem dX5_remove_36 : decode cX5_remove 36 = .ok (.return_, 1) := by decide +kernel
set_option maxRecDepth 100000 in
theorem ggX5_empty_X5_remove : GoodIn wsX5_empty wsX5_remove := goodIn_r _ [6, 7, 1, 8, 9, 10, 11, 12, 13, 14, 15, 16, 17, 18, 19, 20, 21, 22, 23, 24, 25, 26, 27, 28, 29, 30, 31, 32, 33, 34] rfl (by decide +kernel)
set_option maxRecDepth 100000 in
theorem gX5_empty_X5_remove : GoodIn wsX5_empty (wsV RX5 105 RX5 yX5_remove wsX5_remove) := goodIn_app (goodIn_of _ (by decide +kernel)) ggX5_empty_X5_remove
theorem dX5_empty_0 : decode cX5_empty 0 = .ok (.iconst 0, 1) := by decide +kernel
theorem dX5_empty_1 : decode cX5_empty 1 = .ok (.istore_n 1, 1) := by decide +kernel
theorem dX5_empty_2 : decode cX5_empty 2 = .ok (.iload_n 1, 1) := by decide +kernel
theorem dX5_empty_3 : decode cX5_empty 3 = .ok (.sipush 256, 3) := by decide +kernel
theorem dX5_empty_6 : decode cX5_empty 6 = .ok (.if_icmp .ge 23, 3) := by decide +kernel
theorem dX5_empty_9 : decode cX5_empty 9 = .ok (.aload_n 0, 1) := by decide +kernel
theorem dX5_empty_10 : decode cX5_empty 10 = .ok (.getfield 29, 3) := by decide +kernel
theorem dX5_empty_13 : decode cX5_empty 13 = .ok (.iload_n 1, 1) := by decide +kernel
theorem dX5_empty_14 : decode cX5_empty 14 = .ok (.iaload, 1) := by decide +kernel
theorem dX5_empty_15 : decode cX5_empty 15 = .ok (.ifCond .le 8, 3) := by decide +kernel
theorem dX5_empty_18 : decode cX5_empty 18 = .ok (.aload_n 0, 1) := by decide +kernel
theorem dX5_empty_19 : decode cX5_empty 19 = .ok (.iload_n 1, 1) := by decide +kernel
theorem dX5_empty_20 : decode cX5_empty 20 = .ok (.invokevirtual 105, 3) := by decide +kernel
theorem dX5_empty_23 : decode cX5_empty 23 = .ok (.iinc 1 1, 3) := by decide +kernel
theorem dX5_empty_26 : decode cX5_empty 26 = .ok (.goto (-24), 3) := by decide +kernel
theorem dX5_empty_29 : decode cX5_empty 29 = .ok (.return_, 1) := by decide +kernel
set_option maxRecDepth 100000 in
theorem ggX5_invalidate_X5_remove : GoodIn wsX5_invalidate wsX5_remove := goodIn_r _ [7, 8, 1, 9, 10, 11, 12, 13, 14, 15, 16, 17, 18, 19, 20, 21, 22, 23, 24, 25, 26, 27, 28, 29, 30, 31, 32, 33, 34, 35] rfl (by decide +kernel)
set_option maxRecDepth 100000 in
theorem gX5_invalidate_X5_remove : GoodIn wsX5_invalidate (wsV RX5 105 RX5 yX5_remove wsX5_remove) := goodIn_app (goodIn_of _ (by decide +kernel)) ggX5_invalidate_X5_remove
theorem dX5_invalidate_0 : decode cX5_invalidate 0 = .ok (.iconst 0, 1) := by decide +kernel
theorem dX5_invalidate_1 : decode cX5_invalidate 1 = .ok (.istore_n 2, 1) := by decide +kernel
theorem dX5_invalidate_2 : decode cX5_invalidate 2 = .ok (.iconst 0, 1) := by decide +kernel
theorem dX5_invalidate_3 : decode cX5_invalidate 3 = .ok (.istore_n 3, 1) := by decide +kernel
theorem dX5_invalidate_4 : decode cX5_invalidate 4 = .ok (.iload_n 3, 1) := by decide +kernel
theorem dX5_invalidate_5 : decode cX5_invalidate 5 = .ok (.sipush 256, 3) := by decide +kernel
theorem dX5_invalidate_8 : decode cX5_invalidate 8 = .ok (.if_icmp .ge 43, 3) := by decide +kernel
theorem dX5_invalidate_11 : decode cX5_invalidate 11 = .ok (.aload_n 0, 1) := by decide +kernel
theorem dX5_invalidate_12 : decode cX5_invalidate 12 = .ok (.getfield 29, 3) := by decide +kernel
theorem dX5_invalidate_15 : decode cX5_invalidate 15 = .ok (.iload_n 3, 1) := by decide +kernel
theorem dX5_invalidate_16 : decode cX5_invalidate 16 = .ok (.iaload, 1) := by decide +kernel
theorem dX5_invalidate_17 : decode cX5_invalidate 17 = .ok (.ifCond .le 28, 3) := by decide +kernel
theorem dX5_invalidate_20 : decode cX5_invalidate 20 = .ok (.aload_n 0, 1) := by decide +kernel
theorem dX5_invalidate_21 : decode cX5_invalidate 21 = .ok (.getfield 35, 3) := by decide +kernel
theorem dX5_invalidate_24 : decode cX5_invalidate 24 = .ok (.iload_n 3, 1) := by decide +kernel
theorem dX5_invalidate_25 : decode cX5_invalidate 25 = .ok (.iaload, 1) := by decide +kernel
theorem dX5_invalidate_26 : decode cX5_invalidate 26 = .ok (.iload_n 1, 1) := by decide +kernel
theorem dX5_invalidate_27 : decode cX5_invalidate 27 = .ok (.bipush 32, 2) := by decide +kernel
theorem dX5_invalidate_29 : decode cX5_invalidate 29 = .ok (.idiv, 1) := by decide +kernel
theorem dX5_invalidate_30 : decode cX5_invalidate 30 = .ok (.ishr, 1) := by decide +kernel
theorem dX5_invalidate_31 : decode cX5_invalidate 31 = .ok (.iconst 1, 1) := by decide +kernel
theorem dX5_invalidate_32 : decode cX5_invalidate 32 = .ok (.iand, 1) := by decide +kernel
theorem dX5_invalidate_33 : decode cX5_invalidate 33 = .ok (.iconst 1, 1) := by decide +kernel
theorem dX5_invalidate_34 : decode cX5_invalidate 34 = .ok (.if_icmp .ne 11, 3) := by decide +kernel
theorem dX5_invalidate_37 : decode cX5_invalidate 37 = .ok (.aload_n 0, 1) := by decide +kernel
theorem dX5_invalidate_38 : decode cX5_invalidate 38 = .ok (.iload_n 3, 1) := by decide +kernel
theorem dX5_invalidate_39 : decode cX5_invalidate 39 = .ok (.invokevirtual 105, 3) := by decide +kernel
theorem dX5_invalidate_42 : decode cX5_invalidate 42 = .ok (.iinc 2 1, 3) := by decide +kernel
theorem dX5_invalidate_45 : decode cX5_invalidate 45 = .ok (.iinc 3 1, 3) := by decide +kernel
theorem dX5_invalidate_48 : decode cX5_invalidate 48 = .ok (.goto (-44), 3) := by decide +kernel
theorem dX5_invalidate_51 : decode cX5_invalidate 51 = .ok (.iload_n 2, 1) := by decide +kernel
theorem dX5_invalidate_52 : decode cX5_invalidate 52 = .ok (.ireturn, 1) := by decide +kernel
set_option maxRecDepth 100000 in
theorem ggX5_write_X5_invalidate : GoodIn wsX5_write wsX5_invalidate := goodIn_r _ [7, 8, 9, 10, 11, 12, 6, 13, 2, 14, 15, 16, 17, 18, 19, 20, 21, 22, 23, 24, 25, 26, 27, 28, 29, 30, 31, 32, 33, 34, 35, 36, 37, 38, 39, 40] rfl (by decide +kernel)
set_option maxRecDepth 100000 in
theorem gX5_write_X5_invalidate : GoodIn wsX5_write (wsV RX5 108 RX5 yX5_invalidate wsX5_invalidate) := goodIn_app (goodIn_of _ (by decide +kernel)) ggX5_write_X5_invalidate
theorem dX5_write_0 : decode cX5_write 0 = .ok (.aload_n 0, 1) := by decide +kernel
theorem dX5_write_1 : decode cX5_write 1 = .ok (.getfield 7, 3) := by decide +kernel
theorem dX5_write_4 : decode cX5_write 4 = .ok (.iload_n 1, 1) := by decide +kernel
theorem dX5_write_5 : decode cX5_write 5 = .ok (.iload_n 2, 1) := by decide +kernel
theorem dX5_write_6 : decode cX5_write 6 = .ok (.iastore, 1) := by decide +kernel
theorem dX5_write_7 : decode cX5_write 7 = .ok (.aload_n 0, 1) := by decide +kernel
theorem dX5_write_8 : decode cX5_write 8 = .ok (.getfield 50, 3) := by decide +kernel
theorem dX5_write_11 : decode cX5_write 11 = .ok (.iconst 4, 1) := by decide +kernel
theorem dX5_write_12 : decode cX5_write 12 = .ok (.aload_n 0, 1) := by decide +kernel
theorem dX5_write_13 : decode cX5_write 13 = .ok (.getfield 50, 3) := by decide +kernel
theorem dX5_write_16 : decode cX5_write 16 = .ok (.iconst 4, 1) := by decide +kernel
theorem dX5_write_17 : decode cX5_write 17 = .ok (.iaload, 1) := by decide +kernel
theorem dX5_write_18 : decode cX5_write 18 = .ok (.aload_n 0, 1) := by decide +kernel
theorem dX5_write_19 : decode cX5_write 19 = .ok (.iload_n 1, 1) := by decide +kernel
theorem dX5_write_20 : decode cX5_write 20 = .ok (.invokevirtual 108, 3) := by decide +kernel
theorem dX5_write_23 : decode cX5_write 23 = .ok (.iadd, 1) := by decide +kernel
theorem dX5_write_24 : decode cX5_write 24 = .ok (.iastore, 1) := by decide +kernel
theorem dX5_write_25 : decode cX5_write 25 = .ok (.return_, 1) := by decide +kernel
set_option maxRecDepth 100000 in
theorem ggX5_hasBlock_X5_find : GoodIn wsX5_hasBlock wsX5_find := goodIn_r _ [17, 2, 3, 8, 12, 18, 19, 20, 21, 22, 23, 24, 16, 25, 26, 27, 28, 29, 30, 31, 32, 33, 34, 35, 36, 37, 38, 39, 40, 41, 42, 43, 44, 53, 54, 55, 56, 57, 58, 59, 60, 61, 62, 63, 64, 65, 66, 67, 68, 69, 70, 71, 72, 73, 74, 75, 76, 77, 78, 79] rfl (by decide +kernel)
set_option maxRecDepth 100000 in
theorem gX5_hasBlock_X5_find : GoodIn wsX5_hasBlock (wsV RX5 111 RX5 yX5_find wsX5_find) := goodIn_app (goodIn_of _ (by decide +kernel)) ggX5_hasBlock_X5_find
set_option maxRecDepth 100000 in
theorem ggX5_hasBlock_X5_empty : GoodIn wsX5_hasBlock wsX5_empty := goodIn_r _ [48, 1, 49, 50, 51, 16, 52, 5, 53, 54, 55, 56, 57, 58, 59, 60, 61, 62, 63, 64, 65, 66, 67, 68, 69, 70, 71, 72, 73, 74, 75, 76, 77, 78, 79] rfl (by decide +kernel)
set_option maxRecDepth 100000 in
theorem gX5_hasBlock_X5_empty : GoodIn wsX5_hasBlock (wsV RX5 114 RX5 yX5_empty wsX5_empty) := goodIn_app (goodIn_of _ (by decide +kernel)) ggX5_hasBlock_X5_empty
theorem dX5_hasBlock_0 : decode cX5_hasBlock 0 = .ok (.aload_n 0, 1) := by decide +kernel
theorem dX5_hasBlock_1 : decode cX5_hasBlock 1 = .ok (.getfield 29, 3) := by decide +kernel
theorem dX5_hasBlock_4 : decode cX5_hasBlock 4 = .ok (.iload_n 1, 1) := by decide +kernel
theorem dX5_hasBlock_5 : decode cX5_hasBlock 5 = .ok (.iaload, 1) := by decide +kernel
theorem dX5_hasBlock_6 : decode cX5_hasBlock 6 = .ok (.ifCond .le 5, 3) := by decide +kernel
theorem dX5_hasBlock_9 : decode cX5_hasBlock 9 = .ok (.iconst 1, 1) := by decide +kernel
theorem dX5_hasBlock_10 : decode cX5_hasBlock 10 = .ok (.ireturn, 1) := by decide +kernel
theorem dX5_hasBlock_11 : decode cX5_hasBlock 11 = .ok (.aload_n 0, 1) := by decide +kernel
theorem dX5_hasBlock_12 : decode cX5_hasBlock 12 = .ok (.iload_n 1, 1) := by decide +kernel
theorem dX5_hasBlock_13 : decode cX5_hasBlock 13 = .ok (.invokevirtual 111, 3) := by decide +kernel
theorem dX5_hasBlock_16 : decode cX5_hasBlock 16 = .ok (.aload_n 0, 1) := by decide +kernel
theorem dX5_hasBlock_17 : decode cX5_hasBlock 17 = .ok (.getfield 76, 3) := by decide +kernel
theorem dX5_hasBlock_20 : decode cX5_hasBlock 20 = .ok (.ifCond .eq 14, 3) := by decide +kernel
theorem dX5_hasBlock_23 : decode cX5_hasBlock 23 = .ok (.aload_n 0, 1) := by decide +kernel
theorem dX5_hasBlock_24 : decode cX5_hasBlock 24 = .ok (.getfield 79, 3) := by decide +kernel
theorem dX5_hasBlock_27 : decode cX5_hasBlock 27 = .ok (.aload_n 0, 1) := by decide +kernel
theorem dX5_hasBlock_28 : decode cX5_hasBlock 28 = .ok (.getfield 47, 3) := by decide +kernel
theorem dX5_hasBlock_31 : decode cX5_hasBlock 31 = .ok (.if_icmp .le 5, 3) := by decide +kernel
theorem dX5_hasBlock_34 : decode cX5_hasBlock 34 = .ok (.iconst 0, 1) := by decide +kernel
theorem dX5_hasBlock_35 : decode cX5_hasBlock 35 = .ok (.ireturn, 1) := by decide +kernel
theorem dX5_hasBlock_36 : decode cX5_hasBlock 36 = .ok (.aload_n 0, 1) := by decide +kernel
theorem dX5_hasBlock_37 : decode cX5_hasBlock 37 = .ok (.getfield 50, 3) := by decide +kernel
theorem dX5_hasBlock_40 : decode cX5_hasBlock 40 = .ok (.iconst 2, 1) := by decide +kernel
theorem dX5_hasBlock_41 : decode cX5_hasBlock 41 = .ok (.iaload, 1) := by decide +kernel
theorem dX5_hasBlock_42 : decode cX5_hasBlock 42 = .ok (.aload_n 0, 1) := by decide +kernel
theorem dX5_hasBlock_43 : decode cX5_hasBlock 43 = .ok (.getfield 79, 3) := by decide +kernel
theorem dX5_hasBlock_46 : decode cX5_hasBlock 46 = .ok (.iadd, 1) := by decide +kernel
theorem dX5_hasBlock_47 : decode cX5_hasBlock 47 = .ok (.aload_n 0, 1) := by decide +kernel
theorem dX5_hasBlock_48 : decode cX5_hasBlock 48 = .ok (.getfield 47, 3) := by decide +kernel
theorem dX5_hasBlock_51 : decode cX5_hasBlock 51 = .ok (.if_icmp .le 17, 3) := by decide +kernel
theorem dX5_hasBlock_54 : decode cX5_hasBlock 54 = .ok (.aload_n 0, 1) := by decide +kernel
theorem dX5_hasBlock_55 : decode cX5_hasBlock 55 = .ok (.invokevirtual 114, 3) := by decide +kernel
theorem dX5_hasBlock_58 : decode cX5_hasBlock 58 = .ok (.aload_n 0, 1) := by decide +kernel
theorem dX5_hasBlock_59 : decode cX5_hasBlock 59 = .ok (.getfield 50, 3) := by decide +kernel
theorem dX5_hasBlock_62 : decode cX5_hasBlock 62 = .ok (.iconst 5, 1) := by decide +kernel
theorem dX5_hasBlock_63 : decode cX5_hasBlock 63 = .ok (.dup2, 1) := by decide +kernel
theorem dX5_hasBlock_64 : decode cX5_hasBlock 64 = .ok (.iaload, 1) := by decide +kernel
theorem dX5_hasBlock_65 : decode cX5_hasBlock 65 = .ok (.iconst 1, 1) := by decide +kernel
theorem dX5_hasBlock_66 : decode cX5_hasBlock 66 = .ok (.iadd, 1) := by decide +kernel
theorem dX5_hasBlock_67 : decode cX5_hasBlock 67 = .ok (.iastore, 1) := by decide +kernel
theorem dX5_hasBlock_68 : decode cX5_hasBlock 68 = .ok (.aload_n 0, 1) := by decide +kernel
theorem dX5_hasBlock_69 : decode cX5_hasBlock 69 = .ok (.getfield 29, 3) := by decide +kernel
theorem dX5_hasBlock_72 : decode cX5_hasBlock 72 = .ok (.iload_n 1, 1) := by decide +kernel
theorem dX5_hasBlock_73 : decode cX5_hasBlock 73 = .ok (.aload_n 0, 1) := by decide +kernel
theorem dX5_hasBlock_74 : decode cX5_hasBlock 74 = .ok (.getfield 79, 3) := by decide +kernel
theorem dX5_hasBlock_77 : decode cX5_hasBlock 77 = .ok (.iastore, 1) := by decide +kernel
theorem dX5_hasBlock_78 : decode cX5_hasBlock 78 = .ok (.aload_n 0, 1) := by decide +kernel
theorem dX5_hasBlock_79 : decode cX5_hasBlock 79 = .ok (.getfield 32, 3) := by decide +kernel
theorem dX5_hasBlock_82 : decode cX5_hasBlock 82 = .ok (.iload_n 1, 1) := by decide +kernel
theorem dX5_hasBlock_83 : decode cX5_hasBlock 83 = .ok (.aload_n 0, 1) := by decide +kernel
theorem dX5_hasBlock_84 : decode cX5_hasBlock 84 = .ok (.getfield 76, 3) := by decide +kernel
theorem dX5_hasBlock_87 : decode cX5_hasBlock 87 = .ok (.iastore, 1) := by decide +kernel
theorem dX5_hasBlock_88 : decode cX5_hasBlock 88 = .ok (.aload_n 0, 1) := by decide +kernel
theorem dX5_hasBlock_89 : decode cX5_hasBlock 89 = .ok (.getfield 35, 3) := by decide +kernel
theorem dX5_hasBlock_92 : decode cX5_hasBlock 92 = .ok (.iload_n 1, 1) := by decide +kernel
theorem dX5_hasBlock_93 : decode cX5_hasBlock 93 = .ok (.aload_n 0, 1) := by decide +kernel
theorem dX5_hasBlock_94 : decode cX5_hasBlock 94 = .ok (.getfield 82, 3) := by decide +kernel
theorem dX5_hasBlock_97 : decode cX5_hasBlock 97 = .ok (.iastore, 1) := by decide +kernel
theorem dX5_hasBlock_98 : decode cX5_hasBlock 98 = .ok (.aload_n 0, 1) := by decide +kernel
theorem dX5_hasBlock_99 : decode cX5_hasBlock 99 = .ok (.dup, 1) := by decide +kernel
theorem dX5_hasBlock_100 : decode cX5_hasBlock 100 = .ok (.getfield 117, 3) := by decide +kernel
theorem dX5_hasBlock_103 : decode cX5_hasBlock 103 = .ok (.iconst 1, 1) := by decide +kernel
theorem dX5_hasBlock_104 : decode cX5_hasBlock 104 = .ok (.iadd, 1) := by decide +kernel
theorem dX5_hasBlock_105 : decode cX5_hasBlock 105 = .ok (.putfield 117, 3) := by decide +kernel
theorem dX5_hasBlock_108 : decode cX5_hasBlock 108 = .ok (.aload_n 0, 1) := by decide +kernel
theorem dX5_hasBlock_109 : decode cX5_hasBlock 109 = .ok (.getfield 38, 3) := by decide +kernel
theorem dX5_hasBlock_112 : decode cX5_hasBlock 112 = .ok (.iload_n 1, 1) := by decide +kernel
theorem dX5_hasBlock_113 : decode cX5_hasBlock 113 = .ok (.aload_n 0, 1) := by decide +kernel
theorem dX5_hasBlock_114 : decode cX5_hasBlock 114 = .ok (.getfield 117, 3) := by decide +kernel
theorem dX5_hasBlock_117 : decode cX5_hasBlock 117 = .ok (.iastore, 1) := by decide +kernel
theorem dX5_hasBlock_118 : decode cX5_hasBlock 118 = .ok (.aload_n 0, 1) := by decide +kernel
theorem dX5_hasBlock_119 : decode cX5_hasBlock 119 = .ok (.getfield 41, 3) := by decide +kernel
theorem dX5_hasBlock_122 : decode cX5_hasBlock 122 = .ok (.iconst 2, 1) := by decide +kernel
theorem dX5_hasBlock_123 : decode cX5_hasBlock 123 = .ok (.iload_n 1, 1) := by decide +kernel
theorem dX5_hasBlock_124 : decode cX5_hasBlock 124 = .ok (.imul, 1) := by decide +kernel
theorem dX5_hasBlock_125 : decode cX5_hasBlock 125 = .ok (.iconst (-1), 1) := by decide +kernel
theorem dX5_hasBlock_126 : decode cX5_hasBlock 126 = .ok (.iastore, 1) := by decide +kernel
theorem dX5_hasBlock_127 : decode cX5_hasBlock 127 = .ok (.aload_n 0, 1) := by decide +kernel
theorem dX5_hasBlock_128 : decode cX5_hasBlock 128 = .ok (.getfield 41, 3) := by decide +kernel
theorem dX5_hasBlock_131 : decode cX5_hasBlock 131 = .ok (.iconst 2, 1) := by decide +kernel
theorem dX5_hasBlock_132 : decode cX5_hasBlock 132 = .ok (.iload_n 1, 1) := by decide +kernel
theorem dX5_hasBlock_133 : decode cX5_hasBlock 133 = .ok (.imul, 1) := by decide +kernel
theorem dX5_hasBlock_134 : decode cX5_hasBlock 134 = .ok (.iconst 1, 1) := by decide +kernel
theorem dX5_hasBlock_135 : decode cX5_hasBlock 135 = .ok (.iadd, 1) := by decide +kernel
theorem dX5_hasBlock_136 : decode cX5_hasBlock 136 = .ok (.iconst (-1), 1) := by decide +kernel
theorem dX5_hasBlock_137 : decode cX5_hasBlock 137 = .ok (.iastore, 1) := by decide +kernel
theorem dX5_hasBlock_138 : decode cX5_hasBlock 138 = .ok (.aload_n 0, 1) := by decide +kernel
theorem dX5_hasBlock_139 : decode cX5_hasBlock 139 = .ok (.getfield 50, 3) := by decide +kernel
theorem dX5_hasBlock_142 : decode cX5_hasBlock 142 = .ok (.iconst 1, 1) := by decide +kernel
theorem dX5_hasBlock_143 : decode cX5_hasBlock 143 = .ok (.dup2, 1) := by decide +kernel
theorem dX5_hasBlock_144 : decode cX5_hasBlock 144 = .ok (.iaload, 1) := by decide +kernel
theorem dX5_hasBlock_145 : decode cX5_hasBlock 145 = .ok (.iconst 1, 1) := by decide +kernel
theorem dX5_hasBlock_146 : decode cX5_hasBlock 146 = .ok (.iadd, 1) := by decide +kernel
theorem dX5_hasBlock_147 : decode cX5_hasBlock 147 = .ok (.iastore, 1) := by decide +kernel
theorem dX5_hasBlock_148 : decode cX5_hasBlock 148 = .ok (.aload_n 0, 1) := by decide +kernel
theorem dX5_hasBlock_149 : decode cX5_hasBlock 149 = .ok (.getfield 50, 3) := by decide +kernel
theorem dX5_hasBlock_152 : decode cX5_hasBlock 152 = .ok (.iconst 2, 1) := by decide +kernel
theorem dX5_hasBlock_153 : decode cX5_hasBlock 153 = .ok (.aload_n 0, 1) := by decide +kernel
theorem dX5_hasBlock_154 : decode cX5_hasBlock 154 = .ok (.getfield 50, 3) := by decide +kernel
theorem dX5_hasBlock_157 : decode cX5_hasBlock 157 = .ok (.iconst 2, 1) := by decide +kernel
theorem dX5_hasBlock_158 : decode cX5_hasBlock 158 = .ok (.iaload, 1) := by decide +kernel
theorem dX5_hasBlock_159 : decode cX5_hasBlock 159 = .ok (.aload_n 0, 1) := by decide +kernel
theorem dX5_hasBlock_160 : decode cX5_hasBlock 160 = .ok (.getfield 79, 3) := by decide +kernel
theorem dX5_hasBlock_163 : decode cX5_hasBlock 163 = .ok (.iadd, 1) := by decide +kernel
theorem dX5_hasBlock_164 : decode cX5_hasBlock 164 = .ok (.iastore, 1) := by decide +kernel
theorem dX5_hasBlock_165 : decode cX5_hasBlock 165 = .ok (.aload_n 0, 1) := by decide +kernel
theorem dX5_hasBlock_166 : decode cX5_hasBlock 166 = .ok (.getfield 50, 3) := by decide +kernel
theorem dX5_hasBlock_169 : decode cX5_hasBlock 169 = .ok (.iconst 3, 1) := by decide +kernel
theorem dX5_hasBlock_170 : decode cX5_hasBlock 170 = .ok (.dup2, 1) := by decide +kernel
theorem dX5_hasBlock_171 : decode cX5_hasBlock 171 = .ok (.iaload, 1) := by decide +kernel
theorem dX5_hasBlock_172 : decode cX5_hasBlock 172 = .ok (.iconst 1, 1) := by decide +kernel
theorem dX5_hasBlock_173 : decode cX5_hasBlock 173 = .ok (.iadd, 1) := by decide +kernel
theorem dX5_hasBlock_174 : decode cX5_hasBlock 174 = .ok (.iastore, 1) := by decide +kernel
theorem dX5_hasBlock_175 : decode cX5_hasBlock 175 = .ok (.aload_n 0, 1) := by decide +kernel
theorem dX5_hasBlock_176 : decode cX5_hasBlock 176 = .ok (.getfield 50, 3) := by decide +kernel
theorem dX5_hasBlock_179 : decode cX5_hasBlock 179 = .ok (.bipush 9, 2) := by decide +kernel
theorem dX5_hasBlock_181 : decode cX5_hasBlock 181 = .ok (.aload_n 0, 1) := by decide +kernel
theorem dX5_hasBlock_182 : decode cX5_hasBlock 182 = .ok (.getfield 50, 3) := by decide +kernel
theorem dX5_hasBlock_185 : decode cX5_hasBlock 185 = .ok (.bipush 9, 2) := by decide +kernel
theorem dX5_hasBlock_187 : decode cX5_hasBlock 187 = .ok (.iaload, 1) := by decide +kernel
theorem dX5_hasBlock_188 : decode cX5_hasBlock 188 = .ok (.aload_n 0, 1) := by decide +kernel
theorem dX5_hasBlock_189 : decode cX5_hasBlock 189 = .ok (.getfield 85, 3) := by decide +kernel
theorem dX5_hasBlock_192 : decode cX5_hasBlock 192 = .ok (.iadd, 1) := by decide +kernel
theorem dX5_hasBlock_193 : decode cX5_hasBlock 193 = .ok (.iastore, 1) := by decide +kernel
theorem dX5_hasBlock_194 : decode cX5_hasBlock 194 = .ok (.iconst 1, 1) := by decide +kernel
theorem dX5_hasBlock_195 : decode cX5_hasBlock 195 = .ok (.ireturn, 1) := by decide +kernel
theorem dX5_setFlags_0 : decode cX5_setFlags 0 = .ok (.aload_n 0, 1) := by decide +kernel
theorem dX5_setFlags_1 : decode cX5_setFlags 1 = .ok (.getfield 13, 3) := by decide +kernel
theorem dX5_setFlags_4 : decode cX5_setFlags 4 = .ok (.iconst 5, 1) := by decide +kernel
theorem dX5_setFlags_5 : decode cX5_setFlags 5 = .ok (.iload_n 1, 1) := by decide +kernel
theorem dX5_setFlags_6 : decode cX5_setFlags 6 = .ok (.sipush 255, 3) := by decide +kernel
theorem dX5_setFlags_9 : decode cX5_setFlags 9 = .ok (.iand, 1) := by decide +kernel
theorem dX5_setFlags_10 : decode cX5_setFlags 10 = .ok (.ifCond .ne 7, 3) := by decide +kernel
theorem dX5_setFlags_13 : decode cX5_setFlags 13 = .ok (.iconst 1, 1) := by decide +kernel
theorem dX5_setFlags_14 : decode cX5_setFlags 14 = .ok (.goto 4, 3) := by decide +kernel
theorem dX5_setFlags_17 : decode cX5_setFlags 17 = .ok (.iconst 0, 1) := by decide +kernel
theorem dX5_setFlags_18 : decode cX5_setFlags 18 = .ok (.iastore, 1) := by decide +kernel
theorem dX5_setFlags_19 : decode cX5_setFlags 19 = .ok (.aload_n 0, 1) := by decide +kernel
theorem dX5_setFlags_20 : decode cX5_setFlags 20 = .ok (.getfield 13, 3) := by decide +kernel
theorem dX5_setFlags_23 : decode cX5_setFlags 23 = .ok (.bipush 6, 2) := by decide +kernel
theorem dX5_setFlags_25 : decode cX5_setFlags 25 = .ok (.iload_n 2, 1) := by decide +kernel
theorem dX5_setFlags_26 : decode cX5_setFlags 26 = .ok (.iastore, 1) := by decide +kernel
theorem dX5_setFlags_27 : decode cX5_setFlags 27 = .ok (.aload_n 0, 1) := by decide +kernel
theorem dX5_setFlags_28 : decode cX5_setFlags 28 = .ok (.getfield 13, 3) := by decide +kernel
theorem dX5_setFlags_31 : decode cX5_setFlags 31 = .ok (.bipush 7, 2) := by decide +kernel
theorem dX5_setFlags_33 : decode cX5_setFlags 33 = .ok (.iload_n 1, 1) := by decide +kernel
theorem dX5_setFlags_34 : decode cX5_setFlags 34 = .ok (.bipush 7, 2) := by decide +kernel
theorem dX5_setFlags_36 : decode cX5_setFlags 36 = .ok (.ishr, 1) := by decide +kernel
theorem dX5_setFlags_37 : decode cX5_setFlags 37 = .ok (.iconst 1, 1) := by decide +kernel
theorem dX5_setFlags_38 : decode cX5_setFlags 38 = .ok (.iand, 1) := by decide +kernel
theorem dX5_setFlags_39 : decode cX5_setFlags 39 = .ok (.iastore, 1) := by decide +kernel
theorem dX5_setFlags_40 : decode cX5_setFlags 40 = .ok (.return_, 1) := by decide +kernel
set_option maxRecDepth 100000 in
theorem ggX5_push_X5_write : GoodIn wsX5_push wsX5_write := goodIn_r _ [6, 7, 8, 9, 10, 11, 5, 12, 13, 14, 15, 16, 17, 18, 19, 20, 21, 22, 23, 24, 25, 26, 27, 28, 29, 30, 31, 32, 33, 34, 35, 36, 37, 38, 39, 40, 41, 42, 43, 44, 45] rfl (by decide +kernel)
set_option maxRecDepth 100000 in
theorem gX5_push_X5_write : GoodIn wsX5_push (wsV RX5 120 RX5 yX5_write wsX5_write) := goodIn_app (goodIn_of _ (by decide +kernel)) ggX5_push_X5_write
theorem dX5_push_0 : decode cX5_push 0 = .ok (.aload_n 0, 1) := by decide +kernel
theorem dX5_push_1 : decode cX5_push 1 = .ok (.getfield 13, 3) := by decide +kernel
theorem dX5_push_4 : decode cX5_push 4 = .ok (.iconst 4, 1) := by decide +kernel
theorem dX5_push_5 : decode cX5_push 5 = .ok (.aload_n 0, 1) := by decide +kernel
theorem dX5_push_6 : decode cX5_push 6 = .ok (.getfield 13, 3) := by decide +kernel
theorem dX5_push_9 : decode cX5_push 9 = .ok (.iconst 4, 1) := by decide +kernel
theorem dX5_push_10 : decode cX5_push 10 = .ok (.iaload, 1) := by decide +kernel
theorem dX5_push_11 : decode cX5_push 11 = .ok (.iconst 1, 1) := by decide +kernel
theorem dX5_push_12 : decode cX5_push 12 = .ok (.isub, 1) := by decide +kernel
theorem dX5_push_13 : decode cX5_push 13 = .ok (.sipush 255, 3) := by decide +kernel
theorem dX5_push_16 : decode cX5_push 16 = .ok (.iand, 1) := by decide +kernel
theorem dX5_push_17 : decode cX5_push 17 = .ok (.iastore, 1) := by decide +kernel
theorem dX5_push_18 : decode cX5_push 18 = .ok (.aload_n 0, 1) := by decide +kernel
theorem dX5_push_19 : decode cX5_push 19 = .ok (.aload_n 0, 1) := by decide +kernel
theorem dX5_push_20 : decode cX5_push 20 = .ok (.getfield 13, 3) := by decide +kernel
theorem dX5_push_23 : decode cX5_push 23 = .ok (.iconst 4, 1) := by decide +kernel
theorem dX5_push_24 : decode cX5_push 24 = .ok (.iaload, 1) := by decide +kernel
theorem dX5_push_25 : decode cX5_push 25 = .ok (.iload_n 1, 1) := by decide +kernel
theorem dX5_push_26 : decode cX5_push 26 = .ok (.invokevirtual 120, 3) := by decide +kernel
theorem dX5_push_29 : decode cX5_push 29 = .ok (.return_, 1) := by decide +kernel
theorem dX5_pop_0 : decode cX5_pop 0 = .ok (.aload_n 0, 1) := by decide +kernel
theorem dX5_pop_1 : decode cX5_pop 1 = .ok (.getfield 7, 3) := by decide +kernel
theorem dX5_pop_4 : decode cX5_pop 4 = .ok (.aload_n 0, 1) := by decide +kernel
theorem dX5_pop_5 : decode cX5_pop 5 = .ok (.getfield 13, 3) := by decide +kernel
theorem dX5_pop_8 : decode cX5_pop 8 = .ok (.iconst 4, 1) := by decide +kernel
theorem dX5_pop_9 : decode cX5_pop 9 = .ok (.iaload, 1) := by decide +kernel
theorem dX5_pop_10 : decode cX5_pop 10 = .ok (.iaload, 1) := by decide +kernel
theorem dX5_pop_11 : decode cX5_pop 11 = .ok (.istore_n 1, 1) := by decide +kernel
theorem dX5_pop_12 : decode cX5_pop 12 = .ok (.aload_n 0, 1) := by decide +kernel
theorem dX5_pop_13 : decode cX5_pop 13 = .ok (.getfield 13, 3) := by decide +kernel
theorem dX5_pop_16 : decode cX5_pop 16 = .ok (.iconst 4, 1) := by decide +kernel
theorem dX5_pop_17 : decode cX5_pop 17 = .ok (.aload_n 0, 1) := by decide +kernel
theorem dX5_pop_18 : decode cX5_pop 18 = .ok (.getfield 13, 3) := by decide +kernel
theorem dX5_pop_21 : decode cX5_pop 21 = .ok (.iconst 4, 1) := by decide +kernel
theorem dX5_pop_22 : decode cX5_pop 22 = .ok (.iaload, 1) := by decide +kernel
theorem dX5_pop_23 : decode cX5_pop 23 = .ok (.iconst 1, 1) := by decide +kernel
theorem dX5_pop_24 : decode cX5_pop 24 = .ok (.iadd, 1) := by decide +kernel
theorem dX5_pop_25 : decode cX5_pop 25 = .ok (.sipush 255, 3) := by decide +kernel
theorem dX5_pop_28 : decode cX5_pop 28 = .ok (.iand, 1) := by decide +kernel
theorem dX5_pop_29 : decode cX5_pop 29 = .ok (.iastore, 1) := by decide +kernel
theorem dX5_pop_30 : decode cX5_pop 30 = .ok (.iload_n 1, 1) := by decide +kernel
theorem dX5_pop_31 : decode cX5_pop 31 = .ok (.ireturn, 1) := by decide +kernel
theorem dX5_goes_0 : decode cX5_goes 0 = .ok (.iload_n 1, 1) := by decide +kernel
theorem dX5_goes_1 : decode cX5_goes 1 = .ok (.ifCond .eq 81, 3) := by decide +kernel
theorem dX5_goes_4 : decode cX5_goes 4 = .ok (.iload_n 1, 1) := by decide +kernel
theorem dX5_goes_5 : decode cX5_goes 5 = .ok (.iconst 3, 1) := by decide +kernel
theorem dX5_goes_6 : decode cX5_goes 6 = .ok (.if_icmp .ge 21, 3) := by decide +kernel
theorem dX5_goes_9 : decode cX5_goes 9 = .ok (.aload_n 0, 1) := by decide +kernel
theorem dX5_goes_10 : decode cX5_goes 10 = .ok (.getfield 13, 3) := by decide +kernel
theorem dX5_goes_13 : decode cX5_goes 13 = .ok (.iconst 5, 1) := by decide +kernel
theorem dX5_goes_14 : decode cX5_goes 14 = .ok (.iaload, 1) := by decide +kernel
theorem dX5_goes_15 : decode cX5_goes 15 = .ok (.iconst 1, 1) := by decide +kernel
theorem dX5_goes_16 : decode cX5_goes 16 = .ok (.if_icmp .ne 7, 3) := by decide +kernel
theorem dX5_goes_19 : decode cX5_goes 19 = .ok (.iconst 1, 1) := by decide +kernel
theorem dX5_goes_20 : decode cX5_goes 20 = .ok (.goto 47, 3) := by decide +kernel
theorem dX5_goes_23 : decode cX5_goes 23 = .ok (.iconst 0, 1) := by decide +kernel
theorem dX5_goes_24 : decode cX5_goes 24 = .ok (.goto 43, 3) := by decide +kernel
theorem dX5_goes_27 : decode cX5_goes 27 = .ok (.iload_n 1, 1) := by decide +kernel
theorem dX5_goes_28 : decode cX5_goes 28 = .ok (.iconst 5, 1) := by decide +kernel
theorem dX5_goes_29 : decode cX5_goes 29 = .ok (.if_icmp .ge 22, 3) := by decide +kernel
theorem dX5_goes_32 : decode cX5_goes 32 = .ok (.aload_n 0, 1) := by decide +kernel
theorem dX5_goes_33 : decode cX5_goes 33 = .ok (.getfield 13, 3) := by decide +kernel
theorem dX5_goes_36 : decode cX5_goes 36 = .ok (.bipush 6, 2) := by decide +kernel
theorem dX5_goes_38 : decode cX5_goes 38 = .ok (.iaload, 1) := by decide +kernel
theorem dX5_goes_39 : decode cX5_goes 39 = .ok (.iconst 1, 1) := by decide +kernel
theorem dX5_goes_40 : decode cX5_goes 40 = .ok (.if_icmp .ne 7, 3) := by decide +kernel
theorem dX5_goes_43 : decode cX5_goes 43 = .ok (.iconst 1, 1) := by decide +kernel
theorem dX5_goes_44 : decode cX5_goes 44 = .ok (.goto 23, 3) := by decide +kernel
theorem dX5_goes_47 : decode cX5_goes 47 = .ok (.iconst 0, 1) := by decide +kernel
theorem dX5_goes_48 : decode cX5_goes 48 = .ok (.goto 19, 3) := by decide +kernel
theorem dX5_goes_51 : decode cX5_goes 51 = .ok (.aload_n 0, 1) := by decide +kernel
theorem dX5_goes_52 : decode cX5_goes 52 = .ok (.getfield 13, 3) := by decide +kernel
theorem dX5_goes_55 : decode cX5_goes 55 = .ok (.bipush 7, 2) := by decide +kernel
theorem dX5_goes_57 : decode cX5_goes 57 = .ok (.iaload, 1) := by decide +kernel
theorem dX5_goes_58 : decode cX5_goes 58 = .ok (.iconst 1, 1) := by decide +kernel
theorem dX5_goes_59 : decode cX5_goes 59 = .ok (.if_icmp .ne 7, 3) := by decide +kernel
theorem dX5_goes_62 : decode cX5_goes 62 = .ok (.iconst 1, 1) := by decide +kernel
theorem dX5_goes_63 : decode cX5_goes 63 = .ok (.goto 4, 3) := by decide +kernel
theorem dX5_goes_66 : decode cX5_goes 66 = .ok (.iconst 0, 1) := by decide +kernel
theorem dX5_goes_67 : decode cX5_goes 67 = .ok (.iload_n 1, 1) := by decide +kernel
theorem dX5_goes_68 : decode cX5_goes 68 = .ok (.iconst 2, 1) := by decide +kernel
theorem dX5_goes_69 : decode cX5_goes 69 = .ok (.irem, 1) := by decide +kernel
theorem dX5_goes_70 : decode cX5_goes 70 = .ok (.iconst 1, 1) := by decide +kernel
theorem dX5_goes_71 : decode cX5_goes 71 = .ok (.if_icmp .ne 7, 3) := by decide +kernel
theorem dX5_goes_74 : decode cX5_goes 74 = .ok (.iconst 1, 1) := by decide +kernel
theorem dX5_goes_75 : decode cX5_goes 75 = .ok (.goto 4, 3) := by decide +kernel
theorem dX5_goes_78 : decode cX5_goes 78 = .ok (.iconst 0, 1) := by decide +kernel
theorem dX5_goes_79 : decode cX5_goes 79 = .ok (.if_icmp .ne 7, 3) := by decide +kernel
theorem dX5_goes_82 : decode cX5_goes 82 = .ok (.iconst 1, 1) := by decide +kernel
theorem dX5_goes_83 : decode cX5_goes 83 = .ok (.goto 4, 3) := by decide +kernel
theorem dX5_goes_86 : decode cX5_goes 86 = .ok (.iconst 0, 1) := by decide +kernel
theorem dX5_goes_87 : decode cX5_goes 87 = .ok (.ireturn, 1) := by decide +kernel
set_option maxRecDepth 100000 in
theorem ggX5_add_X5_setFlags : GoodIn wsX5_add wsX5_setFlags := goodIn_r _ [6, 1, 7, 8, 9, 10, 11, 12, 13, 14, 15, 16, 17, 18, 19, 20, 21, 22, 23, 24, 25, 26, 27, 28, 29, 30, 31, 32, 33] rfl (by decide +kernel)
set_option maxRecDepth 100000 in
theorem gX5_add_X5_setFlags : GoodIn wsX5_add (wsV RX5 124 RX5 yX5_setFlags wsX5_setFlags) := goodIn_app (goodIn_of _ (by decide +kernel)) ggX5_add_X5_setFlags
theorem dX5_add_0 : decode cX5_add 0 = .ok (.aload_n 0, 1) := by decide +kernel
theorem dX5_add_1 : decode cX5_add 1 = .ok (.getfield 13, 3) := by decide +kernel
theorem dX5_add_4 : decode cX5_add 4 = .ok (.iload_n 1, 1) := by decide +kernel
theorem dX5_add_5 : decode cX5_add 5 = .ok (.iaload, 1) := by decide +kernel
theorem dX5_add_6 : decode cX5_add 6 = .ok (.iload_n 2, 1) := by decide +kernel
theorem dX5_add_7 : decode cX5_add 7 = .ok (.iadd, 1) := by decide +kernel
theorem dX5_add_8 : decode cX5_add 8 = .ok (.iload_n 3, 1) := by decide +kernel
theorem dX5_add_9 : decode cX5_add 9 = .ok (.iadd, 1) := by decide +kernel
theorem dX5_add_10 : decode cX5_add 10 = .ok (.istore 4, 2) := by decide +kernel
theorem dX5_add_12 : decode cX5_add 12 = .ok (.aload_n 0, 1) := by decide +kernel
theorem dX5_add_13 : decode cX5_add 13 = .ok (.iload 4, 2) := by decide +kernel
theorem dX5_add_15 : decode cX5_add 15 = .ok (.iload 4, 2) := by decide +kernel
theorem dX5_add_17 : decode cX5_add 17 = .ok (.bipush 8, 2) := by decide +kernel
theorem dX5_add_19 : decode cX5_add 19 = .ok (.ishr, 1) := by decide +kernel
theorem dX5_add_20 : decode cX5_add 20 = .ok (.invokevirtual 124, 3) := by decide +kernel
theorem dX5_add_23 : decode cX5_add 23 = .ok (.aload_n 0, 1) := by decide +kernel
theorem dX5_add_24 : decode cX5_add 24 = .ok (.getfield 13, 3) := by decide +kernel
theorem dX5_add_27 : decode cX5_add 27 = .ok (.iload_n 1, 1) := by decide +kernel
theorem dX5_add_28 : decode cX5_add 28 = .ok (.iload 4, 2) := by decide +kernel
theorem dX5_add_30 : decode cX5_add 30 = .ok (.sipush 255, 3) := by decide +kernel
theorem dX5_add_33 : decode cX5_add 33 = .ok (.iand, 1) := by decide +kernel
theorem dX5_add_34 : decode cX5_add 34 = .ok (.iastore, 1) := by decide +kernel
theorem dX5_add_35 : decode cX5_add 35 = .ok (.return_, 1) := by decide +kernel
set_option maxRecDepth 100000 in
theorem ggX5_less_X5_setFlags : GoodIn wsX5_less wsX5_setFlags := goodIn_r _ [5, 6, 7, 8, 9, 10, 11, 12, 13, 14, 15, 16, 17, 18, 19, 20, 21, 22, 23, 24, 25, 26, 27, 28, 29, 30, 31, 32, 33] rfl (by decide +kernel)
set_option maxRecDepth 100000 in
theorem gX5_less_X5_setFlags : GoodIn wsX5_less (wsV RX5 124 RX5 yX5_setFlags wsX5_setFlags) := goodIn_app (goodIn_of _ (by decide +kernel)) ggX5_less_X5_setFlags
theorem dX5_less_0 : decode cX5_less 0 = .ok (.iload_n 1, 1) := by decide +kernel
theorem dX5_less_1 : decode cX5_less 1 = .ok (.iload_n 2, 1) := by decide +kernel
theorem dX5_less_2 : decode cX5_less 2 = .ok (.isub, 1) := by decide +kernel
theorem dX5_less_3 : decode cX5_less 3 = .ok (.istore_n 3, 1) := by decide +kernel
theorem dX5_less_4 : decode cX5_less 4 = .ok (.aload_n 0, 1) := by decide +kernel
theorem dX5_less_5 : decode cX5_less 5 = .ok (.iload_n 3, 1) := by decide +kernel
theorem dX5_less_6 : decode cX5_less 6 = .ok (.sipush 255, 3) := by decide +kernel
theorem dX5_less_9 : decode cX5_less 9 = .ok (.iand, 1) := by decide +kernel
theorem dX5_less_10 : decode cX5_less 10 = .ok (.iload_n 3, 1) := by decide +kernel
theorem dX5_less_11 : decode cX5_less 11 = .ok (.ifCond .ge 7, 3) := by decide +kernel
theorem dX5_less_14 : decode cX5_less 14 = .ok (.iconst 1, 1) := by decide +kernel
theorem dX5_less_15 : decode cX5_less 15 = .ok (.goto 4, 3) := by decide +kernel
theorem dX5_less_18 : decode cX5_less 18 = .ok (.iconst 0, 1) := by decide +kernel
theorem dX5_less_19 : decode cX5_less 19 = .ok (.invokevirtual 124, 3) := by decide +kernel
theorem dX5_less_22 : decode cX5_less 22 = .ok (.iload_n 3, 1) := by decide +kernel
theorem dX5_less_23 : decode cX5_less 23 = .ok (.sipush 255, 3) := by decide +kernel
theorem dX5_less_26 : decode cX5_less 26 = .ok (.iand, 1) := by decide +kernel
theorem dX5_less_27 : decode cX5_less 27 = .ok (.ireturn, 1) := by decide +kernel
set_option maxRecDepth 100000 in
theorem ggX5_shift_X5_setFlags : GoodIn wsX5_shift wsX5_setFlags := goodIn_r _ [6, 1, 7, 8, 9, 10, 11, 12, 13, 14, 15, 16, 17, 18, 19, 20, 21, 22, 23, 24, 25, 26, 27, 28, 29, 30, 31, 32, 33] rfl (by decide +kernel)
set_option maxRecDepth 100000 in
theorem gX5_shift_X5_setFlags : GoodIn wsX5_shift (wsV RX5 124 RX5 yX5_setFlags wsX5_setFlags) := goodIn_app (goodIn_of _ (by decide +kernel)) ggX5_shift_X5_setFlags
theorem dX5_shift_0 : decode cX5_shift 0 = .ok (.aload_n 0, 1) := by decide +kernel
theorem dX5_shift_1 : decode cX5_shift 1 = .ok (.getfield 13, 3) := by decide +kernel
theorem dX5_shift_4 : decode cX5_shift 4 = .ok (.iload_n 1, 1) := by decide +kernel
theorem dX5_shift_5 : decode cX5_shift 5 = .ok (.iaload, 1) := by decide +kernel
theorem dX5_shift_6 : decode cX5_shift 6 = .ok (.istore_n 3, 1) := by decide +kernel
theorem dX5_shift_7 : decode cX5_shift 7 = .ok (.iload_n 2, 1) := by decide +kernel
theorem dX5_shift_8 : decode cX5_shift 8 = .ok (.bipush 13, 2) := by decide +kernel
theorem dX5_shift_10 : decode cX5_shift 10 = .ok (.if_icmp .eq 9, 3) := by decide +kernel
theorem dX5_shift_13 : decode cX5_shift 13 = .ok (.iload_n 2, 1) := by decide +kernel
theorem dX5_shift_14 : decode cX5_shift 14 = .ok (.bipush 15, 2) := by decide +kernel
theorem dX5_shift_16 : decode cX5_shift 16 = .ok (.if_icmp .ne 7, 3) := by decide +kernel
theorem dX5_shift_19 : decode cX5_shift 19 = .ok (.iconst 1, 1) := by decide +kernel
theorem dX5_shift_20 : decode cX5_shift 20 = .ok (.goto 4, 3) := by decide +kernel
theorem dX5_shift_23 : decode cX5_shift 23 = .ok (.iconst 0, 1) := by decide +kernel
theorem dX5_shift_24 : decode cX5_shift 24 = .ok (.istore 4, 2) := by decide +kernel
theorem dX5_shift_26 : decode cX5_shift 26 = .ok (.iload_n 2, 1) := by decide +kernel
theorem dX5_shift_27 : decode cX5_shift 27 = .ok (.bipush 15, 2) := by decide +kernel
theorem dX5_shift_29 : decode cX5_shift 29 = .ok (.if_icmp .eq 9, 3) := by decide +kernel
theorem dX5_shift_32 : decode cX5_shift 32 = .ok (.iload_n 2, 1) := by decide +kernel
theorem dX5_shift_33 : decode cX5_shift 33 = .ok (.bipush 16, 2) := by decide +kernel
theorem dX5_shift_35 : decode cX5_shift 35 = .ok (.if_icmp .ne 13, 3) := by decide +kernel
theorem dX5_shift_38 : decode cX5_shift 38 = .ok (.aload_n 0, 1) := by decide +kernel
theorem dX5_shift_39 : decode cX5_shift 39 = .ok (.getfield 13, 3) := by decide +kernel
theorem dX5_shift_42 : decode cX5_shift 42 = .ok (.bipush 6, 2) := by decide +kernel
theorem dX5_shift_44 : decode cX5_shift 44 = .ok (.iaload, 1) := by decide +kernel
theorem dX5_shift_45 : decode cX5_shift 45 = .ok (.goto 4, 3) := by decide +kernel
theorem dX5_shift_48 : decode cX5_shift 48 = .ok (.iconst 0, 1) := by decide +kernel
theorem dX5_shift_49 : decode cX5_shift 49 = .ok (.istore 5, 2) := by decide +kernel
theorem dX5_shift_51 : decode cX5_shift 51 = .ok (.iload 4, 2) := by decide +kernel
theorem dX5_shift_53 : decode cX5_shift 53 = .ok (.ifCond .eq 16, 3) := by decide +kernel
theorem dX5_shift_56 : decode cX5_shift 56 = .ok (.iload_n 3, 1) := by decide +kernel
theorem dX5_shift_57 : decode cX5_shift 57 = .ok (.iconst 1, 1) := by decide +kernel
theorem dX5_shift_58 : decode cX5_shift 58 = .ok (.ishl, 1) := by decide +kernel
theorem dX5_shift_59 : decode cX5_shift 59 = .ok (.sipush 255, 3) := by decide +kernel
theorem dX5_shift_62 : decode cX5_shift 62 = .ok (.iand, 1) := by decide +kernel
theorem dX5_shift_63 : decode cX5_shift 63 = .ok (.iload 5, 2) := by decide +kernel
theorem dX5_shift_65 : decode cX5_shift 65 = .ok (.ior, 1) := by decide +kernel
theorem dX5_shift_66 : decode cX5_shift 66 = .ok (.goto 12, 3) := by decide +kernel
theorem dX5_shift_69 : decode cX5_shift 69 = .ok (.iload_n 3, 1) := by decide +kernel
theorem dX5_shift_70 : decode cX5_shift 70 = .ok (.iconst 1, 1) := by decide +kernel
theorem dX5_shift_71 : decode cX5_shift 71 = .ok (.ishr, 1) := by decide +kernel
theorem dX5_shift_72 : decode cX5_shift 72 = .ok (.iload 5, 2) := by decide +kernel
theorem dX5_shift_74 : decode cX5_shift 74 = .ok (.bipush 7, 2) := by decide +kernel
theorem dX5_shift_76 : decode cX5_shift 76 = .ok (.ishl, 1) := by decide +kernel
theorem dX5_shift_77 : decode cX5_shift 77 = .ok (.ior, 1) := by decide +kernel
theorem dX5_shift_78 : decode cX5_shift 78 = .ok (.istore 6, 2) := by decide +kernel
theorem dX5_shift_80 : decode cX5_shift 80 = .ok (.aload_n 0, 1) := by decide +kernel
theorem dX5_shift_81 : decode cX5_shift 81 = .ok (.iload 6, 2) := by decide +kernel
theorem dX5_shift_83 : decode cX5_shift 83 = .ok (.iload 4, 2) := by decide +kernel
theorem dX5_shift_85 : decode cX5_shift 85 = .ok (.ifCond .eq 10, 3) := by decide +kernel
theorem dX5_shift_88 : decode cX5_shift 88 = .ok (.iload_n 3, 1) := by decide +kernel
theorem dX5_shift_89 : decode cX5_shift 89 = .ok (.bipush 7, 2) := by decide +kernel
theorem dX5_shift_91 : decode cX5_shift 91 = .ok (.ishr, 1) := by decide +kernel
theorem dX5_shift_92 : decode cX5_shift 92 = .ok (.goto 6, 3) := by decide +kernel
theorem dX5_shift_95 : decode cX5_shift 95 = .ok (.iload_n 3, 1) := by decide +kernel
theorem dX5_shift_96 : decode cX5_shift 96 = .ok (.iconst 1, 1) := by decide +kernel
theorem dX5_shift_97 : decode cX5_shift 97 = .ok (.iand, 1) := by decide +kernel
theorem dX5_shift_98 : decode cX5_shift 98 = .ok (.invokevirtual 124, 3) := by decide +kernel
theorem dX5_shift_101 : decode cX5_shift 101 = .ok (.aload_n 0, 1) := by decide +kernel
theorem dX5_shift_102 : decode cX5_shift 102 = .ok (.getfield 13, 3) := by decide +kernel
theorem dX5_shift_105 : decode cX5_shift 105 = .ok (.iload_n 1, 1) := by decide +kernel
theorem dX5_shift_106 : decode cX5_shift 106 = .ok (.iload 6, 2) := by decide +kernel
theorem dX5_shift_108 : decode cX5_shift 108 = .ok (.iastore, 1) := by decide +kernel
theorem dX5_shift_109 : decode cX5_shift 109 = .ok (.return_, 1) := by decide +kernel
set_option maxRecDepth 100000 in
theorem ggX5_step_X5_look : GoodIn wsX5_step wsX5_look := goodIn_r _ [12, 1, 5, 3, 13, 14, 11, 15, 68, 69, 70, 71, 72, 73, 74, 75, 76, 77, 78, 79, 80, 81, 82, 83, 84, 85, 86, 87, 88, 89, 90, 91, 92, 93, 94] rfl (by decide +kernel)
set_option maxRecDepth 100000 in
theorem gX5_step_X5_look : GoodIn wsX5_step (wsV RX5 88 RX5 yX5_look wsX5_look) := goodIn_app (goodIn_of _ (by decide +kernel)) ggX5_step_X5_look
set_option maxRecDepth 100000 in
theorem ggX5_step_X5_receive : GoodIn wsX5_step wsX5_receive := goodIn_r _ [19, 2, 20, 21, 68, 69, 70, 71, 72, 73, 74, 75, 76, 77, 78, 79, 80, 81, 82, 83, 84, 85, 86, 87, 88, 89, 90, 91, 92, 93, 94] rfl (by decide +kernel)
set_option maxRecDepth 100000 in
theorem gX5_step_X5_receive : GoodIn wsX5_step (wsV RX5 131 RX5 yX5_receive wsX5_receive) := goodIn_app (goodIn_of _ (by decide +kernel)) ggX5_step_X5_receive
set_option maxRecDepth 100000 in
theorem ggX5_step_X5_add : GoodIn wsX5_step wsX5_add := goodIn_r _ [25, 2, 26, 27, 28, 11, 29, 68, 69, 70, 71, 72, 73, 74, 75, 76, 77, 78, 79, 80, 81, 82, 83, 84, 85, 86, 87, 88, 89, 90, 91, 92, 93, 94] rfl (by decide +kernel)
set_option maxRecDepth 100000 in
theorem gX5_step_X5_add : GoodIn wsX5_step (wsV RX5 134 RX5 yX5_add wsX5_add) := goodIn_app (goodIn_of _ (by decide +kernel)) ggX5_step_X5_add
set_option maxRecDepth 100000 in
theorem ggX5_step_X5_less : GoodIn wsX5_step wsX5_less := goodIn_r _ [33, 26, 27, 28, 11, 29, 2, 68, 69, 70, 71, 72, 73, 74, 75, 76, 77, 78, 79, 80, 81, 82, 83, 84, 85, 86, 87, 88, 89, 90, 91, 92, 93, 94] rfl (by decide +kernel)
set_option maxRecDepth 100000 in
theorem gX5_step_X5_less : GoodIn wsX5_step (wsV RX5 138 RX5 yX5_less wsX5_less) := goodIn_app (goodIn_of _ (by decide +kernel)) ggX5_step_X5_less
set_option maxRecDepth 100000 in
theorem ggX5_step_X5_setFlags : GoodIn wsX5_step wsX5_setFlags := goodIn_r _ [29, 2, 68, 69, 70, 71, 72, 73, 74, 75, 76, 77, 78, 79, 80, 81, 82, 83, 84, 85, 86, 87, 88, 89, 90, 91, 92, 93, 94] rfl (by decide +kernel)
set_option maxRecDepth 100000 in
theorem gX5_step_X5_setFlags : GoodIn wsX5_step (wsV RX5 124 RX5 yX5_setFlags wsX5_setFlags) := goodIn_app (goodIn_of _ (by decide +kernel)) ggX5_step_X5_setFlags
set_option maxRecDepth 100000 in
theorem ggX5_step_X5_shift : GoodIn wsX5_step wsX5_shift := goodIn_r _ [37, 2, 26, 27, 28, 11, 29, 68, 69, 70, 71, 72, 73, 74, 75, 76, 77, 78, 79, 80, 81, 82, 83, 84, 85, 86, 87, 88, 89, 90, 91, 92, 93, 94] rfl (by decide +kernel)
set_option maxRecDepth 100000 in
theorem gX5_step_X5_shift : GoodIn wsX5_step (wsV RX5 142 RX5 yX5_shift wsX5_shift) := goodIn_app (goodIn_of _ (by decide +kernel)) ggX5_step_X5_shift
set_option maxRecDepth 100000 in
theorem ggX5_step_X5_stepOn : GoodIn wsX5_step wsX5_stepOn := goodIn_r _ [41, 5, 2, 1, 22, 23, 24, 11, 25, 26, 27, 28, 29, 30, 31, 32, 33, 42, 43, 44, 45, 4, 46, 47, 48, 49, 50, 51, 52, 53, 54, 55, 56, 57, 58, 59, 60, 61, 62, 63, 64, 65, 66, 67, 68, 69, 70, 71, 72, 73, 74, 75, 76, 77, 78, 79, 80, 81, 82, 83, 84, 85, 86, 87, 88, 89, 90, 91, 92, 93, 94] rfl (by decide +kernel)
set_option maxRecDepth 100000 in
theorem gX5_step_X5_stepOn : GoodIn wsX5_step (wsV RX5 145 RX5 yX5_stepOn wsX5_stepOn) := goodIn_app (goodIn_of _ (by decide +kernel)) ggX5_step_X5_stepOn
theorem dX5_step_0 : decode cX5_step 0 = .ok (.aload_n 0, 1) := by decide +kernel
theorem dX5_step_1 : decode cX5_step 1 = .ok (.getfield 7, 3) := by decide +kernel
theorem dX5_step_4 : decode cX5_step 4 = .ok (.aload_n 0, 1) := by decide +kernel
theorem dX5_step_5 : decode cX5_step 5 = .ok (.getfield 13, 3) := by decide +kernel
theorem dX5_step_8 : decode cX5_step 8 = .ok (.bipush 9, 2) := by decide +kernel
theorem dX5_step_10 : decode cX5_step 10 = .ok (.iaload, 1) := by decide +kernel
theorem dX5_step_11 : decode cX5_step 11 = .ok (.iaload, 1) := by decide +kernel
theorem dX5_step_12 : decode cX5_step 12 = .ok (.istore_n 1, 1) := by decide +kernel
theorem dX5_step_13 : decode cX5_step 13 = .ok (.aload_n 0, 1) := by decide +kernel
theorem dX5_step_14 : decode cX5_step 14 = .ok (.aload_n 0, 1) := by decide +kernel
theorem dX5_step_15 : decode cX5_step 15 = .ok (.getfield 13, 3) := by decide +kernel
theorem dX5_step_18 : decode cX5_step 18 = .ok (.bipush 9, 2) := by decide +kernel
theorem dX5_step_20 : decode cX5_step 20 = .ok (.iaload, 1) := by decide +kernel
theorem dX5_step_21 : decode cX5_step 21 = .ok (.invokevirtual 88, 3) := by decide +kernel
theorem dX5_step_24 : decode cX5_step 24 = .ok (.aload_n 0, 1) := by decide +kernel
theorem dX5_step_25 : decode cX5_step 25 = .ok (.getfield 7, 3) := by decide +kernel
theorem dX5_step_28 : decode cX5_step 28 = .ok (.aload_n 0, 1) := by decide +kernel
theorem dX5_step_29 : decode cX5_step 29 = .ok (.getfield 13, 3) := by decide +kernel
theorem dX5_step_32 : decode cX5_step 32 = .ok (.bipush 9, 2) := by decide +kernel
theorem dX5_step_34 : decode cX5_step 34 = .ok (.iaload, 1) := by decide +kernel
theorem dX5_step_35 : decode cX5_step 35 = .ok (.iconst 1, 1) := by decide +kernel
theorem dX5_step_36 : decode cX5_step 36 = .ok (.iadd, 1) := by decide +kernel
theorem dX5_step_37 : decode cX5_step 37 = .ok (.sipush 255, 3) := by decide +kernel
theorem dX5_step_40 : decode cX5_step 40 = .ok (.iand, 1) := by decide +kernel
theorem dX5_step_41 : decode cX5_step 41 = .ok (.iaload, 1) := by decide +kernel
theorem dX5_step_42 : decode cX5_step 42 = .ok (.istore_n 2, 1) := by decide +kernel
theorem dX5_step_43 : decode cX5_step 43 = .ok (.iload_n 1, 1) := by decide +kernel
theorem dX5_step_44 : decode cX5_step 44 = .ok (.iconst 2, 1) := by decide +kernel
theorem dX5_step_45 : decode cX5_step 45 = .ok (.ishr, 1) := by decide +kernel
theorem dX5_step_46 : decode cX5_step 46 = .ok (.iconst 3, 1) := by decide +kernel
theorem dX5_step_47 : decode cX5_step 47 = .ok (.iand, 1) := by decide +kernel
theorem dX5_step_48 : decode cX5_step 48 = .ok (.istore_n 3, 1) := by decide +kernel
theorem dX5_step_49 : decode cX5_step 49 = .ok (.iload_n 1, 1) := by decide +kernel
theorem dX5_step_50 : decode cX5_step 50 = .ok (.iconst 3, 1) := by decide +kernel
theorem dX5_step_51 : decode cX5_step 51 = .ok (.iand, 1) := by decide +kernel
theorem dX5_step_52 : decode cX5_step 52 = .ok (.istore 4, 2) := by decide +kernel
theorem dX5_step_54 : decode cX5_step 54 = .ok (.aload_n 0, 1) := by decide +kernel
theorem dX5_step_55 : decode cX5_step 55 = .ok (.getfield 13, 3) := by decide +kernel
theorem dX5_step_58 : decode cX5_step 58 = .ok (.bipush 9, 2) := by decide +kernel
theorem dX5_step_60 : decode cX5_step 60 = .ok (.iaload, 1) := by decide +kernel
theorem dX5_step_61 : decode cX5_step 61 = .ok (.aload_n 0, 1) := by decide +kernel
theorem dX5_step_62 : decode cX5_step 62 = .ok (.getfield 69, 3) := by decide +kernel
theorem dX5_step_65 : decode cX5_step 65 = .ok (.iadd, 1) := by decide +kernel
theorem dX5_step_66 : decode cX5_step 66 = .ok (.sipush 255, 3) := by decide +kernel
theorem dX5_step_69 : decode cX5_step 69 = .ok (.iand, 1) := by decide +kernel
theorem dX5_step_70 : decode cX5_step 70 = .ok (.istore 5, 2) := by decide +kernel
theorem dX5_step_72 : decode cX5_step 72 = .ok (.aload_n 0, 1) := by decide +kernel
theorem dX5_step_73 : decode cX5_step 73 = .ok (.getfield 13, 3) := by decide +kernel
theorem dX5_step_76 : decode cX5_step 76 = .ok (.bipush 9, 2) := by decide +kernel
theorem dX5_step_78 : decode cX5_step 78 = .ok (.iload 5, 2) := by decide +kernel
theorem dX5_step_80 : decode cX5_step 80 = .ok (.iastore, 1) := by decide +kernel
theorem dX5_step_81 : decode cX5_step 81 = .ok (.aload_n 0, 1) := by decide +kernel
theorem dX5_step_82 : decode cX5_step 82 = .ok (.getfield 50, 3) := by decide +kernel
theorem dX5_step_85 : decode cX5_step 85 = .ok (.iconst 0, 1) := by decide +kernel
theorem dX5_step_86 : decode cX5_step 86 = .ok (.dup2, 1) := by decide +kernel
theorem dX5_step_87 : decode cX5_step 87 = .ok (.iaload, 1) := by decide +kernel
theorem dX5_step_88 : decode cX5_step 88 = .ok (.iconst 1, 1) := by decide +kernel
theorem dX5_step_89 : decode cX5_step 89 = .ok (.iadd, 1) := by decide +kernel
theorem dX5_step_90 : decode cX5_step 90 = .ok (.iastore, 1) := by decide +kernel
theorem dX5_step_91 : decode cX5_step 91 = .ok (.aload_n 0, 1) := by decide +kernel
theorem dX5_step_92 : decode cX5_step 92 = .ok (.getfield 66, 3) := by decide +kernel
theorem dX5_step_95 : decode cX5_step 95 = .ok (.tableswitch 338 1 16 #[77, 93, 137, 144, 144, 167, 183, 183, 218, 244, 266, 266, 326, 326, 326, 326], 77) := by decide +kernel
theorem dX5_step_172 : decode cX5_step 172 = .ok (.aload_n 0, 1) := by decide +kernel
theorem dX5_step_173 : decode cX5_step 173 = .ok (.iconst 1, 1) := by decide +kernel
theorem dX5_step_174 : decode cX5_step 174 = .ok (.putfield 127, 3) := by decide +kernel
theorem dX5_step_177 : decode cX5_step 177 = .ok (.aload_n 0, 1) := by decide +kernel
theorem dX5_step_178 : decode cX5_step 178 = .ok (.getfield 50, 3) := by decide +kernel
theorem dX5_step_181 : decode cX5_step 181 = .ok (.bipush 11, 2) := by decide +kernel
theorem dX5_step_183 : decode cX5_step 183 = .ok (.iconst 1, 1) := by decide +kernel
theorem dX5_step_184 : decode cX5_step 184 = .ok (.iastore, 1) := by decide +kernel
theorem dX5_step_185 : decode cX5_step 185 = .ok (.goto 262, 3) := by decide +kernel
theorem dX5_step_188 : decode cX5_step 188 = .ok (.aload_n 0, 1) := by decide +kernel
theorem dX5_step_189 : decode cX5_step 189 = .ok (.getfield 50, 3) := by decide +kernel
theorem dX5_step_192 : decode cX5_step 192 = .ok (.bipush 10, 2) := by decide +kernel
theorem dX5_step_194 : decode cX5_step 194 = .ok (.iaload, 1) := by decide +kernel
theorem dX5_step_195 : decode cX5_step 195 = .ok (.bipush 100, 2) := by decide +kernel
theorem dX5_step_197 : decode cX5_step 197 = .ok (.if_icmp .ge 21, 3) := by decide +kernel
theorem dX5_step_200 : decode cX5_step 200 = .ok (.aload_n 0, 1) := by decide +kernel
theorem dX5_step_201 : decode cX5_step 201 = .ok (.getfield 26, 3) := by decide +kernel
theorem dX5_step_204 : decode cX5_step 204 = .ok (.aload_n 0, 1) := by decide +kernel
theorem dX5_step_205 : decode cX5_step 205 = .ok (.getfield 50, 3) := by decide +kernel
theorem dX5_step_208 : decode cX5_step 208 = .ok (.bipush 10, 2) := by decide +kernel
theorem dX5_step_210 : decode cX5_step 210 = .ok (.iaload, 1) := by decide +kernel
theorem dX5_step_211 : decode cX5_step 211 = .ok (.aload_n 0, 1) := by decide +kernel
theorem dX5_step_212 : decode cX5_step 212 = .ok (.getfield 13, 3) := by decide +kernel
theorem dX5_step_215 : decode cX5_step 215 = .ok (.iconst 0, 1) := by decide +kernel
theorem dX5_step_216 : decode cX5_step 216 = .ok (.iaload, 1) := by decide +kernel
theorem dX5_step_217 : decode cX5_step 217 = .ok (.iastore, 1) := by decide +kernel
theorem dX5_step_218 : decode cX5_step 218 = .ok (.aload_n 0, 1) := by decide +kernel
theorem dX5_step_219 : decode cX5_step 219 = .ok (.getfield 50, 3) := by decide +kernel
theorem dX5_step_222 : decode cX5_step 222 = .ok (.bipush 10, 2) := by decide +kernel
theorem dX5_step_224 : decode cX5_step 224 = .ok (.dup2, 1) := by decide +kernel
theorem dX5_step_225 : decode cX5_step 225 = .ok (.iaload, 1) := by decide +kernel
theorem dX5_step_226 : decode cX5_step 226 = .ok (.iconst 1, 1) := by decide +kernel
theorem dX5_step_227 : decode cX5_step 227 = .ok (.iadd, 1) := by decide +kernel
theorem dX5_step_228 : decode cX5_step 228 = .ok (.iastore, 1) := by decide +kernel
theorem dX5_step_229 : decode cX5_step 229 = .ok (.goto 218, 3) := by decide +kernel
theorem dX5_step_232 : decode cX5_step 232 = .ok (.aload_n 0, 1) := by decide +kernel
theorem dX5_step_233 : decode cX5_step 233 = .ok (.invokevirtual 131, 3) := by decide +kernel
theorem dX5_step_236 : decode cX5_step 236 = .ok (.goto 211, 3) := by decide +kernel
theorem dX5_step_239 : decode cX5_step 239 = .ok (.aload_n 0, 1) := by decide +kernel
theorem dX5_step_240 : decode cX5_step 240 = .ok (.getfield 13, 3) := by decide +kernel
theorem dX5_step_243 : decode cX5_step 243 = .ok (.bipush 8, 2) := by decide +kernel
theorem dX5_step_245 : decode cX5_step 245 = .ok (.aload_n 0, 1) := by decide +kernel
theorem dX5_step_246 : decode cX5_step 246 = .ok (.getfield 66, 3) := by decide +kernel
theorem dX5_step_249 : decode cX5_step 249 = .ok (.iconst 4, 1) := by decide +kernel
theorem dX5_step_250 : decode cX5_step 250 = .ok (.if_icmp .ne 7, 3) := by decide +kernel
theorem dX5_step_253 : decode cX5_step 253 = .ok (.iconst 1, 1) := by decide +kernel
theorem dX5_step_254 : decode cX5_step 254 = .ok (.goto 4, 3) := by decide +kernel
theorem dX5_step_257 : decode cX5_step 257 = .ok (.iconst 0, 1) := by decide +kernel
theorem dX5_step_258 : decode cX5_step 258 = .ok (.iastore, 1) := by decide +kernel
theorem dX5_step_259 : decode cX5_step 259 = .ok (.goto 188, 3) := by decide +kernel
theorem dX5_step_262 : decode cX5_step 262 = .ok (.aload_n 0, 1) := by decide +kernel
theorem dX5_step_263 : decode cX5_step 263 = .ok (.getfield 13, 3) := by decide +kernel
theorem dX5_step_266 : decode cX5_step 266 = .ok (.iload_n 3, 1) := by decide +kernel
theorem dX5_step_267 : decode cX5_step 267 = .ok (.aload_n 0, 1) := by decide +kernel
theorem dX5_step_268 : decode cX5_step 268 = .ok (.getfield 13, 3) := by decide +kernel
theorem dX5_step_271 : decode cX5_step 271 = .ok (.iload 4, 2) := by decide +kernel
theorem dX5_step_273 : decode cX5_step 273 = .ok (.iaload, 1) := by decide +kernel
theorem dX5_step_274 : decode cX5_step 274 = .ok (.iastore, 1) := by decide +kernel
theorem dX5_step_275 : decode cX5_step 275 = .ok (.goto 172, 3) := by decide +kernel
theorem dX5_step_278 : decode cX5_step 278 = .ok (.aload_n 0, 1) := by decide +kernel
theorem dX5_step_279 : decode cX5_step 279 = .ok (.iload_n 3, 1) := by decide +kernel
theorem dX5_step_280 : decode cX5_step 280 = .ok (.aload_n 0, 1) := by decide +kernel
theorem dX5_step_281 : decode cX5_step 281 = .ok (.getfield 13, 3) := by decide +kernel
theorem dX5_step_284 : decode cX5_step 284 = .ok (.iload 4, 2) := by decide +kernel
theorem dX5_step_286 : decode cX5_step 286 = .ok (.iaload, 1) := by decide +kernel
theorem dX5_step_287 : decode cX5_step 287 = .ok (.aload_n 0, 1) := by decide +kernel
theorem dX5_step_288 : decode cX5_step 288 = .ok (.getfield 66, 3) := by decide +kernel
theorem dX5_step_291 : decode cX5_step 291 = .ok (.bipush 8, 2) := by decide +kernel
theorem dX5_step_293 : decode cX5_step 293 = .ok (.if_icmp .ne 13, 3) := by decide +kernel
theorem dX5_step_296 : decode cX5_step 296 = .ok (.aload_n 0, 1) := by decide +kernel
theorem dX5_step_297 : decode cX5_step 297 = .ok (.getfield 13, 3) := by decide +kernel
theorem dX5_step_300 : decode cX5_step 300 = .ok (.bipush 6, 2) := by decide +kernel
theorem dX5_step_302 : decode cX5_step 302 = .ok (.iaload, 1) := by decide +kernel
theorem dX5_step_303 : decode cX5_step 303 = .ok (.goto 4, 3) := by decide +kernel
theorem dX5_step_306 : decode cX5_step 306 = .ok (.iconst 0, 1) := by decide +kernel
theorem dX5_step_307 : decode cX5_step 307 = .ok (.invokevirtual 134, 3) := by decide +kernel
theorem dX5_step_310 : decode cX5_step 310 = .ok (.goto 137, 3) := by decide +kernel
theorem dX5_step_313 : decode cX5_step 313 = .ok (.aload_n 0, 1) := by decide +kernel
theorem dX5_step_314 : decode cX5_step 314 = .ok (.getfield 13, 3) := by decide +kernel
theorem dX5_step_317 : decode cX5_step 317 = .ok (.iload_n 3, 1) := by decide +kernel
theorem dX5_step_318 : decode cX5_step 318 = .ok (.aload_n 0, 1) := by decide +kernel
theorem dX5_step_319 : decode cX5_step 319 = .ok (.aload_n 0, 1) := by decide +kernel
theorem dX5_step_320 : decode cX5_step 320 = .ok (.getfield 13, 3) := by decide +kernel
theorem dX5_step_323 : decode cX5_step 323 = .ok (.iload_n 3, 1) := by decide +kernel
theorem dX5_step_324 : decode cX5_step 324 = .ok (.iaload, 1) := by decide +kernel
theorem dX5_step_325 : decode cX5_step 325 = .ok (.aload_n 0, 1) := by decide +kernel
theorem dX5_step_326 : decode cX5_step 326 = .ok (.getfield 13, 3) := by decide +kernel
theorem dX5_step_329 : decode cX5_step 329 = .ok (.iload 4, 2) := by decide +kernel
theorem dX5_step_331 : decode cX5_step 331 = .ok (.iaload, 1) := by decide +kernel
theorem dX5_step_332 : decode cX5_step 332 = .ok (.invokevirtual 138, 3) := by decide +kernel
theorem dX5_step_335 : decode cX5_step 335 = .ok (.iastore, 1) := by decide +kernel
theorem dX5_step_336 : decode cX5_step 336 = .ok (.goto 111, 3) := by decide +kernel
theorem dX5_step_339 : decode cX5_step 339 = .ok (.aload_n 0, 1) := by decide +kernel
theorem dX5_step_340 : decode cX5_step 340 = .ok (.aload_n 0, 1) := by decide +kernel
theorem dX5_step_341 : decode cX5_step 341 = .ok (.getfield 13, 3) := by decide +kernel
theorem dX5_step_344 : decode cX5_step 344 = .ok (.iload_n 3, 1) := by decide +kernel
theorem dX5_step_345 : decode cX5_step 345 = .ok (.iaload, 1) := by decide +kernel
theorem dX5_step_346 : decode cX5_step 346 = .ok (.aload_n 0, 1) := by decide +kernel
theorem dX5_step_347 : decode cX5_step 347 = .ok (.getfield 13, 3) := by decide +kernel
theorem dX5_step_350 : decode cX5_step 350 = .ok (.iload 4, 2) := by decide +kernel
theorem dX5_step_352 : decode cX5_step 352 = .ok (.iaload, 1) := by decide +kernel
theorem dX5_step_353 : decode cX5_step 353 = .ok (.invokevirtual 138, 3) := by decide +kernel
theorem dX5_step_356 : decode cX5_step 356 = .ok (.istore 6, 2) := by decide +kernel
theorem dX5_step_358 : decode cX5_step 358 = .ok (.goto 89, 3) := by decide +kernel
theorem dX5_step_361 : decode cX5_step 361 = .ok (.aload_n 0, 1) := by decide +kernel
theorem dX5_step_362 : decode cX5_step 362 = .ok (.getfield 13, 3) := by decide +kernel
theorem dX5_step_365 : decode cX5_step 365 = .ok (.iload_n 3, 1) := by decide +kernel
theorem dX5_step_366 : decode cX5_step 366 = .ok (.aload_n 0, 1) := by decide +kernel
theorem dX5_step_367 : decode cX5_step 367 = .ok (.getfield 66, 3) := by decide +kernel
theorem dX5_step_370 : decode cX5_step 370 = .ok (.bipush 11, 2) := by decide +kernel
theorem dX5_step_372 : decode cX5_step 372 = .ok (.if_icmp .ne 20, 3) := by decide +kernel
theorem dX5_step_375 : decode cX5_step 375 = .ok (.aload_n 0, 1) := by decide +kernel
theorem dX5_step_376 : decode cX5_step 376 = .ok (.getfield 13, 3) := by decide +kernel
theorem dX5_step_379 : decode cX5_step 379 = .ok (.iload_n 3, 1) := by decide +kernel
theorem dX5_step_380 : decode cX5_step 380 = .ok (.iaload, 1) := by decide +kernel
theorem dX5_step_381 : decode cX5_step 381 = .ok (.aload_n 0, 1) := by decide +kernel
theorem dX5_step_382 : decode cX5_step 382 = .ok (.getfield 13, 3) := by decide +kernel
theorem dX5_step_385 : decode cX5_step 385 = .ok (.iload 4, 2) := by decide +kernel
theorem dX5_step_387 : decode cX5_step 387 = .ok (.iaload, 1) := by decide +kernel
theorem dX5_step_388 : decode cX5_step 388 = .ok (.iand, 1) := by decide +kernel
theorem dX5_step_389 : decode cX5_step 389 = .ok (.goto 17, 3) := by decide +kernel
theorem dX5_step_392 : decode cX5_step 392 = .ok (.aload_n 0, 1) := by decide +kernel
theorem dX5_step_393 : decode cX5_step 393 = .ok (.getfield 13, 3) := by decide +kernel
theorem dX5_step_396 : decode cX5_step 396 = .ok (.iload_n 3, 1) := by decide +kernel
theorem dX5_step_397 : decode cX5_step 397 = .ok (.iaload, 1) := by decide +kernel
theorem dX5_step_398 : decode cX5_step 398 = .ok (.aload_n 0, 1) := by decide +kernel
theorem dX5_step_399 : decode cX5_step 399 = .ok (.getfield 13, 3) := by decide +kernel
theorem dX5_step_402 : decode cX5_step 402 = .ok (.iload 4, 2) := by decide +kernel
theorem dX5_step_404 : decode cX5_step 404 = .ok (.iaload, 1) := by decide +kernel
theorem dX5_step_405 : decode cX5_step 405 = .ok (.ixor, 1) := by decide +kernel
theorem dX5_step_406 : decode cX5_step 406 = .ok (.iastore, 1) := by decide +kernel
theorem dX5_step_407 : decode cX5_step 407 = .ok (.aload_n 0, 1) := by decide +kernel
theorem dX5_step_408 : decode cX5_step 408 = .ok (.aload_n 0, 1) := by decide +kernel
theorem dX5_step_409 : decode cX5_step 409 = .ok (.getfield 13, 3) := by decide +kernel
theorem dX5_step_412 : decode cX5_step 412 = .ok (.iload_n 3, 1) := by decide +kernel
theorem dX5_step_413 : decode cX5_step 413 = .ok (.iaload, 1) := by decide +kernel
theorem dX5_step_414 : decode cX5_step 414 = .ok (.iconst 0, 1) := by decide +kernel
theorem dX5_step_415 : decode cX5_step 415 = .ok (.invokevirtual 124, 3) := by decide +kernel
theorem dX5_step_418 : decode cX5_step 418 = .ok (.goto 29, 3) := by decide +kernel
theorem dX5_step_421 : decode cX5_step 421 = .ok (.aload_n 0, 1) := by decide +kernel
theorem dX5_step_422 : decode cX5_step 422 = .ok (.iload_n 3, 1) := by decide +kernel
theorem dX5_step_423 : decode cX5_step 423 = .ok (.aload_n 0, 1) := by decide +kernel
theorem dX5_step_424 : decode cX5_step 424 = .ok (.getfield 66, 3) := by decide +kernel
theorem dX5_step_427 : decode cX5_step 427 = .ok (.invokevirtual 142, 3) := by decide +kernel
theorem dX5_step_430 : decode cX5_step 430 = .ok (.goto 17, 3) := by decide +kernel
theorem dX5_step_433 : decode cX5_step 433 = .ok (.aload_n 0, 1) := by decide +kernel
theorem dX5_step_434 : decode cX5_step 434 = .ok (.iload_n 2, 1) := by decide +kernel
theorem dX5_step_435 : decode cX5_step 435 = .ok (.iload_n 3, 1) := by decide +kernel
theorem dX5_step_436 : decode cX5_step 436 = .ok (.iload 4, 2) := by decide +kernel
theorem dX5_step_438 : decode cX5_step 438 = .ok (.iload_n 1, 1) := by decide +kernel
theorem dX5_step_439 : decode cX5_step 439 = .ok (.bipush 15, 2) := by decide +kernel
theorem dX5_step_441 : decode cX5_step 441 = .ok (.iand, 1) := by decide +kernel
theorem dX5_step_442 : decode cX5_step 442 = .ok (.iload 5, 2) := by decide +kernel
theorem dX5_step_444 : decode cX5_step 444 = .ok (.invokevirtual 145, 3) := by decide +kernel
theorem dX5_step_447 : decode cX5_step 447 = .ok (.return_, 1) := by decide +kernel
set_option maxRecDepth 100000 in
theorem ggX5_stepOn_X5_add : GoodIn wsX5_stepOn wsX5_add := goodIn_r _ [8, 2, 9, 10, 11, 7, 12, 44, 45, 46, 47, 48, 49, 50, 51, 52, 53, 54, 55, 56, 57, 58, 59, 60, 61, 62, 63, 64, 65, 66, 67, 68, 69, 70] rfl (by decide +kernel)
set_option maxRecDepth 100000 in
theorem gX5_stepOn_X5_add : GoodIn wsX5_stepOn (wsV RX5 134 RX5 yX5_add wsX5_add) := goodIn_app (goodIn_of _ (by decide +kernel)) ggX5_stepOn_X5_add
set_option maxRecDepth 100000 in
theorem ggX5_stepOn_X5_less : GoodIn wsX5_stepOn wsX5_less := goodIn_r _ [16, 9, 10, 11, 7, 12, 2, 44, 45, 46, 47, 48, 49, 50, 51, 52, 53, 54, 55, 56, 57, 58, 59, 60, 61, 62, 63, 64, 65, 66, 67, 68, 69, 70] rfl (by decide +kernel)
set_option maxRecDepth 100000 in
theorem gX5_stepOn_X5_less : GoodIn wsX5_stepOn (wsV RX5 138 RX5 yX5_less wsX5_less) := goodIn_app (goodIn_of _ (by decide +kernel)) ggX5_stepOn_X5_less
set_option maxRecDepth 100000 in
theorem ggX5_stepOn_X5_setFlags : GoodIn wsX5_stepOn wsX5_setFlags := goodIn_r _ [12, 2, 44, 45, 46, 47, 48, 49, 50, 51, 52, 53, 54, 55, 56, 57, 58, 59, 60, 61, 62, 63, 64, 65, 66, 67, 68, 69, 70] rfl (by decide +kernel)
set_option maxRecDepth 100000 in
theorem gX5_stepOn_X5_setFlags : GoodIn wsX5_stepOn (wsV RX5 124 RX5 yX5_setFlags wsX5_setFlags) := goodIn_app (goodIn_of _ (by decide +kernel)) ggX5_stepOn_X5_setFlags
set_option maxRecDepth 100000 in
theorem ggX5_stepOn_X5_write : GoodIn wsX5_stepOn wsX5_write := goodIn_r _ [20, 3, 21, 22, 23, 24, 7, 25, 26, 27, 28, 29, 30, 31, 44, 45, 46, 47, 48, 49, 50, 51, 52, 53, 54, 55, 56, 57, 58, 59, 60, 61, 62, 63, 64, 65, 66, 67, 68, 69, 70] rfl (by decide +kernel)
set_option maxRecDepth 100000 in
theorem gX5_stepOn_X5_write : GoodIn wsX5_stepOn (wsV RX5 120 RX5 yX5_write wsX5_write) := goodIn_app (goodIn_of _ (by decide +kernel)) ggX5_stepOn_X5_write
set_option maxRecDepth 100000 in
theorem ggX5_stepOn_X5_goes : GoodIn wsX5_stepOn wsX5_goes := goodIn_r _ [35, 2, 44, 45, 46, 47, 48, 49, 50, 51, 52, 53, 54, 55, 56, 57, 58, 59, 60, 61, 62, 63, 64, 65, 66, 67, 68, 69, 70] rfl (by decide +kernel)
set_option maxRecDepth 100000 in
theorem gX5_stepOn_X5_goes : GoodIn wsX5_stepOn (wsV RX5 149 RX5 yX5_goes wsX5_goes) := goodIn_app (goodIn_of _ (by decide +kernel)) ggX5_stepOn_X5_goes
set_option maxRecDepth 100000 in
theorem ggX5_stepOn_X5_push : GoodIn wsX5_stepOn wsX5_push := goodIn_r _ [39, 2, 17, 18, 19, 7, 20, 3, 21, 22, 23, 24, 25, 26, 27, 28, 29, 30, 31, 44, 45, 46, 47, 48, 49, 50, 51, 52, 53, 54, 55, 56, 57, 58, 59, 60, 61, 62, 63, 64, 65, 66, 67, 68, 69, 70] rfl (by decide +kernel)
set_option maxRecDepth 100000 in
theorem gX5_stepOn_X5_push : GoodIn wsX5_stepOn (wsV RX5 152 RX5 yX5_push wsX5_push) := goodIn_app (goodIn_of _ (by decide +kernel)) ggX5_stepOn_X5_push
