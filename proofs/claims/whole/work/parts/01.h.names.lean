set_option maxRecDepth 100000 in
theorem ggX5_stepOn_X5_pop : GoodIn wsX5_stepOn wsX5_pop := goodIn_r _ [43, 3, 2, 44, 45, 46, 47, 48, 49, 50, 51, 52, 53, 54, 55, 56, 57, 58, 59, 60, 61, 62, 63, 64, 65, 66, 67, 68, 69, 70] rfl (by decide +kernel)
set_option maxRecDepth 100000 in
theorem gX5_stepOn_X5_pop : GoodIn wsX5_stepOn (wsV RX5 155 RX5 yX5_pop wsX5_pop) := goodIn_app (goodIn_of _ (by decide +kernel)) ggX5_stepOn_X5_pop
theorem dX5_stepOn_0 : decode cX5_stepOn 0 = .ok (.aload_n 0, 1) := by decide +kernel
theorem dX5_stepOn_1 : decode cX5_stepOn 1 = .ok (.getfield 66, 3) := by decide +kernel
theorem dX5_stepOn_4 : decode cX5_stepOn 4 = .ok (.tableswitch 257 17 27 #[60, 70, 80, 96, 124, 150, 175, 200, 217, 231, 244], 60) := by decide +kernel
theorem dX5_stepOn_64 : decode cX5_stepOn 64 = .ok (.aload_n 0, 1) := by decide +kernel
theorem dX5_stepOn_65 : decode cX5_stepOn 65 = .ok (.getfield 13, 3) := by decide +kernel
theorem dX5_stepOn_68 : decode cX5_stepOn 68 = .ok (.iload_n 2, 1) := by decide +kernel
theorem dX5_stepOn_69 : decode cX5_stepOn 69 = .ok (.iload_n 1, 1) := by decide +kernel
theorem dX5_stepOn_70 : decode cX5_stepOn 70 = .ok (.iastore, 1) := by decide +kernel
theorem dX5_stepOn_71 : decode cX5_stepOn 71 = .ok (.goto 230, 3) := by decide +kernel
theorem dX5_stepOn_74 : decode cX5_stepOn 74 = .ok (.aload_n 0, 1) := by decide +kernel
theorem dX5_stepOn_75 : decode cX5_stepOn 75 = .ok (.iload_n 2, 1) := by decide +kernel
theorem dX5_stepOn_76 : decode cX5_stepOn 76 = .ok (.iload_n 1, 1) := by decide +kernel
theorem dX5_stepOn_77 : decode cX5_stepOn 77 = .ok (.iconst 0, 1) := by decide +kernel
theorem dX5_stepOn_78 : decode cX5_stepOn 78 = .ok (.invokevirtual 134, 3) := by decide +kernel
theorem dX5_stepOn_81 : decode cX5_stepOn 81 = .ok (.goto 220, 3) := by decide +kernel
theorem dX5_stepOn_84 : decode cX5_stepOn 84 = .ok (.aload_n 0, 1) := by decide +kernel
theorem dX5_stepOn_85 : decode cX5_stepOn 85 = .ok (.aload_n 0, 1) := by decide +kernel
theorem dX5_stepOn_86 : decode cX5_stepOn 86 = .ok (.getfield 13, 3) := by decide +kernel
theorem dX5_stepOn_89 : decode cX5_stepOn 89 = .ok (.iload_n 2, 1) := by decide +kernel
theorem dX5_stepOn_90 : decode cX5_stepOn 90 = .ok (.iaload, 1) := by decide +kernel
theorem dX5_stepOn_91 : decode cX5_stepOn 91 = .ok (.iload_n 1, 1) := by decide +kernel
theorem dX5_stepOn_92 : decode cX5_stepOn 92 = .ok (.invokevirtual 138, 3) := by decide +kernel
theorem dX5_stepOn_95 : decode cX5_stepOn 95 = .ok (.istore 6, 2) := by decide +kernel
theorem dX5_stepOn_97 : decode cX5_stepOn 97 = .ok (.goto 204, 3) := by decide +kernel
theorem dX5_stepOn_100 : decode cX5_stepOn 100 = .ok (.aload_n 0, 1) := by decide +kernel
theorem dX5_stepOn_101 : decode cX5_stepOn 101 = .ok (.getfield 13, 3) := by decide +kernel
theorem dX5_stepOn_104 : decode cX5_stepOn 104 = .ok (.iload_n 2, 1) := by decide +kernel
theorem dX5_stepOn_105 : decode cX5_stepOn 105 = .ok (.aload_n 0, 1) := by decide +kernel
theorem dX5_stepOn_106 : decode cX5_stepOn 106 = .ok (.getfield 13, 3) := by decide +kernel
theorem dX5_stepOn_109 : decode cX5_stepOn 109 = .ok (.iload_n 2, 1) := by decide +kernel
theorem dX5_stepOn_110 : decode cX5_stepOn 110 = .ok (.iaload, 1) := by decide +kernel
theorem dX5_stepOn_111 : decode cX5_stepOn 111 = .ok (.iload_n 1, 1) := by decide +kernel
theorem dX5_stepOn_112 : decode cX5_stepOn 112 = .ok (.ixor, 1) := by decide +kernel
theorem dX5_stepOn_113 : decode cX5_stepOn 113 = .ok (.iastore, 1) := by decide +kernel
theorem dX5_stepOn_114 : decode cX5_stepOn 114 = .ok (.aload_n 0, 1) := by decide +kernel
theorem dX5_stepOn_115 : decode cX5_stepOn 115 = .ok (.aload_n 0, 1) := by decide +kernel
theorem dX5_stepOn_116 : decode cX5_stepOn 116 = .ok (.getfield 13, 3) := by decide +kernel
theorem dX5_stepOn_119 : decode cX5_stepOn 119 = .ok (.iload_n 2, 1) := by decide +kernel
theorem dX5_stepOn_120 : decode cX5_stepOn 120 = .ok (.iaload, 1) := by decide +kernel
theorem dX5_stepOn_121 : decode cX5_stepOn 121 = .ok (.iconst 0, 1) := by decide +kernel
theorem dX5_stepOn_122 : decode cX5_stepOn 122 = .ok (.invokevirtual 124, 3) := by decide +kernel
theorem dX5_stepOn_125 : decode cX5_stepOn 125 = .ok (.goto 176, 3) := by decide +kernel
theorem dX5_stepOn_128 : decode cX5_stepOn 128 = .ok (.aload_n 0, 1) := by decide +kernel
theorem dX5_stepOn_129 : decode cX5_stepOn 129 = .ok (.getfield 13, 3) := by decide +kernel
theorem dX5_stepOn_132 : decode cX5_stepOn 132 = .ok (.iload_n 2, 1) := by decide +kernel
theorem dX5_stepOn_133 : decode cX5_stepOn 133 = .ok (.aload_n 0, 1) := by decide +kernel
theorem dX5_stepOn_134 : decode cX5_stepOn 134 = .ok (.getfield 7, 3) := by decide +kernel
theorem dX5_stepOn_137 : decode cX5_stepOn 137 = .ok (.aload_n 0, 1) := by decide +kernel
theorem dX5_stepOn_138 : decode cX5_stepOn 138 = .ok (.getfield 13, 3) := by decide +kernel
theorem dX5_stepOn_141 : decode cX5_stepOn 141 = .ok (.iload_n 3, 1) := by decide +kernel
theorem dX5_stepOn_142 : decode cX5_stepOn 142 = .ok (.iaload, 1) := by decide +kernel
theorem dX5_stepOn_143 : decode cX5_stepOn 143 = .ok (.iload_n 1, 1) := by decide +kernel
theorem dX5_stepOn_144 : decode cX5_stepOn 144 = .ok (.iadd, 1) := by decide +kernel
theorem dX5_stepOn_145 : decode cX5_stepOn 145 = .ok (.sipush 255, 3) := by decide +kernel
theorem dX5_stepOn_148 : decode cX5_stepOn 148 = .ok (.iand, 1) := by decide +kernel
theorem dX5_stepOn_149 : decode cX5_stepOn 149 = .ok (.iaload, 1) := by decide +kernel
theorem dX5_stepOn_150 : decode cX5_stepOn 150 = .ok (.iastore, 1) := by decide +kernel
theorem dX5_stepOn_151 : decode cX5_stepOn 151 = .ok (.goto 150, 3) := by decide +kernel
theorem dX5_stepOn_154 : decode cX5_stepOn 154 = .ok (.aload_n 0, 1) := by decide +kernel
theorem dX5_stepOn_155 : decode cX5_stepOn 155 = .ok (.aload_n 0, 1) := by decide +kernel
theorem dX5_stepOn_156 : decode cX5_stepOn 156 = .ok (.getfield 13, 3) := by decide +kernel
theorem dX5_stepOn_159 : decode cX5_stepOn 159 = .ok (.iload_n 3, 1) := by decide +kernel
theorem dX5_stepOn_160 : decode cX5_stepOn 160 = .ok (.iaload, 1) := by decide +kernel
theorem dX5_stepOn_161 : decode cX5_stepOn 161 = .ok (.iload_n 1, 1) := by decide +kernel
theorem dX5_stepOn_162 : decode cX5_stepOn 162 = .ok (.iadd, 1) := by decide +kernel
theorem dX5_stepOn_163 : decode cX5_stepOn 163 = .ok (.sipush 255, 3) := by decide +kernel
theorem dX5_stepOn_166 : decode cX5_stepOn 166 = .ok (.iand, 1) := by decide +kernel
theorem dX5_stepOn_167 : decode cX5_stepOn 167 = .ok (.aload_n 0, 1) := by decide +kernel
theorem dX5_stepOn_168 : decode cX5_stepOn 168 = .ok (.getfield 13, 3) := by decide +kernel
theorem dX5_stepOn_171 : decode cX5_stepOn 171 = .ok (.iload_n 2, 1) := by decide +kernel
theorem dX5_stepOn_172 : decode cX5_stepOn 172 = .ok (.iaload, 1) := by decide +kernel
theorem dX5_stepOn_173 : decode cX5_stepOn 173 = .ok (.invokevirtual 120, 3) := by decide +kernel
theorem dX5_stepOn_176 : decode cX5_stepOn 176 = .ok (.goto 125, 3) := by decide +kernel
theorem dX5_stepOn_179 : decode cX5_stepOn 179 = .ok (.aload_n 0, 1) := by decide +kernel
theorem dX5_stepOn_180 : decode cX5_stepOn 180 = .ok (.getfield 13, 3) := by decide +kernel
theorem dX5_stepOn_183 : decode cX5_stepOn 183 = .ok (.bipush 9, 2) := by decide +kernel
theorem dX5_stepOn_185 : decode cX5_stepOn 185 = .ok (.aload_n 0, 1) := by decide +kernel
theorem dX5_stepOn_186 : decode cX5_stepOn 186 = .ok (.iload 4, 2) := by decide +kernel
theorem dX5_stepOn_188 : decode cX5_stepOn 188 = .ok (.invokevirtual 149, 3) := by decide +kernel
theorem dX5_stepOn_191 : decode cX5_stepOn 191 = .ok (.ifCond .eq 7, 3) := by decide +kernel
theorem dX5_stepOn_194 : decode cX5_stepOn 194 = .ok (.iload_n 1, 1) := by decide +kernel
theorem dX5_stepOn_195 : decode cX5_stepOn 195 = .ok (.goto 5, 3) := by decide +kernel
theorem dX5_stepOn_198 : decode cX5_stepOn 198 = .ok (.iload 5, 2) := by decide +kernel
theorem dX5_stepOn_200 : decode cX5_stepOn 200 = .ok (.iastore, 1) := by decide +kernel
theorem dX5_stepOn_201 : decode cX5_stepOn 201 = .ok (.goto 100, 3) := by decide +kernel
theorem dX5_stepOn_204 : decode cX5_stepOn 204 = .ok (.aload_n 0, 1) := by decide +kernel
theorem dX5_stepOn_205 : decode cX5_stepOn 205 = .ok (.iload 5, 2) := by decide +kernel
theorem dX5_stepOn_207 : decode cX5_stepOn 207 = .ok (.invokevirtual 152, 3) := by decide +kernel
theorem dX5_stepOn_210 : decode cX5_stepOn 210 = .ok (.aload_n 0, 1) := by decide +kernel
theorem dX5_stepOn_211 : decode cX5_stepOn 211 = .ok (.getfield 13, 3) := by decide +kernel
theorem dX5_stepOn_214 : decode cX5_stepOn 214 = .ok (.bipush 9, 2) := by decide +kernel
theorem dX5_stepOn_216 : decode cX5_stepOn 216 = .ok (.iload_n 1, 1) := by decide +kernel
theorem dX5_stepOn_217 : decode cX5_stepOn 217 = .ok (.iastore, 1) := by decide +kernel
theorem dX5_stepOn_218 : decode cX5_stepOn 218 = .ok (.goto 83, 3) := by decide +kernel
theorem dX5_stepOn_221 : decode cX5_stepOn 221 = .ok (.aload_n 0, 1) := by decide +kernel
theorem dX5_stepOn_222 : decode cX5_stepOn 222 = .ok (.getfield 13, 3) := by decide +kernel
theorem dX5_stepOn_225 : decode cX5_stepOn 225 = .ok (.bipush 9, 2) := by decide +kernel
theorem dX5_stepOn_227 : decode cX5_stepOn 227 = .ok (.aload_n 0, 1) := by decide +kernel
theorem dX5_stepOn_228 : decode cX5_stepOn 228 = .ok (.invokevirtual 155, 3) := by decide +kernel
theorem dX5_stepOn_231 : decode cX5_stepOn 231 = .ok (.iastore, 1) := by decide +kernel
theorem dX5_stepOn_232 : decode cX5_stepOn 232 = .ok (.goto 69, 3) := by decide +kernel
theorem dX5_stepOn_235 : decode cX5_stepOn 235 = .ok (.aload_n 0, 1) := by decide +kernel
theorem dX5_stepOn_236 : decode cX5_stepOn 236 = .ok (.aload_n 0, 1) := by decide +kernel
theorem dX5_stepOn_237 : decode cX5_stepOn 237 = .ok (.getfield 13, 3) := by decide +kernel
theorem dX5_stepOn_240 : decode cX5_stepOn 240 = .ok (.iload_n 2, 1) := by decide +kernel
theorem dX5_stepOn_241 : decode cX5_stepOn 241 = .ok (.iaload, 1) := by decide +kernel
theorem dX5_stepOn_242 : decode cX5_stepOn 242 = .ok (.invokevirtual 152, 3) := by decide +kernel
theorem dX5_stepOn_245 : decode cX5_stepOn 245 = .ok (.goto 56, 3) := by decide +kernel
theorem dX5_stepOn_248 : decode cX5_stepOn 248 = .ok (.aload_n 0, 1) := by decide +kernel
theorem dX5_stepOn_249 : decode cX5_stepOn 249 = .ok (.getfield 13, 3) := by decide +kernel
theorem dX5_stepOn_252 : decode cX5_stepOn 252 = .ok (.iload_n 2, 1) := by decide +kernel
theorem dX5_stepOn_253 : decode cX5_stepOn 253 = .ok (.aload_n 0, 1) := by decide +kernel
theorem dX5_stepOn_254 : decode cX5_stepOn 254 = .ok (.invokevirtual 155, 3) := by decide +kernel
theorem dX5_stepOn_257 : decode cX5_stepOn 257 = .ok (.iastore, 1) := by decide +kernel
theorem dX5_stepOn_258 : decode cX5_stepOn 258 = .ok (.goto 43, 3) := by decide +kernel
theorem dX5_stepOn_261 : decode cX5_stepOn 261 = .ok (.aload_n 0, 1) := by decide +kernel
theorem dX5_stepOn_262 : decode cX5_stepOn 262 = .ok (.getfield 13, 3) := by decide +kernel
theorem dX5_stepOn_265 : decode cX5_stepOn 265 = .ok (.iload_n 2, 1) := by decide +kernel
theorem dX5_stepOn_266 : decode cX5_stepOn 266 = .ok (.aload_n 0, 1) := by decide +kernel
theorem dX5_stepOn_267 : decode cX5_stepOn 267 = .ok (.getfield 13, 3) := by decide +kernel
theorem dX5_stepOn_270 : decode cX5_stepOn 270 = .ok (.iload_n 2, 1) := by decide +kernel
theorem dX5_stepOn_271 : decode cX5_stepOn 271 = .ok (.iaload, 1) := by decide +kernel
theorem dX5_stepOn_272 : decode cX5_stepOn 272 = .ok (.iconst 1, 1) := by decide +kernel
theorem dX5_stepOn_273 : decode cX5_stepOn 273 = .ok (.isub, 1) := by decide +kernel
theorem dX5_stepOn_274 : decode cX5_stepOn 274 = .ok (.sipush 255, 3) := by decide +kernel
theorem dX5_stepOn_277 : decode cX5_stepOn 277 = .ok (.iand, 1) := by decide +kernel
theorem dX5_stepOn_278 : decode cX5_stepOn 278 = .ok (.iastore, 1) := by decide +kernel
theorem dX5_stepOn_279 : decode cX5_stepOn 279 = .ok (.aload_n 0, 1) := by decide +kernel
theorem dX5_stepOn_280 : decode cX5_stepOn 280 = .ok (.getfield 13, 3) := by decide +kernel
theorem dX5_stepOn_283 : decode cX5_stepOn 283 = .ok (.bipush 9, 2) := by decide +kernel
theorem dX5_stepOn_285 : decode cX5_stepOn 285 = .ok (.aload_n 0, 1) := by decide +kernel
theorem dX5_stepOn_286 : decode cX5_stepOn 286 = .ok (.getfield 13, 3) := by decide +kernel
theorem dX5_stepOn_289 : decode cX5_stepOn 289 = .ok (.iload_n 2, 1) := by decide +kernel
theorem dX5_stepOn_290 : decode cX5_stepOn 290 = .ok (.iaload, 1) := by decide +kernel
theorem dX5_stepOn_291 : decode cX5_stepOn 291 = .ok (.ifCond .eq 7, 3) := by decide +kernel
theorem dX5_stepOn_294 : decode cX5_stepOn 294 = .ok (.iload_n 1, 1) := by decide +kernel
theorem dX5_stepOn_295 : decode cX5_stepOn 295 = .ok (.goto 5, 3) := by decide +kernel
theorem dX5_stepOn_298 : decode cX5_stepOn 298 = .ok (.iload 5, 2) := by decide +kernel
theorem dX5_stepOn_300 : decode cX5_stepOn 300 = .ok (.iastore, 1) := by decide +kernel
theorem dX5_stepOn_301 : decode cX5_stepOn 301 = .ok (.return_, 1) := by decide +kernel
theorem dX5_receive_0 : decode cX5_receive 0 = .ok (.aload_n 0, 1) := by decide +kernel
theorem dX5_receive_1 : decode cX5_receive 1 = .ok (.getfield 13, 3) := by decide +kernel
theorem dX5_receive_4 : decode cX5_receive 4 = .ok (.iconst 0, 1) := by decide +kernel
theorem dX5_receive_5 : decode cX5_receive 5 = .ok (.iconst 0, 1) := by decide +kernel
theorem dX5_receive_6 : decode cX5_receive 6 = .ok (.iastore, 1) := by decide +kernel
theorem dX5_receive_7 : decode cX5_receive 7 = .ok (.aload_n 0, 1) := by decide +kernel
theorem dX5_receive_8 : decode cX5_receive 8 = .ok (.getfield 159, 3) := by decide +kernel
theorem dX5_receive_11 : decode cX5_receive 11 = .ok (.ifCond .le 55, 3) := by decide +kernel
theorem dX5_receive_14 : decode cX5_receive 14 = .ok (.aload_n 0, 1) := by decide +kernel
theorem dX5_receive_15 : decode cX5_receive 15 = .ok (.getfield 13, 3) := by decide +kernel
theorem dX5_receive_18 : decode cX5_receive 18 = .ok (.iconst 0, 1) := by decide +kernel
theorem dX5_receive_19 : decode cX5_receive 19 = .ok (.aload_n 0, 1) := by decide +kernel
theorem dX5_receive_20 : decode cX5_receive 20 = .ok (.getfield 16, 3) := by decide +kernel
theorem dX5_receive_23 : decode cX5_receive 23 = .ok (.iconst 0, 1) := by decide +kernel
theorem dX5_receive_24 : decode cX5_receive 24 = .ok (.iaload, 1) := by decide +kernel
theorem dX5_receive_25 : decode cX5_receive 25 = .ok (.iastore, 1) := by decide +kernel
theorem dX5_receive_26 : decode cX5_receive 26 = .ok (.aload_n 0, 1) := by decide +kernel
theorem dX5_receive_27 : decode cX5_receive 27 = .ok (.dup, 1) := by decide +kernel
theorem dX5_receive_28 : decode cX5_receive 28 = .ok (.getfield 159, 3) := by decide +kernel
theorem dX5_receive_31 : decode cX5_receive 31 = .ok (.iconst 1, 1) := by decide +kernel
theorem dX5_receive_32 : decode cX5_receive 32 = .ok (.isub, 1) := by decide +kernel
theorem dX5_receive_33 : decode cX5_receive 33 = .ok (.putfield 159, 3) := by decide +kernel
theorem dX5_receive_36 : decode cX5_receive 36 = .ok (.iconst 0, 1) := by decide +kernel
theorem dX5_receive_37 : decode cX5_receive 37 = .ok (.istore_n 1, 1) := by decide +kernel
theorem dX5_receive_38 : decode cX5_receive 38 = .ok (.iload_n 1, 1) := by decide +kernel
theorem dX5_receive_39 : decode cX5_receive 39 = .ok (.aload_n 0, 1) := by decide +kernel
theorem dX5_receive_40 : decode cX5_receive 40 = .ok (.getfield 159, 3) := by decide +kernel
theorem dX5_receive_43 : decode cX5_receive 43 = .ok (.if_icmp .ge 23, 3) := by decide +kernel
theorem dX5_receive_46 : decode cX5_receive 46 = .ok (.aload_n 0, 1) := by decide +kernel
theorem dX5_receive_47 : decode cX5_receive 47 = .ok (.getfield 16, 3) := by decide +kernel
theorem dX5_receive_50 : decode cX5_receive 50 = .ok (.iload_n 1, 1) := by decide +kernel
theorem dX5_receive_51 : decode cX5_receive 51 = .ok (.aload_n 0, 1) := by decide +kernel
theorem dX5_receive_52 : decode cX5_receive 52 = .ok (.getfield 16, 3) := by decide +kernel
theorem dX5_receive_55 : decode cX5_receive 55 = .ok (.iload_n 1, 1) := by decide +kernel
theorem dX5_receive_56 : decode cX5_receive 56 = .ok (.iconst 1, 1) := by decide +kernel
theorem dX5_receive_57 : decode cX5_receive 57 = .ok (.iadd, 1) := by decide +kernel
theorem dX5_receive_58 : decode cX5_receive 58 = .ok (.iaload, 1) := by decide +kernel
theorem dX5_receive_59 : decode cX5_receive 59 = .ok (.iastore, 1) := by decide +kernel
theorem dX5_receive_60 : decode cX5_receive 60 = .ok (.iinc 1 1, 3) := by decide +kernel
theorem dX5_receive_63 : decode cX5_receive 63 = .ok (.goto (-25), 3) := by decide +kernel
theorem dX5_receive_66 : decode cX5_receive 66 = .ok (.return_, 1) := by decide +kernel
set_option maxRecDepth 100000 in
theorem ggX5_interrupt_X5_push : GoodIn wsX5_interrupt wsX5_push := goodIn_r _ [10, 1, 11, 12, 13, 9, 14, 15, 4, 16, 17, 18, 19, 20, 21, 22, 23, 24, 25, 26, 27, 28, 29, 30, 31, 32, 33, 34, 35, 36, 37, 38, 39, 40, 41, 42, 43, 44, 45, 46, 47, 48, 49, 50, 51, 52] rfl (by decide +kernel)
set_option maxRecDepth 100000 in
theorem gX5_interrupt_X5_push : GoodIn wsX5_interrupt (wsV RX5 152 RX5 yX5_push wsX5_push) := goodIn_app (goodIn_of _ (by decide +kernel)) ggX5_interrupt_X5_push
theorem dX5_interrupt_0 : decode cX5_interrupt 0 = .ok (.aload_n 0, 1) := by decide +kernel
theorem dX5_interrupt_1 : decode cX5_interrupt 1 = .ok (.getfield 13, 3) := by decide +kernel
theorem dX5_interrupt_4 : decode cX5_interrupt 4 = .ok (.bipush 8, 2) := by decide +kernel
theorem dX5_interrupt_6 : decode cX5_interrupt 6 = .ok (.iconst 0, 1) := by decide +kernel
theorem dX5_interrupt_7 : decode cX5_interrupt 7 = .ok (.iastore, 1) := by decide +kernel
theorem dX5_interrupt_8 : decode cX5_interrupt 8 = .ok (.aload_n 0, 1) := by decide +kernel
theorem dX5_interrupt_9 : decode cX5_interrupt 9 = .ok (.dup, 1) := by decide +kernel
theorem dX5_interrupt_10 : decode cX5_interrupt 10 = .ok (.getfield 162, 3) := by decide +kernel
theorem dX5_interrupt_13 : decode cX5_interrupt 13 = .ok (.iconst 1, 1) := by decide +kernel
theorem dX5_interrupt_14 : decode cX5_interrupt 14 = .ok (.isub, 1) := by decide +kernel
theorem dX5_interrupt_15 : decode cX5_interrupt 15 = .ok (.putfield 162, 3) := by decide +kernel
theorem dX5_interrupt_18 : decode cX5_interrupt 18 = .ok (.iconst 0, 1) := by decide +kernel
theorem dX5_interrupt_19 : decode cX5_interrupt 19 = .ok (.istore_n 1, 1) := by decide +kernel
theorem dX5_interrupt_20 : decode cX5_interrupt 20 = .ok (.iload_n 1, 1) := by decide +kernel
theorem dX5_interrupt_21 : decode cX5_interrupt 21 = .ok (.aload_n 0, 1) := by decide +kernel
theorem dX5_interrupt_22 : decode cX5_interrupt 22 = .ok (.getfield 162, 3) := by decide +kernel
theorem dX5_interrupt_25 : decode cX5_interrupt 25 = .ok (.if_icmp .ge 23, 3) := by decide +kernel
theorem dX5_interrupt_28 : decode cX5_interrupt 28 = .ok (.aload_n 0, 1) := by decide +kernel
theorem dX5_interrupt_29 : decode cX5_interrupt 29 = .ok (.getfield 19, 3) := by decide +kernel
theorem dX5_interrupt_32 : decode cX5_interrupt 32 = .ok (.iload_n 1, 1) := by decide +kernel
theorem dX5_interrupt_33 : decode cX5_interrupt 33 = .ok (.aload_n 0, 1) := by decide +kernel
theorem dX5_interrupt_34 : decode cX5_interrupt 34 = .ok (.getfield 19, 3) := by decide +kernel
theorem dX5_interrupt_37 : decode cX5_interrupt 37 = .ok (.iload_n 1, 1) := by decide +kernel
theorem dX5_interrupt_38 : decode cX5_interrupt 38 = .ok (.iconst 1, 1) := by decide +kernel
theorem dX5_interrupt_39 : decode cX5_interrupt 39 = .ok (.iadd, 1) := by decide +kernel
theorem dX5_interrupt_40 : decode cX5_interrupt 40 = .ok (.iaload, 1) := by decide +kernel
theorem dX5_interrupt_41 : decode cX5_interrupt 41 = .ok (.iastore, 1) := by decide +kernel
theorem dX5_interrupt_42 : decode cX5_interrupt 42 = .ok (.iinc 1 1, 3) := by decide +kernel
theorem dX5_interrupt_45 : decode cX5_interrupt 45 = .ok (.goto (-25), 3) := by decide +kernel
theorem dX5_interrupt_48 : decode cX5_interrupt 48 = .ok (.aload_n 0, 1) := by decide +kernel
theorem dX5_interrupt_49 : decode cX5_interrupt 49 = .ok (.aload_n 0, 1) := by decide +kernel
theorem dX5_interrupt_50 : decode cX5_interrupt 50 = .ok (.getfield 13, 3) := by decide +kernel
theorem dX5_interrupt_53 : decode cX5_interrupt 53 = .ok (.bipush 9, 2) := by decide +kernel
theorem dX5_interrupt_55 : decode cX5_interrupt 55 = .ok (.iaload, 1) := by decide +kernel
theorem dX5_interrupt_56 : decode cX5_interrupt 56 = .ok (.invokevirtual 152, 3) := by decide +kernel
theorem dX5_interrupt_59 : decode cX5_interrupt 59 = .ok (.aload_n 0, 1) := by decide +kernel
theorem dX5_interrupt_60 : decode cX5_interrupt 60 = .ok (.getfield 13, 3) := by decide +kernel
theorem dX5_interrupt_63 : decode cX5_interrupt 63 = .ok (.bipush 9, 2) := by decide +kernel
theorem dX5_interrupt_65 : decode cX5_interrupt 65 = .ok (.sipush 240, 3) := by decide +kernel
theorem dX5_interrupt_68 : decode cX5_interrupt 68 = .ok (.iastore, 1) := by decide +kernel
theorem dX5_interrupt_69 : decode cX5_interrupt 69 = .ok (.aload_n 0, 1) := by decide +kernel
theorem dX5_interrupt_70 : decode cX5_interrupt 70 = .ok (.getfield 50, 3) := by decide +kernel
theorem dX5_interrupt_73 : decode cX5_interrupt 73 = .ok (.bipush 8, 2) := by decide +kernel
theorem dX5_interrupt_75 : decode cX5_interrupt 75 = .ok (.dup2, 1) := by decide +kernel
theorem dX5_interrupt_76 : decode cX5_interrupt 76 = .ok (.iaload, 1) := by decide +kernel
theorem dX5_interrupt_77 : decode cX5_interrupt 77 = .ok (.iconst 1, 1) := by decide +kernel
theorem dX5_interrupt_78 : decode cX5_interrupt 78 = .ok (.iadd, 1) := by decide +kernel
theorem dX5_interrupt_79 : decode cX5_interrupt 79 = .ok (.iastore, 1) := by decide +kernel
theorem dX5_interrupt_80 : decode cX5_interrupt 80 = .ok (.aload_n 0, 1) := by decide +kernel
theorem dX5_interrupt_81 : decode cX5_interrupt 81 = .ok (.iconst (-1), 1) := by decide +kernel
theorem dX5_interrupt_82 : decode cX5_interrupt 82 = .ok (.putfield 56, 3) := by decide +kernel
theorem dX5_interrupt_85 : decode cX5_interrupt 85 = .ok (.return_, 1) := by decide +kernel
theorem dX5_isDisturbed_0 : decode cX5_isDisturbed 0 = .ok (.iconst 0, 1) := by decide +kernel
theorem dX5_isDisturbed_1 : decode cX5_isDisturbed 1 = .ok (.istore_n 2, 1) := by decide +kernel
theorem dX5_isDisturbed_2 : decode cX5_isDisturbed 2 = .ok (.iconst 0, 1) := by decide +kernel
theorem dX5_isDisturbed_3 : decode cX5_isDisturbed 3 = .ok (.istore_n 3, 1) := by decide +kernel
theorem dX5_isDisturbed_4 : decode cX5_isDisturbed 4 = .ok (.iload_n 3, 1) := by decide +kernel
theorem dX5_isDisturbed_5 : decode cX5_isDisturbed 5 = .ok (.aload_n 0, 1) := by decide +kernel
theorem dX5_isDisturbed_6 : decode cX5_isDisturbed 6 = .ok (.getfield 162, 3) := by decide +kernel
theorem dX5_isDisturbed_9 : decode cX5_isDisturbed 9 = .ok (.if_icmp .ge 53, 3) := by decide +kernel
theorem dX5_isDisturbed_12 : decode cX5_isDisturbed 12 = .ok (.iload_n 2, 1) := by decide +kernel
theorem dX5_isDisturbed_13 : decode cX5_isDisturbed 13 = .ok (.ifCond .ne 37, 3) := by decide +kernel
theorem dX5_isDisturbed_16 : decode cX5_isDisturbed 16 = .ok (.aload_n 0, 1) := by decide +kernel
theorem dX5_isDisturbed_17 : decode cX5_isDisturbed 17 = .ok (.getfield 19, 3) := by decide +kernel
theorem dX5_isDisturbed_20 : decode cX5_isDisturbed 20 = .ok (.iload_n 3, 1) := by decide +kernel
theorem dX5_isDisturbed_21 : decode cX5_isDisturbed 21 = .ok (.iaload, 1) := by decide +kernel
theorem dX5_isDisturbed_22 : decode cX5_isDisturbed 22 = .ok (.aload_n 0, 1) := by decide +kernel
theorem dX5_isDisturbed_23 : decode cX5_isDisturbed 23 = .ok (.getfield 50, 3) := by decide +kernel
theorem dX5_isDisturbed_26 : decode cX5_isDisturbed 26 = .ok (.iconst 0, 1) := by decide +kernel
theorem dX5_isDisturbed_27 : decode cX5_isDisturbed 27 = .ok (.iaload, 1) := by decide +kernel
theorem dX5_isDisturbed_28 : decode cX5_isDisturbed 28 = .ok (.if_icmp .le 26, 3) := by decide +kernel
theorem dX5_isDisturbed_31 : decode cX5_isDisturbed 31 = .ok (.aload_n 0, 1) := by decide +kernel
theorem dX5_isDisturbed_32 : decode cX5_isDisturbed 32 = .ok (.getfield 19, 3) := by decide +kernel
theorem dX5_isDisturbed_35 : decode cX5_isDisturbed 35 = .ok (.iload_n 3, 1) := by decide +kernel
theorem dX5_isDisturbed_36 : decode cX5_isDisturbed 36 = .ok (.iaload, 1) := by decide +kernel
theorem dX5_isDisturbed_37 : decode cX5_isDisturbed 37 = .ok (.aload_n 0, 1) := by decide +kernel
theorem dX5_isDisturbed_38 : decode cX5_isDisturbed 38 = .ok (.getfield 50, 3) := by decide +kernel
theorem dX5_isDisturbed_41 : decode cX5_isDisturbed 41 = .ok (.iconst 0, 1) := by decide +kernel
theorem dX5_isDisturbed_42 : decode cX5_isDisturbed 42 = .ok (.iaload, 1) := by decide +kernel
theorem dX5_isDisturbed_43 : decode cX5_isDisturbed 43 = .ok (.iload_n 1, 1) := by decide +kernel
theorem dX5_isDisturbed_44 : decode cX5_isDisturbed 44 = .ok (.iadd, 1) := by decide +kernel
theorem dX5_isDisturbed_45 : decode cX5_isDisturbed 45 = .ok (.iconst 1, 1) := by decide +kernel
theorem dX5_isDisturbed_46 : decode cX5_isDisturbed 46 = .ok (.isub, 1) := by decide +kernel
theorem dX5_isDisturbed_47 : decode cX5_isDisturbed 47 = .ok (.if_icmp .gt 7, 3) := by decide +kernel
theorem dX5_isDisturbed_50 : decode cX5_isDisturbed 50 = .ok (.iconst 1, 1) := by decide +kernel
theorem dX5_isDisturbed_51 : decode cX5_isDisturbed 51 = .ok (.goto 4, 3) := by decide +kernel
theorem dX5_isDisturbed_54 : decode cX5_isDisturbed 54 = .ok (.iconst 0, 1) := by decide +kernel
theorem dX5_isDisturbed_55 : decode cX5_isDisturbed 55 = .ok (.istore_n 2, 1) := by decide +kernel
theorem dX5_isDisturbed_56 : decode cX5_isDisturbed 56 = .ok (.iinc 3 1, 3) := by decide +kernel
theorem dX5_isDisturbed_59 : decode cX5_isDisturbed 59 = .ok (.goto (-55), 3) := by decide +kernel
theorem dX5_isDisturbed_62 : decode cX5_isDisturbed 62 = .ok (.iload_n 2, 1) := by decide +kernel
theorem dX5_isDisturbed_63 : decode cX5_isDisturbed 63 = .ok (.ireturn, 1) := by decide +kernel
theorem dX5_isLinked_0 : decode cX5_isLinked 0 = .ok (.aload_n 0, 1) := by decide +kernel
theorem dX5_isLinked_1 : decode cX5_isLinked 1 = .ok (.getfield 56, 3) := by decide +kernel
theorem dX5_isLinked_4 : decode cX5_isLinked 4 = .ok (.ifCond .lt 34, 3) := by decide +kernel
theorem dX5_isLinked_7 : decode cX5_isLinked 7 = .ok (.aload_n 0, 1) := by decide +kernel
theorem dX5_isLinked_8 : decode cX5_isLinked 8 = .ok (.getfield 29, 3) := by decide +kernel
theorem dX5_isLinked_11 : decode cX5_isLinked 11 = .ok (.iload_n 1, 1) := by decide +kernel
theorem dX5_isLinked_12 : decode cX5_isLinked 12 = .ok (.iaload, 1) := by decide +kernel
theorem dX5_isLinked_13 : decode cX5_isLinked 13 = .ok (.ifCond .le 25, 3) := by decide +kernel
theorem dX5_isLinked_16 : decode cX5_isLinked 16 = .ok (.aload_n 0, 1) := by decide +kernel
theorem dX5_isLinked_17 : decode cX5_isLinked 17 = .ok (.getfield 44, 3) := by decide +kernel
theorem dX5_isLinked_20 : decode cX5_isLinked 20 = .ok (.aload_n 0, 1) := by decide +kernel
theorem dX5_isLinked_21 : decode cX5_isLinked 21 = .ok (.getfield 56, 3) := by decide +kernel
theorem dX5_isLinked_24 : decode cX5_isLinked 24 = .ok (.iaload, 1) := by decide +kernel
theorem dX5_isLinked_25 : decode cX5_isLinked 25 = .ok (.aload_n 0, 1) := by decide +kernel
theorem dX5_isLinked_26 : decode cX5_isLinked 26 = .ok (.getfield 38, 3) := by decide +kernel
theorem dX5_isLinked_29 : decode cX5_isLinked 29 = .ok (.iload_n 1, 1) := by decide +kernel
theorem dX5_isLinked_30 : decode cX5_isLinked 30 = .ok (.iaload, 1) := by decide +kernel
theorem dX5_isLinked_31 : decode cX5_isLinked 31 = .ok (.if_icmp .ne 7, 3) := by decide +kernel
theorem dX5_isLinked_34 : decode cX5_isLinked 34 = .ok (.iconst 1, 1) := by decide +kernel
theorem dX5_isLinked_35 : decode cX5_isLinked 35 = .ok (.goto 4, 3) := by decide +kernel
theorem dX5_isLinked_38 : decode cX5_isLinked 38 = .ok (.iconst 0, 1) := by decide +kernel
theorem dX5_isLinked_39 : decode cX5_isLinked 39 = .ok (.ireturn, 1) := by decide +kernel
set_option maxRecDepth 100000 in
theorem ggX5_runBlock_X5_step : GoodIn wsX5_runBlock wsX5_step := goodIn_r _ [12, 13, 7, 14, 15, 6, 16, 17, 18, 19, 20, 11, 21, 22, 23, 24, 25, 26, 27, 28, 29, 30, 31, 32, 33, 34, 35, 36, 37, 38, 39, 40, 41, 42, 43, 44, 45, 46, 47, 48, 49, 50, 51, 52, 53, 54, 55, 56, 57, 58, 3, 59, 60, 61, 62, 63, 64, 65, 66, 67, 68, 69, 70, 71, 72, 73, 74, 75, 81, 82, 83, 84, 85, 86, 87, 88, 89, 90, 91, 92, 93, 94, 95, 96, 97, 98, 99, 100, 101, 102, 103, 104, 105, 106, 107] rfl (by decide +kernel)
set_option maxRecDepth 100000 in
theorem gX5_runBlock_X5_step : GoodIn wsX5_runBlock (wsV RX5 165 RX5 yX5_step wsX5_step) := goodIn_app (goodIn_of _ (by decide +kernel)) ggX5_runBlock_X5_step
set_option maxRecDepth 100000 in
theorem ggX5_runBlock_X5_leave : GoodIn wsX5_runBlock wsX5_leave := goodIn_r _ [79, 80, 4, 2, 81, 82, 83, 84, 85, 86, 87, 88, 89, 90, 91, 92, 93, 94, 95, 96, 97, 98, 99, 100, 101, 102, 103, 104, 105, 106, 107] rfl (by decide +kernel)
set_option maxRecDepth 100000 in
theorem gX5_runBlock_X5_leave : GoodIn wsX5_runBlock (wsV RX5 168 RX5 yX5_leave wsX5_leave) := goodIn_app (goodIn_of _ (by decide +kernel)) ggX5_runBlock_X5_leave
theorem dX5_runBlock_0 : decode cX5_runBlock 0 = .ok (.aload_n 0, 1) := by decide +kernel
theorem dX5_runBlock_1 : decode cX5_runBlock 1 = .ok (.getfield 38, 3) := by decide +kernel
theorem dX5_runBlock_4 : decode cX5_runBlock 4 = .ok (.iload_n 1, 1) := by decide +kernel
theorem dX5_runBlock_5 : decode cX5_runBlock 5 = .ok (.iaload, 1) := by decide +kernel
theorem dX5_runBlock_6 : decode cX5_runBlock 6 = .ok (.istore_n 2, 1) := by decide +kernel
theorem dX5_runBlock_7 : decode cX5_runBlock 7 = .ok (.aload_n 0, 1) := by decide +kernel
theorem dX5_runBlock_8 : decode cX5_runBlock 8 = .ok (.getfield 56, 3) := by decide +kernel
theorem dX5_runBlock_11 : decode cX5_runBlock 11 = .ok (.ifCond .lt 27, 3) := by decide +kernel
theorem dX5_runBlock_14 : decode cX5_runBlock 14 = .ok (.aload_n 0, 1) := by decide +kernel
theorem dX5_runBlock_15 : decode cX5_runBlock 15 = .ok (.getfield 29, 3) := by decide +kernel
theorem dX5_runBlock_18 : decode cX5_runBlock 18 = .ok (.aload_n 0, 1) := by decide +kernel
theorem dX5_runBlock_19 : decode cX5_runBlock 19 = .ok (.getfield 56, 3) := by decide +kernel
theorem dX5_runBlock_22 : decode cX5_runBlock 22 = .ok (.iconst 2, 1) := by decide +kernel
theorem dX5_runBlock_23 : decode cX5_runBlock 23 = .ok (.idiv, 1) := by decide +kernel
theorem dX5_runBlock_24 : decode cX5_runBlock 24 = .ok (.iaload, 1) := by decide +kernel
theorem dX5_runBlock_25 : decode cX5_runBlock 25 = .ok (.ifCond .le 13, 3) := by decide +kernel
theorem dX5_runBlock_28 : decode cX5_runBlock 28 = .ok (.aload_n 0, 1) := by decide +kernel
theorem dX5_runBlock_29 : decode cX5_runBlock 29 = .ok (.getfield 44, 3) := by decide +kernel
theorem dX5_runBlock_32 : decode cX5_runBlock 32 = .ok (.aload_n 0, 1) := by decide +kernel
theorem dX5_runBlock_33 : decode cX5_runBlock 33 = .ok (.getfield 56, 3) := by decide +kernel
theorem dX5_runBlock_36 : decode cX5_runBlock 36 = .ok (.iload_n 2, 1) := by decide +kernel
theorem dX5_runBlock_37 : decode cX5_runBlock 37 = .ok (.iastore, 1) := by decide +kernel
theorem dX5_runBlock_38 : decode cX5_runBlock 38 = .ok (.aload_n 0, 1) := by decide +kernel
theorem dX5_runBlock_39 : decode cX5_runBlock 39 = .ok (.iconst (-1), 1) := by decide +kernel
theorem dX5_runBlock_40 : decode cX5_runBlock 40 = .ok (.putfield 56, 3) := by decide +kernel
theorem dX5_runBlock_43 : decode cX5_runBlock 43 = .ok (.aload_n 0, 1) := by decide +kernel
theorem dX5_runBlock_44 : decode cX5_runBlock 44 = .ok (.getfield 32, 3) := by decide +kernel
theorem dX5_runBlock_47 : decode cX5_runBlock 47 = .ok (.iload_n 1, 1) := by decide +kernel
theorem dX5_runBlock_48 : decode cX5_runBlock 48 = .ok (.iaload, 1) := by decide +kernel
theorem dX5_runBlock_49 : decode cX5_runBlock 49 = .ok (.istore_n 3, 1) := by decide +kernel
theorem dX5_runBlock_50 : decode cX5_runBlock 50 = .ok (.iconst 1, 1) := by decide +kernel
theorem dX5_runBlock_51 : decode cX5_runBlock 51 = .ok (.istore 4, 2) := by decide +kernel
theorem dX5_runBlock_53 : decode cX5_runBlock 53 = .ok (.iconst 0, 1) := by decide +kernel
theorem dX5_runBlock_54 : decode cX5_runBlock 54 = .ok (.istore 5, 2) := by decide +kernel
theorem dX5_runBlock_56 : decode cX5_runBlock 56 = .ok (.iconst 0, 1) := by decide +kernel
theorem dX5_runBlock_57 : decode cX5_runBlock 57 = .ok (.istore 6, 2) := by decide +kernel
theorem dX5_runBlock_59 : decode cX5_runBlock 59 = .ok (.iload 6, 2) := by decide +kernel
theorem dX5_runBlock_61 : decode cX5_runBlock 61 = .ok (.iload_n 3, 1) := by decide +kernel
theorem dX5_runBlock_62 : decode cX5_runBlock 62 = .ok (.if_icmp .ge 50, 3) := by decide +kernel
theorem dX5_runBlock_65 : decode cX5_runBlock 65 = .ok (.iload 4, 2) := by decide +kernel
theorem dX5_runBlock_67 : decode cX5_runBlock 67 = .ok (.ifCond .eq 45, 3) := by decide +kernel
theorem dX5_runBlock_70 : decode cX5_runBlock 70 = .ok (.aload_n 0, 1) := by decide +kernel
theorem dX5_runBlock_71 : decode cX5_runBlock 71 = .ok (.invokevirtual 165, 3) := by decide +kernel
theorem dX5_runBlock_74 : decode cX5_runBlock 74 = .ok (.aload_n 0, 1) := by decide +kernel
theorem dX5_runBlock_75 : decode cX5_runBlock 75 = .ok (.getfield 66, 3) := by decide +kernel
theorem dX5_runBlock_78 : decode cX5_runBlock 78 = .ok (.istore 5, 2) := by decide +kernel
theorem dX5_runBlock_80 : decode cX5_runBlock 80 = .ok (.aload_n 0, 1) := by decide +kernel
theorem dX5_runBlock_81 : decode cX5_runBlock 81 = .ok (.getfield 29, 3) := by decide +kernel
theorem dX5_runBlock_84 : decode cX5_runBlock 84 = .ok (.iload_n 1, 1) := by decide +kernel
theorem dX5_runBlock_85 : decode cX5_runBlock 85 = .ok (.iaload, 1) := by decide +kernel
theorem dX5_runBlock_86 : decode cX5_runBlock 86 = .ok (.ifCond .le 17, 3) := by decide +kernel
theorem dX5_runBlock_89 : decode cX5_runBlock 89 = .ok (.aload_n 0, 1) := by decide +kernel
theorem dX5_runBlock_90 : decode cX5_runBlock 90 = .ok (.getfield 38, 3) := by decide +kernel
theorem dX5_runBlock_93 : decode cX5_runBlock 93 = .ok (.iload_n 1, 1) := by decide +kernel
theorem dX5_runBlock_94 : decode cX5_runBlock 94 = .ok (.iaload, 1) := by decide +kernel
theorem dX5_runBlock_95 : decode cX5_runBlock 95 = .ok (.iload_n 2, 1) := by decide +kernel
theorem dX5_runBlock_96 : decode cX5_runBlock 96 = .ok (.if_icmp .ne 7, 3) := by decide +kernel
theorem dX5_runBlock_99 : decode cX5_runBlock 99 = .ok (.iconst 1, 1) := by decide +kernel
theorem dX5_runBlock_100 : decode cX5_runBlock 100 = .ok (.goto 4, 3) := by decide +kernel
theorem dX5_runBlock_103 : decode cX5_runBlock 103 = .ok (.iconst 0, 1) := by decide +kernel
theorem dX5_runBlock_104 : decode cX5_runBlock 104 = .ok (.istore 4, 2) := by decide +kernel
theorem dX5_runBlock_106 : decode cX5_runBlock 106 = .ok (.iinc 6 1, 3) := by decide +kernel
theorem dX5_runBlock_109 : decode cX5_runBlock 109 = .ok (.goto (-50), 3) := by decide +kernel
theorem dX5_runBlock_112 : decode cX5_runBlock 112 = .ok (.iload 4, 2) := by decide +kernel
theorem dX5_runBlock_114 : decode cX5_runBlock 114 = .ok (.ifCond .eq 28, 3) := by decide +kernel
theorem dX5_runBlock_117 : decode cX5_runBlock 117 = .ok (.iload 5, 2) := by decide +kernel
theorem dX5_runBlock_119 : decode cX5_runBlock 119 = .ok (.bipush 25, 2) := by decide +kernel
theorem dX5_runBlock_121 : decode cX5_runBlock 121 = .ok (.if_icmp .eq 21, 3) := by decide +kernel
theorem dX5_runBlock_124 : decode cX5_runBlock 124 = .ok (.iload 5, 2) := by decide +kernel
theorem dX5_runBlock_126 : decode cX5_runBlock 126 = .ok (.iconst 1, 1) := by decide +kernel
theorem dX5_runBlock_127 : decode cX5_runBlock 127 = .ok (.if_icmp .eq 15, 3) := by decide +kernel
theorem dX5_runBlock_130 : decode cX5_runBlock 130 = .ok (.aload_n 0, 1) := by decide +kernel
theorem dX5_runBlock_131 : decode cX5_runBlock 131 = .ok (.iload_n 1, 1) := by decide +kernel
theorem dX5_runBlock_132 : decode cX5_runBlock 132 = .ok (.aload_n 0, 1) := by decide +kernel
theorem dX5_runBlock_133 : decode cX5_runBlock 133 = .ok (.getfield 13, 3) := by decide +kernel
theorem dX5_runBlock_136 : decode cX5_runBlock 136 = .ok (.bipush 9, 2) := by decide +kernel
theorem dX5_runBlock_138 : decode cX5_runBlock 138 = .ok (.iaload, 1) := by decide +kernel
theorem dX5_runBlock_139 : decode cX5_runBlock 139 = .ok (.invokevirtual 168, 3) := by decide +kernel
theorem dX5_runBlock_142 : decode cX5_runBlock 142 = .ok (.return_, 1) := by decide +kernel
theorem dX5_leave_0 : decode cX5_leave 0 = .ok (.iconst 2, 1) := by decide +kernel
theorem dX5_leave_1 : decode cX5_leave 1 = .ok (.iload_n 1, 1) := by decide +kernel
theorem dX5_leave_2 : decode cX5_leave 2 = .ok (.imul, 1) := by decide +kernel
theorem dX5_leave_3 : decode cX5_leave 3 = .ok (.istore_n 3, 1) := by decide +kernel
theorem dX5_leave_4 : decode cX5_leave 4 = .ok (.aload_n 0, 1) := by decide +kernel
theorem dX5_leave_5 : decode cX5_leave 5 = .ok (.getfield 41, 3) := by decide +kernel
theorem dX5_leave_8 : decode cX5_leave 8 = .ok (.iload_n 3, 1) := by decide +kernel
theorem dX5_leave_9 : decode cX5_leave 9 = .ok (.iaload, 1) := by decide +kernel
theorem dX5_leave_10 : decode cX5_leave 10 = .ok (.ifCond .lt 16, 3) := by decide +kernel
theorem dX5_leave_13 : decode cX5_leave 13 = .ok (.aload_n 0, 1) := by decide +kernel
theorem dX5_leave_14 : decode cX5_leave 14 = .ok (.getfield 41, 3) := by decide +kernel
theorem dX5_leave_17 : decode cX5_leave 17 = .ok (.iload_n 3, 1) := by decide +kernel
theorem dX5_leave_18 : decode cX5_leave 18 = .ok (.iaload, 1) := by decide +kernel
theorem dX5_leave_19 : decode cX5_leave 19 = .ok (.iload_n 2, 1) := by decide +kernel
theorem dX5_leave_20 : decode cX5_leave 20 = .ok (.if_icmp .eq 6, 3) := by decide +kernel
theorem dX5_leave_23 : decode cX5_leave 23 = .ok (.iinc 3 1, 3) := by decide +kernel
theorem dX5_leave_26 : decode cX5_leave 26 = .ok (.aload_n 0, 1) := by decide +kernel
theorem dX5_leave_27 : decode cX5_leave 27 = .ok (.getfield 41, 3) := by decide +kernel
theorem dX5_leave_30 : decode cX5_leave 30 = .ok (.iload_n 3, 1) := by decide +kernel
theorem dX5_leave_31 : decode cX5_leave 31 = .ok (.iaload, 1) := by decide +kernel
theorem dX5_leave_32 : decode cX5_leave 32 = .ok (.iload_n 2, 1) := by decide +kernel
theorem dX5_leave_33 : decode cX5_leave 33 = .ok (.if_icmp .eq 17, 3) := by decide +kernel
theorem dX5_leave_36 : decode cX5_leave 36 = .ok (.aload_n 0, 1) := by decide +kernel
theorem dX5_leave_37 : decode cX5_leave 37 = .ok (.getfield 41, 3) := by decide +kernel
theorem dX5_leave_40 : decode cX5_leave 40 = .ok (.iload_n 3, 1) := by decide +kernel
theorem dX5_leave_41 : decode cX5_leave 41 = .ok (.iload_n 2, 1) := by decide +kernel
theorem dX5_leave_42 : decode cX5_leave 42 = .ok (.iastore, 1) := by decide +kernel
theorem dX5_leave_43 : decode cX5_leave 43 = .ok (.aload_n 0, 1) := by decide +kernel
theorem dX5_leave_44 : decode cX5_leave 44 = .ok (.getfield 44, 3) := by decide +kernel
theorem dX5_leave_47 : decode cX5_leave 47 = .ok (.iload_n 3, 1) := by decide +kernel
theorem dX5_leave_48 : decode cX5_leave 48 = .ok (.iconst (-1), 1) := by decide +kernel
theorem dX5_leave_49 : decode cX5_leave 49 = .ok (.iastore, 1) := by decide +kernel
theorem dX5_leave_50 : decode cX5_leave 50 = .ok (.aload_n 0, 1) := by decide +kernel
theorem dX5_leave_51 : decode cX5_leave 51 = .ok (.iload_n 3, 1) := by decide +kernel
theorem dX5_leave_52 : decode cX5_leave 52 = .ok (.putfield 56, 3) := by decide +kernel
theorem dX5_leave_55 : decode cX5_leave 55 = .ok (.return_, 1) := by decide +kernel
set_option maxRecDepth 100000 in
theorem ggX5_goOn_X5_interrupt : GoodIn wsX5_goOn wsX5_interrupt := goodIn_r _ [13, 2, 1, 3, 4, 7, 14, 15, 16, 12, 17, 18, 19, 20, 21, 22, 23, 24, 25, 26, 27, 28, 29, 30, 31, 32, 134, 135, 136, 137, 138, 139, 140, 141, 142, 143, 144, 145, 146, 147, 148, 149, 150, 151, 152, 153, 154, 155, 156, 157, 158, 159, 160] rfl (by decide +kernel)
set_option maxRecDepth 100000 in
theorem gX5_goOn_X5_interrupt : GoodIn wsX5_goOn (wsV RX5 171 RX5 yX5_interrupt wsX5_interrupt) := goodIn_app (goodIn_of _ (by decide +kernel)) ggX5_goOn_X5_interrupt
set_option maxRecDepth 100000 in
theorem ggX5_goOn_X5_isLinked : GoodIn wsX5_goOn wsX5_isLinked := goodIn_r _ [36, 7, 27, 37, 38, 134, 135, 136, 137, 138, 139, 140, 141, 142, 143, 144, 145, 146, 147, 148, 149, 150, 151, 152, 153, 154, 155, 156, 157, 158, 159, 160] rfl (by decide +kernel)
set_option maxRecDepth 100000 in
theorem gX5_goOn_X5_isLinked : GoodIn wsX5_goOn (wsV RX5 174 RX5 yX5_isLinked wsX5_isLinked) := goodIn_app (goodIn_of _ (by decide +kernel)) ggX5_goOn_X5_isLinked
set_option maxRecDepth 100000 in
theorem ggX5_goOn_X5_hasBlock : GoodIn wsX5_goOn wsX5_hasBlock := goodIn_r _ [42, 27, 43, 44, 45, 4, 5, 28, 46, 47, 38, 48, 49, 50, 51, 52, 12, 53, 8, 22, 54, 55, 56, 57, 58, 59, 60, 61, 62, 63, 64, 65, 66, 67, 68, 69, 70, 71, 72, 73, 74, 75, 76, 77, 78, 79, 80, 81, 82, 29, 30, 31, 32, 134, 135, 136, 137, 138, 139, 140, 141, 142, 143, 144, 145, 146, 147, 148, 149, 150, 151, 152, 153, 154, 155, 156, 157, 158, 159, 160] rfl (by decide +kernel)
set_option maxRecDepth 100000 in
theorem gX5_goOn_X5_hasBlock : GoodIn wsX5_goOn (wsV RX5 177 RX5 yX5_hasBlock wsX5_hasBlock) := goodIn_app (goodIn_of _ (by decide +kernel)) ggX5_goOn_X5_hasBlock
set_option maxRecDepth 100000 in
theorem ggX5_goOn_X5_isDisturbed : GoodIn wsX5_goOn wsX5_isDisturbed := goodIn_r _ [86, 1, 3, 4, 134, 135, 136, 137, 138, 139, 140, 141, 142, 143, 144, 145, 146, 147, 148, 149, 150, 151, 152, 153, 154, 155, 156, 157, 158, 159, 160] rfl (by decide +kernel)
set_option maxRecDepth 100000 in
theorem gX5_goOn_X5_isDisturbed : GoodIn wsX5_goOn (wsV RX5 180 RX5 yX5_isDisturbed wsX5_isDisturbed) := goodIn_app (goodIn_of _ (by decide +kernel)) ggX5_goOn_X5_isDisturbed
set_option maxRecDepth 100000 in
theorem ggX5_goOn_X5_runBlock : GoodIn wsX5_goOn wsX5_runBlock := goodIn_r _ [90, 38, 7, 27, 37, 5, 8, 2, 91, 92, 93, 12, 94, 22, 55, 4, 6, 95, 56, 57, 58, 59, 60, 61, 62, 96, 97, 98, 99, 100, 101, 102, 103, 104, 105, 106, 107, 108, 109, 110, 111, 112, 113, 114, 115, 116, 117, 118, 119, 120, 121, 18, 19, 20, 21, 23, 24, 25, 26, 28, 29, 30, 31, 32, 122, 123, 124, 125, 14, 15, 16, 17, 126, 127, 128, 129, 130, 131, 132, 133, 48, 134, 135, 136, 137, 138, 139, 140, 141, 142, 143, 144, 145, 146, 147, 148, 149, 150, 151, 152, 153, 154, 155, 156, 157, 158, 159, 160] rfl (by decide +kernel)
set_option maxRecDepth 100000 in
theorem gX5_goOn_X5_runBlock : GoodIn wsX5_goOn (wsV RX5 183 RX5 yX5_runBlock wsX5_runBlock) := goodIn_app (goodIn_of _ (by decide +kernel)) ggX5_goOn_X5_runBlock
set_option maxRecDepth 100000 in
theorem ggX5_goOn_X5_look : GoodIn wsX5_goOn wsX5_look := goodIn_r _ [59, 22, 8, 55, 60, 61, 12, 62, 134, 135, 136, 137, 138, 139, 140, 141, 142, 143, 144, 145, 146, 147, 148, 149, 150, 151, 152, 153, 154, 155, 156, 157, 158, 159, 160] rfl (by decide +kernel)
set_option maxRecDepth 100000 in
theorem gX5_goOn_X5_look : GoodIn wsX5_goOn (wsV RX5 88 RX5 yX5_look wsX5_look) := goodIn_app (goodIn_of _ (by decide +kernel)) ggX5_goOn_X5_look
set_option maxRecDepth 100000 in
theorem ggX5_goOn_X5_step : GoodIn wsX5_goOn wsX5_step := goodIn_r _ [94, 22, 2, 55, 4, 8, 6, 95, 56, 57, 58, 12, 59, 60, 61, 62, 96, 97, 98, 99, 100, 101, 102, 103, 104, 105, 106, 107, 108, 109, 110, 111, 112, 113, 114, 115, 116, 117, 118, 119, 120, 121, 18, 19, 20, 21, 23, 24, 25, 26, 27, 28, 29, 30, 31, 32, 122, 123, 124, 125, 14, 15, 16, 17, 126, 127, 128, 129, 134, 135, 136, 137, 138, 139, 140, 141, 142, 143, 144, 145, 146, 147, 148, 149, 150, 151, 152, 153, 154, 155, 156, 157, 158, 159, 160] rfl (by decide +kernel)
set_option maxRecDepth 100000 in
theorem gX5_goOn_X5_step : GoodIn wsX5_goOn (wsV RX5 165 RX5 yX5_step wsX5_step) := goodIn_app (goodIn_of _ (by decide +kernel)) ggX5_goOn_X5_step
theorem dX5_goOn_0 : decode cX5_goOn 0 = .ok (.aload_n 0, 1) := by decide +kernel
theorem dX5_goOn_1 : decode cX5_goOn 1 = .ok (.getfield 162, 3) := by decide +kernel
theorem dX5_goOn_4 : decode cX5_goOn 4 = .ok (.ifCond .le 33, 3) := by decide +kernel
theorem dX5_goOn_7 : decode cX5_goOn 7 = .ok (.aload_n 0, 1) := by decide +kernel
theorem dX5_goOn_8 : decode cX5_goOn 8 = .ok (.getfield 13, 3) := by decide +kernel
theorem dX5_goOn_11 : decode cX5_goOn 11 = .ok (.bipush 8, 2) := by decide +kernel
theorem dX5_goOn_13 : decode cX5_goOn 13 = .ok (.iaload, 1) := by decide +kernel
theorem dX5_goOn_14 : decode cX5_goOn 14 = .ok (.iconst 1, 1) := by decide +kernel
theorem dX5_goOn_15 : decode cX5_goOn 15 = .ok (.if_icmp .ne 22, 3) := by decide +kernel
theorem dX5_goOn_18 : decode cX5_goOn 18 = .ok (.aload_n 0, 1) := by decide +kernel
theorem dX5_goOn_19 : decode cX5_goOn 19 = .ok (.getfield 19, 3) := by decide +kernel
theorem dX5_goOn_22 : decode cX5_goOn 22 = .ok (.iconst 0, 1) := by decide +kernel
theorem dX5_goOn_23 : decode cX5_goOn 23 = .ok (.iaload, 1) := by decide +kernel
theorem dX5_goOn_24 : decode cX5_goOn 24 = .ok (.aload_n 0, 1) := by decide +kernel
theorem dX5_goOn_25 : decode cX5_goOn 25 = .ok (.getfield 50, 3) := by decide +kernel
theorem dX5_goOn_28 : decode cX5_goOn 28 = .ok (.iconst 0, 1) := by decide +kernel
theorem dX5_goOn_29 : decode cX5_goOn 29 = .ok (.iaload, 1) := by decide +kernel
theorem dX5_goOn_30 : decode cX5_goOn 30 = .ok (.if_icmp .gt 7, 3) := by decide +kernel
theorem dX5_goOn_33 : decode cX5_goOn 33 = .ok (.aload_n 0, 1) := by decide +kernel
theorem dX5_goOn_34 : decode cX5_goOn 34 = .ok (.invokevirtual 171, 3) := by decide +kernel
theorem dX5_goOn_37 : decode cX5_goOn 37 = .ok (.aload_n 0, 1) := by decide +kernel
theorem dX5_goOn_38 : decode cX5_goOn 38 = .ok (.getfield 13, 3) := by decide +kernel
theorem dX5_goOn_41 : decode cX5_goOn 41 = .ok (.bipush 9, 2) := by decide +kernel
theorem dX5_goOn_43 : decode cX5_goOn 43 = .ok (.iaload, 1) := by decide +kernel
theorem dX5_goOn_44 : decode cX5_goOn 44 = .ok (.istore_n 2, 1) := by decide +kernel
theorem dX5_goOn_45 : decode cX5_goOn 45 = .ok (.aload_n 0, 1) := by decide +kernel
theorem dX5_goOn_46 : decode cX5_goOn 46 = .ok (.iload_n 2, 1) := by decide +kernel
theorem dX5_goOn_47 : decode cX5_goOn 47 = .ok (.invokevirtual 174, 3) := by decide +kernel
theorem dX5_goOn_50 : decode cX5_goOn 50 = .ok (.istore_n 3, 1) := by decide +kernel
theorem dX5_goOn_51 : decode cX5_goOn 51 = .ok (.iload_n 3, 1) := by decide +kernel
theorem dX5_goOn_52 : decode cX5_goOn 52 = .ok (.ifCond .ne 14, 3) := by decide +kernel
theorem dX5_goOn_55 : decode cX5_goOn 55 = .ok (.aload_n 0, 1) := by decide +kernel
theorem dX5_goOn_56 : decode cX5_goOn 56 = .ok (.getfield 50, 3) := by decide +kernel
theorem dX5_goOn_59 : decode cX5_goOn 59 = .ok (.bipush 6, 2) := by decide +kernel
theorem dX5_goOn_61 : decode cX5_goOn 61 = .ok (.dup2, 1) := by decide +kernel
theorem dX5_goOn_62 : decode cX5_goOn 62 = .ok (.iaload, 1) := by decide +kernel
theorem dX5_goOn_63 : decode cX5_goOn 63 = .ok (.iconst 1, 1) := by decide +kernel
theorem dX5_goOn_64 : decode cX5_goOn 64 = .ok (.iadd, 1) := by decide +kernel
theorem dX5_goOn_65 : decode cX5_goOn 65 = .ok (.iastore, 1) := by decide +kernel
theorem dX5_goOn_66 : decode cX5_goOn 66 = .ok (.iload_n 3, 1) := by decide +kernel
theorem dX5_goOn_67 : decode cX5_goOn 67 = .ok (.ifCond .ne 11, 3) := by decide +kernel
theorem dX5_goOn_70 : decode cX5_goOn 70 = .ok (.aload_n 0, 1) := by decide +kernel
theorem dX5_goOn_71 : decode cX5_goOn 71 = .ok (.iload_n 2, 1) := by decide +kernel
theorem dX5_goOn_72 : decode cX5_goOn 72 = .ok (.invokevirtual 177, 3) := by decide +kernel
theorem dX5_goOn_75 : decode cX5_goOn 75 = .ok (.ifCond .eq 7, 3) := by decide +kernel
theorem dX5_goOn_78 : decode cX5_goOn 78 = .ok (.iconst 1, 1) := by decide +kernel
theorem dX5_goOn_79 : decode cX5_goOn 79 = .ok (.goto 4, 3) := by decide +kernel
theorem dX5_goOn_82 : decode cX5_goOn 82 = .ok (.iconst 0, 1) := by decide +kernel
theorem dX5_goOn_83 : decode cX5_goOn 83 = .ok (.istore 4, 2) := by decide +kernel
theorem dX5_goOn_85 : decode cX5_goOn 85 = .ok (.iload 4, 2) := by decide +kernel
theorem dX5_goOn_87 : decode cX5_goOn 87 = .ok (.ifCond .eq 44, 3) := by decide +kernel
theorem dX5_goOn_90 : decode cX5_goOn 90 = .ok (.aload_n 0, 1) := by decide +kernel
theorem dX5_goOn_91 : decode cX5_goOn 91 = .ok (.getfield 32, 3) := by decide +kernel
theorem dX5_goOn_94 : decode cX5_goOn 94 = .ok (.iload_n 2, 1) := by decide +kernel
theorem dX5_goOn_95 : decode cX5_goOn 95 = .ok (.iaload, 1) := by decide +kernel
theorem dX5_goOn_96 : decode cX5_goOn 96 = .ok (.iload_n 1, 1) := by decide +kernel
theorem dX5_goOn_97 : decode cX5_goOn 97 = .ok (.if_icmp .gt 34, 3) := by decide +kernel
theorem dX5_goOn_100 : decode cX5_goOn 100 = .ok (.aload_n 0, 1) := by decide +kernel
theorem dX5_goOn_101 : decode cX5_goOn 101 = .ok (.aload_n 0, 1) := by decide +kernel
theorem dX5_goOn_102 : decode cX5_goOn 102 = .ok (.getfield 32, 3) := by decide +kernel
theorem dX5_goOn_105 : decode cX5_goOn 105 = .ok (.iload_n 2, 1) := by decide +kernel
theorem dX5_goOn_106 : decode cX5_goOn 106 = .ok (.iaload, 1) := by decide +kernel
theorem dX5_goOn_107 : decode cX5_goOn 107 = .ok (.invokevirtual 180, 3) := by decide +kernel
theorem dX5_goOn_110 : decode cX5_goOn 110 = .ok (.ifCond .ne 21, 3) := by decide +kernel
theorem dX5_goOn_113 : decode cX5_goOn 113 = .ok (.aload_n 0, 1) := by decide +kernel
theorem dX5_goOn_114 : decode cX5_goOn 114 = .ok (.iload_n 2, 1) := by decide +kernel
theorem dX5_goOn_115 : decode cX5_goOn 115 = .ok (.invokevirtual 183, 3) := by decide +kernel
theorem dX5_goOn_118 : decode cX5_goOn 118 = .ok (.aload_n 0, 1) := by decide +kernel
theorem dX5_goOn_119 : decode cX5_goOn 119 = .ok (.getfield 127, 3) := by decide +kernel
theorem dX5_goOn_122 : decode cX5_goOn 122 = .ok (.ifCond .ne 7, 3) := by decide +kernel
theorem dX5_goOn_125 : decode cX5_goOn 125 = .ok (.iconst 1, 1) := by decide +kernel
theorem dX5_goOn_126 : decode cX5_goOn 126 = .ok (.goto 4, 3) := by decide +kernel
theorem dX5_goOn_129 : decode cX5_goOn 129 = .ok (.iconst 0, 1) := by decide +kernel
theorem dX5_goOn_130 : decode cX5_goOn 130 = .ok (.ireturn, 1) := by decide +kernel
theorem dX5_goOn_131 : decode cX5_goOn 131 = .ok (.aload_n 0, 1) := by decide +kernel
theorem dX5_goOn_132 : decode cX5_goOn 132 = .ok (.iconst (-1), 1) := by decide +kernel
theorem dX5_goOn_133 : decode cX5_goOn 133 = .ok (.putfield 56, 3) := by decide +kernel
theorem dX5_goOn_136 : decode cX5_goOn 136 = .ok (.aload_n 0, 1) := by decide +kernel
theorem dX5_goOn_137 : decode cX5_goOn 137 = .ok (.iload_n 2, 1) := by decide +kernel
theorem dX5_goOn_138 : decode cX5_goOn 138 = .ok (.invokevirtual 88, 3) := by decide +kernel
theorem dX5_goOn_141 : decode cX5_goOn 141 = .ok (.aload_n 0, 1) := by decide +kernel
theorem dX5_goOn_142 : decode cX5_goOn 142 = .ok (.getfield 66, 3) := by decide +kernel
theorem dX5_goOn_145 : decode cX5_goOn 145 = .ok (.ifCond .ne 13, 3) := by decide +kernel
theorem dX5_goOn_148 : decode cX5_goOn 148 = .ok (.aload_n 0, 1) := by decide +kernel
theorem dX5_goOn_149 : decode cX5_goOn 149 = .ok (.getfield 50, 3) := by decide +kernel
theorem dX5_goOn_152 : decode cX5_goOn 152 = .ok (.bipush 11, 2) := by decide +kernel
theorem dX5_goOn_154 : decode cX5_goOn 154 = .ok (.iconst 2, 1) := by decide +kernel
theorem dX5_goOn_155 : decode cX5_goOn 155 = .ok (.iastore, 1) := by decide +kernel
theorem dX5_goOn_156 : decode cX5_goOn 156 = .ok (.iconst 0, 1) := by decide +kernel
theorem dX5_goOn_157 : decode cX5_goOn 157 = .ok (.ireturn, 1) := by decide +kernel
theorem dX5_goOn_158 : decode cX5_goOn 158 = .ok (.aload_n 0, 1) := by decide +kernel
theorem dX5_goOn_159 : decode cX5_goOn 159 = .ok (.invokevirtual 165, 3) := by decide +kernel
theorem dX5_goOn_162 : decode cX5_goOn 162 = .ok (.aload_n 0, 1) := by decide +kernel
theorem dX5_goOn_163 : decode cX5_goOn 163 = .ok (.getfield 50, 3) := by decide +kernel
theorem dX5_goOn_166 : decode cX5_goOn 166 = .ok (.bipush 7, 2) := by decide +kernel
theorem dX5_goOn_168 : decode cX5_goOn 168 = .ok (.dup2, 1) := by decide +kernel
theorem dX5_goOn_169 : decode cX5_goOn 169 = .ok (.iaload, 1) := by decide +kernel
theorem dX5_goOn_170 : decode cX5_goOn 170 = .ok (.iconst 1, 1) := by decide +kernel
theorem dX5_goOn_171 : decode cX5_goOn 171 = .ok (.iadd, 1) := by decide +kernel
theorem dX5_goOn_172 : decode cX5_goOn 172 = .ok (.iastore, 1) := by decide +kernel
theorem dX5_goOn_173 : decode cX5_goOn 173 = .ok (.aload_n 0, 1) := by decide +kernel
theorem dX5_goOn_174 : decode cX5_goOn 174 = .ok (.getfield 127, 3) := by decide +kernel
theorem dX5_goOn_177 : decode cX5_goOn 177 = .ok (.ifCond .ne 7, 3) := by decide +kernel
theorem dX5_goOn_180 : decode cX5_goOn 180 = .ok (.iconst 1, 1) := by decide +kernel
theorem dX5_goOn_181 : decode cX5_goOn 181 = .ok (.goto 4, 3) := by decide +kernel
theorem dX5_goOn_184 : decode cX5_goOn 184 = .ok (.iconst 0, 1) := by decide +kernel
theorem dX5_goOn_185 : decode cX5_goOn 185 = .ok (.ireturn, 1) := by decide +kernel
set_option maxRecDepth 100000 in
theorem ggX5_run_X5_isIn : GoodIn wsX5_run wsX5_isIn := goodIn_r _ [7] rfl (by decide +kernel)
set_option maxRecDepth 100000 in
theorem gX5_run_X5_isIn : GoodIn wsX5_run (va_wsS RX5 186 yX5_isIn wsX5_isIn) := goodIn_app (goodIn_of _ (by decide +kernel)) ggX5_run_X5_isIn
set_option maxRecDepth 100000 in
theorem ggX5_run_X5_refused : GoodIn wsX5_run wsX5_refused := goodIn_r _ [11, 12, 146, 147, 148, 149, 150, 151, 152, 153, 154, 155, 156, 157, 158, 159, 160, 161, 162, 163, 164, 165, 166, 167, 168, 169, 170, 171, 172] rfl (by decide +kernel)
set_option maxRecDepth 100000 in
theorem gX5_run_X5_refused : GoodIn wsX5_run (wsV RX5 190 RX5 yX5_refused wsX5_refused) := goodIn_app (goodIn_of _ (by decide +kernel)) ggX5_run_X5_refused
set_option maxRecDepth 100000 in
theorem ggX5_run_X5_goOn : GoodIn wsX5_run wsX5_goOn := goodIn_r _ [16, 17, 18, 19, 1, 20, 3, 2, 21, 22, 23, 24, 6, 25, 26, 27, 28, 29, 30, 31, 32, 33, 34, 35, 36, 37, 38, 39, 40, 41, 42, 43, 44, 45, 46, 47, 48, 49, 50, 51, 52, 53, 54, 55, 56, 57, 58, 59, 60, 61, 62, 63, 64, 65, 66, 67, 68, 69, 70, 71, 72, 73, 74, 75, 76, 77, 78, 79, 80, 81, 82, 83, 84, 85, 86, 87, 88, 89, 90, 91, 92, 93, 94, 95, 96, 97, 98, 99, 100, 101, 102, 103, 104, 105, 106, 107, 108, 109, 110, 111, 112, 113, 114, 115, 116, 117, 118, 119, 120, 121, 122, 123, 124, 125, 126, 127, 128, 129, 130, 131, 132, 133, 134, 135, 136, 137, 138, 139, 140, 141, 142, 143, 144, 145, 146, 147, 148, 149, 150, 151, 152, 153, 154, 155, 156, 157, 158, 159, 160, 161, 162, 163, 164, 165, 166, 167, 168, 169, 170, 171, 172] rfl (by decide +kernel)
set_option maxRecDepth 100000 in
theorem gX5_run_X5_goOn : GoodIn wsX5_run (wsV RX5 193 RX5 yX5_goOn wsX5_goOn) := goodIn_app (goodIn_of _ (by decide +kernel)) ggX5_run_X5_goOn
theorem dX5_run_0 : decode cX5_run 0 = .ok (.aload_n 0, 1) := by decide +kernel
theorem dX5_run_1 : decode cX5_run 1 = .ok (.iload_n 1, 1) := by decide +kernel
theorem dX5_run_2 : decode cX5_run 2 = .ok (.iconst 1, 1) := by decide +kernel
theorem dX5_run_3 : decode cX5_run 3 = .ok (.sipush 5000, 3) := by decide +kernel
theorem dX5_run_6 : decode cX5_run 6 = .ok (.invokestatic 186, 3) := by decide +kernel
theorem dX5_run_9 : decode cX5_run 9 = .ok (.ifCond .eq 7, 3) := by decide +kernel
theorem dX5_run_12 : decode cX5_run 12 = .ok (.iconst 0, 1) := by decide +kernel
theorem dX5_run_13 : decode cX5_run 13 = .ok (.goto 4, 3) := by decide +kernel
theorem dX5_run_16 : decode cX5_run 16 = .ok (.iconst 1, 1) := by decide +kernel
theorem dX5_run_17 : decode cX5_run 17 = .ok (.invokevirtual 190, 3) := by decide +kernel
theorem dX5_run_20 : decode cX5_run 20 = .ok (.ifCond .eq 5, 3) := by decide +kernel
theorem dX5_run_23 : decode cX5_run 23 = .ok (.iconst 0, 1) := by decide +kernel
theorem dX5_run_24 : decode cX5_run 24 = .ok (.ireturn, 1) := by decide +kernel
theorem dX5_run_25 : decode cX5_run 25 = .ok (.aload_n 0, 1) := by decide +kernel
theorem dX5_run_26 : decode cX5_run 26 = .ok (.getfield 50, 3) := by decide +kernel
theorem dX5_run_29 : decode cX5_run 29 = .ok (.iconst 0, 1) := by decide +kernel
theorem dX5_run_30 : decode cX5_run 30 = .ok (.iaload, 1) := by decide +kernel
theorem dX5_run_31 : decode cX5_run 31 = .ok (.istore_n 2, 1) := by decide +kernel
theorem dX5_run_32 : decode cX5_run 32 = .ok (.aload_n 0, 1) := by decide +kernel
theorem dX5_run_33 : decode cX5_run 33 = .ok (.getfield 50, 3) := by decide +kernel
theorem dX5_run_36 : decode cX5_run 36 = .ok (.bipush 11, 2) := by decide +kernel
theorem dX5_run_38 : decode cX5_run 38 = .ok (.iconst 0, 1) := by decide +kernel
theorem dX5_run_39 : decode cX5_run 39 = .ok (.iastore, 1) := by decide +kernel
theorem dX5_run_40 : decode cX5_run 40 = .ok (.aload_n 0, 1) := by decide +kernel
theorem dX5_run_41 : decode cX5_run 41 = .ok (.iconst (-1), 1) := by decide +kernel
theorem dX5_run_42 : decode cX5_run 42 = .ok (.putfield 56, 3) := by decide +kernel
theorem dX5_run_45 : decode cX5_run 45 = .ok (.aload_n 0, 1) := by decide +kernel
theorem dX5_run_46 : decode cX5_run 46 = .ok (.iconst 0, 1) := by decide +kernel
theorem dX5_run_47 : decode cX5_run 47 = .ok (.putfield 127, 3) := by decide +kernel
theorem dX5_run_50 : decode cX5_run 50 = .ok (.iconst 1, 1) := by decide +kernel
theorem dX5_run_51 : decode cX5_run 51 = .ok (.istore_n 3, 1) := by decide +kernel
theorem dX5_run_52 : decode cX5_run 52 = .ok (.iload_n 3, 1) := by decide +kernel
theorem dX5_run_53 : decode cX5_run 53 = .ok (.ifCond .eq 33, 3) := by decide +kernel
theorem dX5_run_56 : decode cX5_run 56 = .ok (.aload_n 0, 1) := by decide +kernel
theorem dX5_run_57 : decode cX5_run 57 = .ok (.getfield 50, 3) := by decide +kernel
theorem dX5_run_60 : decode cX5_run 60 = .ok (.iconst 0, 1) := by decide +kernel
theorem dX5_run_61 : decode cX5_run 61 = .ok (.iaload, 1) := by decide +kernel
theorem dX5_run_62 : decode cX5_run 62 = .ok (.iload_n 2, 1) := by decide +kernel
theorem dX5_run_63 : decode cX5_run 63 = .ok (.iload_n 1, 1) := by decide +kernel
theorem dX5_run_64 : decode cX5_run 64 = .ok (.iadd, 1) := by decide +kernel
theorem dX5_run_65 : decode cX5_run 65 = .ok (.if_icmp .ge 21, 3) := by decide +kernel
theorem dX5_run_68 : decode cX5_run 68 = .ok (.aload_n 0, 1) := by decide +kernel
theorem dX5_run_69 : decode cX5_run 69 = .ok (.iload_n 2, 1) := by decide +kernel
theorem dX5_run_70 : decode cX5_run 70 = .ok (.iload_n 1, 1) := by decide +kernel
theorem dX5_run_71 : decode cX5_run 71 = .ok (.iadd, 1) := by decide +kernel
theorem dX5_run_72 : decode cX5_run 72 = .ok (.aload_n 0, 1) := by decide +kernel
theorem dX5_run_73 : decode cX5_run 73 = .ok (.getfield 50, 3) := by decide +kernel
theorem dX5_run_76 : decode cX5_run 76 = .ok (.iconst 0, 1) := by decide +kernel
theorem dX5_run_77 : decode cX5_run 77 = .ok (.iaload, 1) := by decide +kernel
theorem dX5_run_78 : decode cX5_run 78 = .ok (.isub, 1) := by decide +kernel
theorem dX5_run_79 : decode cX5_run 79 = .ok (.invokevirtual 193, 3) := by decide +kernel
theorem dX5_run_82 : decode cX5_run 82 = .ok (.istore_n 3, 1) := by decide +kernel
theorem dX5_run_83 : decode cX5_run 83 = .ok (.goto (-31), 3) := by decide +kernel
theorem dX5_run_86 : decode cX5_run 86 = .ok (.aload_n 0, 1) := by decide +kernel
theorem dX5_run_87 : decode cX5_run 87 = .ok (.iconst (-1), 1) := by decide +kernel
theorem dX5_run_88 : decode cX5_run 88 = .ok (.putfield 56, 3) := by decide +kernel
theorem dX5_run_91 : decode cX5_run 91 = .ok (.aload_n 0, 1) := by decide +kernel
theorem dX5_run_92 : decode cX5_run 92 = .ok (.getfield 50, 3) := by decide +kernel
theorem dX5_run_95 : decode cX5_run 95 = .ok (.iconst 0, 1) := by decide +kernel
theorem dX5_run_96 : decode cX5_run 96 = .ok (.iaload, 1) := by decide +kernel
theorem dX5_run_97 : decode cX5_run 97 = .ok (.iload_n 2, 1) := by decide +kernel
theorem dX5_run_98 : decode cX5_run 98 = .ok (.isub, 1) := by decide +kernel
theorem dX5_run_99 : decode cX5_run 99 = .ok (.ireturn, 1) := by decide +kernel
set_option maxRecDepth 100000 in
theorem ggX5_poke_X5_isIn : GoodIn wsX5_poke wsX5_isIn := goodIn_r _ [5] rfl (by decide +kernel)
set_option maxRecDepth 100000 in
theorem gX5_poke_X5_isIn : GoodIn wsX5_poke (va_wsS RX5 186 yX5_isIn wsX5_isIn) := goodIn_app (goodIn_of _ (by decide +kernel)) ggX5_poke_X5_isIn
set_option maxRecDepth 100000 in
theorem ggX5_poke_X5_refused : GoodIn wsX5_poke wsX5_refused := goodIn_r _ [9, 10, 22, 23, 24, 25, 26, 27, 28, 29, 30, 31, 32, 33, 34, 35, 36, 37, 38, 39, 40, 41, 42, 43, 44, 45, 46, 47, 48] rfl (by decide +kernel)
set_option maxRecDepth 100000 in
theorem gX5_poke_X5_refused : GoodIn wsX5_poke (wsV RX5 190 RX5 yX5_refused wsX5_refused) := goodIn_app (goodIn_of _ (by decide +kernel)) ggX5_poke_X5_refused
set_option maxRecDepth 100000 in
theorem ggX5_poke_X5_invalidate : GoodIn wsX5_poke wsX5_invalidate := goodIn_r _ [14, 15, 16, 17, 18, 19, 4, 20, 21, 22, 23, 24, 25, 26, 27, 28, 29, 30, 31, 32, 33, 34, 35, 36, 37, 38, 39, 40, 41, 42, 43, 44, 45, 46, 47, 48] rfl (by decide +kernel)
set_option maxRecDepth 100000 in
theorem gX5_poke_X5_invalidate : GoodIn wsX5_poke (wsV RX5 108 RX5 yX5_invalidate wsX5_invalidate) := goodIn_app (goodIn_of _ (by decide +kernel)) ggX5_poke_X5_invalidate
theorem dX5_poke_0 : decode cX5_poke 0 = .ok (.aload_n 0, 1) := by decide +kernel
theorem dX5_poke_1 : decode cX5_poke 1 = .ok (.iload_n 1, 1) := by decide +kernel
theorem dX5_poke_2 : decode cX5_poke 2 = .ok (.iconst 0, 1) := by decide +kernel
theorem dX5_poke_3 : decode cX5_poke 3 = .ok (.sipush 255, 3) := by decide +kernel
theorem dX5_poke_6 : decode cX5_poke 6 = .ok (.invokestatic 186, 3) := by decide +kernel
theorem dX5_poke_9 : decode cX5_poke 9 = .ok (.ifCond .eq 16, 3) := by decide +kernel
theorem dX5_poke_12 : decode cX5_poke 12 = .ok (.iload_n 3, 1) := by decide +kernel
theorem dX5_poke_13 : decode cX5_poke 13 = .ok (.iconst 1, 1) := by decide +kernel
theorem dX5_poke_14 : decode cX5_poke 14 = .ok (.iconst 4, 1) := by decide +kernel
theorem dX5_poke_15 : decode cX5_poke 15 = .ok (.invokestatic 186, 3) := by decide +kernel
theorem dX5_poke_18 : decode cX5_poke 18 = .ok (.ifCond .eq 7, 3) := by decide +kernel
theorem dX5_poke_21 : decode cX5_poke 21 = .ok (.iconst 0, 1) := by decide +kernel
theorem dX5_poke_22 : decode cX5_poke 22 = .ok (.goto 4, 3) := by decide +kernel
theorem dX5_poke_25 : decode cX5_poke 25 = .ok (.iconst 1, 1) := by decide +kernel
theorem dX5_poke_26 : decode cX5_poke 26 = .ok (.invokevirtual 190, 3) := by decide +kernel
theorem dX5_poke_29 : decode cX5_poke 29 = .ok (.ifCond .eq 4, 3) := by decide +kernel
theorem dX5_poke_32 : decode cX5_poke 32 = .ok (.return_, 1) := by decide +kernel
theorem dX5_poke_33 : decode cX5_poke 33 = .ok (.iconst 0, 1) := by decide +kernel
theorem dX5_poke_34 : decode cX5_poke 34 = .ok (.istore 4, 2) := by decide +kernel
theorem dX5_poke_36 : decode cX5_poke 36 = .ok (.iload 4, 2) := by decide +kernel
theorem dX5_poke_38 : decode cX5_poke 38 = .ok (.iload_n 3, 1) := by decide +kernel
theorem dX5_poke_39 : decode cX5_poke 39 = .ok (.if_icmp .ge 48, 3) := by decide +kernel
theorem dX5_poke_42 : decode cX5_poke 42 = .ok (.iload_n 1, 1) := by decide +kernel
theorem dX5_poke_43 : decode cX5_poke 43 = .ok (.iload 4, 2) := by decide +kernel
theorem dX5_poke_45 : decode cX5_poke 45 = .ok (.iadd, 1) := by decide +kernel
theorem dX5_poke_46 : decode cX5_poke 46 = .ok (.sipush 255, 3) := by decide +kernel
theorem dX5_poke_49 : decode cX5_poke 49 = .ok (.iand, 1) := by decide +kernel
theorem dX5_poke_50 : decode cX5_poke 50 = .ok (.istore 5, 2) := by decide +kernel
theorem dX5_poke_52 : decode cX5_poke 52 = .ok (.aload_n 0, 1) := by decide +kernel
theorem dX5_poke_53 : decode cX5_poke 53 = .ok (.getfield 7, 3) := by decide +kernel
theorem dX5_poke_56 : decode cX5_poke 56 = .ok (.iload 5, 2) := by decide +kernel
theorem dX5_poke_58 : decode cX5_poke 58 = .ok (.iload_n 2, 1) := by decide +kernel
theorem dX5_poke_59 : decode cX5_poke 59 = .ok (.bipush 24, 2) := by decide +kernel
theorem dX5_poke_61 : decode cX5_poke 61 = .ok (.bipush 8, 2) := by decide +kernel
theorem dX5_poke_63 : decode cX5_poke 63 = .ok (.iload 4, 2) := by decide +kernel
theorem dX5_poke_65 : decode cX5_poke 65 = .ok (.imul, 1) := by decide +kernel
theorem dX5_poke_66 : decode cX5_poke 66 = .ok (.isub, 1) := by decide +kernel
theorem dX5_poke_67 : decode cX5_poke 67 = .ok (.ishr, 1) := by decide +kernel
theorem dX5_poke_68 : decode cX5_poke 68 = .ok (.sipush 255, 3) := by decide +kernel
theorem dX5_poke_71 : decode cX5_poke 71 = .ok (.iand, 1) := by decide +kernel
theorem dX5_poke_72 : decode cX5_poke 72 = .ok (.iastore, 1) := by decide +kernel
theorem dX5_poke_73 : decode cX5_poke 73 = .ok (.aload_n 0, 1) := by decide +kernel
theorem dX5_poke_74 : decode cX5_poke 74 = .ok (.iload 5, 2) := by decide +kernel
theorem dX5_poke_76 : decode cX5_poke 76 = .ok (.invokevirtual 108, 3) := by decide +kernel
theorem dX5_poke_79 : decode cX5_poke 79 = .ok (.istore 6, 2) := by decide +kernel
theorem dX5_poke_81 : decode cX5_poke 81 = .ok (.iinc 4 1, 3) := by decide +kernel
theorem dX5_poke_84 : decode cX5_poke 84 = .ok (.goto (-48), 3) := by decide +kernel
theorem dX5_poke_87 : decode cX5_poke 87 = .ok (.return_, 1) := by decide +kernel
set_option maxRecDepth 100000 in
theorem ggX5_peek_X5_isIn : GoodIn wsX5_peek wsX5_isIn := goodIn_r _ [5] rfl (by decide +kernel)
set_option maxRecDepth 100000 in
theorem gX5_peek_X5_isIn : GoodIn wsX5_peek (va_wsS RX5 186 yX5_isIn wsX5_isIn) := goodIn_app (goodIn_of _ (by decide +kernel)) ggX5_peek_X5_isIn
set_option maxRecDepth 100000 in
theorem ggX5_peek_X5_refused : GoodIn wsX5_peek wsX5_refused := goodIn_r _ [9, 10, 11, 12, 13, 14, 15, 16, 17, 18, 19, 20, 21, 22, 23, 24, 25, 26, 27, 28, 29, 30, 31, 32, 33, 34, 35, 36, 37] rfl (by decide +kernel)
set_option maxRecDepth 100000 in
theorem gX5_peek_X5_refused : GoodIn wsX5_peek (wsV RX5 190 RX5 yX5_refused wsX5_refused) := goodIn_app (goodIn_of _ (by decide +kernel)) ggX5_peek_X5_refused
theorem dX5_peek_0 : decode cX5_peek 0 = .ok (.aload_n 0, 1) := by decide +kernel
theorem dX5_peek_1 : decode cX5_peek 1 = .ok (.iload_n 1, 1) := by decide +kernel
theorem dX5_peek_2 : decode cX5_peek 2 = .ok (.iconst 0, 1) := by decide +kernel
theorem dX5_peek_3 : decode cX5_peek 3 = .ok (.sipush 255, 3) := by decide +kernel
theorem dX5_peek_6 : decode cX5_peek 6 = .ok (.invokestatic 186, 3) := by decide +kernel
theorem dX5_peek_9 : decode cX5_peek 9 = .ok (.ifCond .eq 7, 3) := by decide +kernel
theorem dX5_peek_12 : decode cX5_peek 12 = .ok (.iconst 0, 1) := by decide +kernel
theorem dX5_peek_13 : decode cX5_peek 13 = .ok (.goto 4, 3) := by decide +kernel
theorem dX5_peek_16 : decode cX5_peek 16 = .ok (.iconst 1, 1) := by decide +kernel
theorem dX5_peek_17 : decode cX5_peek 17 = .ok (.invokevirtual 190, 3) := by decide +kernel
theorem dX5_peek_20 : decode cX5_peek 20 = .ok (.ifCond .eq 5, 3) := by decide +kernel
theorem dX5_peek_23 : decode cX5_peek 23 = .ok (.iconst 0, 1) := by decide +kernel
theorem dX5_peek_24 : decode cX5_peek 24 = .ok (.ireturn, 1) := by decide +kernel
theorem dX5_peek_25 : decode cX5_peek 25 = .ok (.aload_n 0, 1) := by decide +kernel
theorem dX5_peek_26 : decode cX5_peek 26 = .ok (.getfield 7, 3) := by decide +kernel
theorem dX5_peek_29 : decode cX5_peek 29 = .ok (.iload_n 1, 1) := by decide +kernel
theorem dX5_peek_30 : decode cX5_peek 30 = .ok (.iaload, 1) := by decide +kernel
theorem dX5_peek_31 : decode cX5_peek 31 = .ok (.ireturn, 1) := by decide +kernel
set_option maxRecDepth 100000 in
theorem ggX5_set_X5_isIn : GoodIn wsX5_set wsX5_isIn := goodIn_r _ [5] rfl (by decide +kernel)
set_option maxRecDepth 100000 in
theorem gX5_set_X5_isIn : GoodIn wsX5_set (va_wsS RX5 186 yX5_isIn wsX5_isIn) := goodIn_app (goodIn_of _ (by decide +kernel)) ggX5_set_X5_isIn
set_option maxRecDepth 100000 in
theorem ggX5_set_X5_refused : GoodIn wsX5_set wsX5_refused := goodIn_r _ [9, 10, 11, 12, 13, 14, 15, 16, 17, 18, 19, 20, 21, 22, 23, 24, 25, 26, 27, 28, 29, 30, 31, 32, 33, 34, 35, 36, 37] rfl (by decide +kernel)
set_option maxRecDepth 100000 in
theorem gX5_set_X5_refused : GoodIn wsX5_set (wsV RX5 190 RX5 yX5_refused wsX5_refused) := goodIn_app (goodIn_of _ (by decide +kernel)) ggX5_set_X5_refused
theorem dX5_set_0 : decode cX5_set 0 = .ok (.iload_n 1, 1) := by decide +kernel
theorem dX5_set_1 : decode cX5_set 1 = .ok (.iconst 0, 1) := by decide +kernel
theorem dX5_set_2 : decode cX5_set 2 = .ok (.bipush 9, 2) := by decide +kernel
theorem dX5_set_4 : decode cX5_set 4 = .ok (.invokestatic 186, 3) := by decide +kernel
theorem dX5_set_7 : decode cX5_set 7 = .ok (.ifCond .eq 33, 3) := by decide +kernel
theorem dX5_set_10 : decode cX5_set 10 = .ok (.iload_n 2, 1) := by decide +kernel
theorem dX5_set_11 : decode cX5_set 11 = .ok (.iconst 0, 1) := by decide +kernel
theorem dX5_set_12 : decode cX5_set 12 = .ok (.iload_n 1, 1) := by decide +kernel
theorem dX5_set_13 : decode cX5_set 13 = .ok (.iconst 5, 1) := by decide +kernel
theorem dX5_set_14 : decode cX5_set 14 = .ok (.if_icmp .lt 13, 3) := by decide +kernel
theorem dX5_set_17 : decode cX5_set 17 = .ok (.iload_n 1, 1) := by decide +kernel
theorem dX5_set_18 : decode cX5_set 18 = .ok (.bipush 8, 2) := by decide +kernel
theorem dX5_set_20 : decode cX5_set 20 = .ok (.if_icmp .gt 7, 3) := by decide +kernel
theorem dX5_set_23 : decode cX5_set 23 = .ok (.iconst 1, 1) := by decide +kernel
theorem dX5_set_24 : decode cX5_set 24 = .ok (.goto 6, 3) := by decide +kernel
theorem dX5_set_27 : decode cX5_set 27 = .ok (.sipush 255, 3) := by decide +kernel
theorem dX5_set_30 : decode cX5_set 30 = .ok (.invokestatic 186, 3) := by decide +kernel
theorem dX5_set_33 : decode cX5_set 33 = .ok (.ifCond .eq 7, 3) := by decide +kernel
theorem dX5_set_36 : decode cX5_set 36 = .ok (.iconst 1, 1) := by decide +kernel
theorem dX5_set_37 : decode cX5_set 37 = .ok (.goto 4, 3) := by decide +kernel
theorem dX5_set_40 : decode cX5_set 40 = .ok (.iconst 0, 1) := by decide +kernel
theorem dX5_set_41 : decode cX5_set 41 = .ok (.istore_n 3, 1) := by decide +kernel
theorem dX5_set_42 : decode cX5_set 42 = .ok (.aload_n 0, 1) := by decide +kernel
theorem dX5_set_43 : decode cX5_set 43 = .ok (.iload_n 3, 1) := by decide +kernel
theorem dX5_set_44 : decode cX5_set 44 = .ok (.ifCond .eq 7, 3) := by decide +kernel
theorem dX5_set_47 : decode cX5_set 47 = .ok (.iconst 0, 1) := by decide +kernel
theorem dX5_set_48 : decode cX5_set 48 = .ok (.goto 4, 3) := by decide +kernel
theorem dX5_set_51 : decode cX5_set 51 = .ok (.iconst 1, 1) := by decide +kernel
theorem dX5_set_52 : decode cX5_set 52 = .ok (.invokevirtual 190, 3) := by decide +kernel
theorem dX5_set_55 : decode cX5_set 55 = .ok (.ifCond .eq 4, 3) := by decide +kernel
theorem dX5_set_58 : decode cX5_set 58 = .ok (.return_, 1) := by decide +kernel
theorem dX5_set_59 : decode cX5_set 59 = .ok (.aload_n 0, 1) := by decide +kernel
theorem dX5_set_60 : decode cX5_set 60 = .ok (.getfield 13, 3) := by decide +kernel
theorem dX5_set_63 : decode cX5_set 63 = .ok (.iload_n 1, 1) := by decide +kernel
theorem dX5_set_64 : decode cX5_set 64 = .ok (.iload_n 2, 1) := by decide +kernel
theorem dX5_set_65 : decode cX5_set 65 = .ok (.iastore, 1) := by decide +kernel
theorem dX5_set_66 : decode cX5_set 66 = .ok (.return_, 1) := by decide +kernel
set_option maxRecDepth 100000 in
theorem ggX5_get_X5_isIn : GoodIn wsX5_get wsX5_isIn := goodIn_r _ [5] rfl (by decide +kernel)
set_option maxRecDepth 100000 in
theorem gX5_get_X5_isIn : GoodIn wsX5_get (va_wsS RX5 186 yX5_isIn wsX5_isIn) := goodIn_app (goodIn_of _ (by decide +kernel)) ggX5_get_X5_isIn
set_option maxRecDepth 100000 in
theorem ggX5_get_X5_refused : GoodIn wsX5_get wsX5_refused := goodIn_r _ [9, 10, 11, 12, 13, 14, 15, 16, 17, 18, 19, 20, 21, 22, 23, 24, 25, 26, 27, 28, 29, 30, 31, 32, 33, 34, 35, 36, 37] rfl (by decide +kernel)
set_option maxRecDepth 100000 in
theorem gX5_get_X5_refused : GoodIn wsX5_get (wsV RX5 190 RX5 yX5_refused wsX5_refused) := goodIn_app (goodIn_of _ (by decide +kernel)) ggX5_get_X5_refused
theorem dX5_get_0 : decode cX5_get 0 = .ok (.aload_n 0, 1) := by decide +kernel
theorem dX5_get_1 : decode cX5_get 1 = .ok (.iload_n 1, 1) := by decide +kernel
theorem dX5_get_2 : decode cX5_get 2 = .ok (.iconst 0, 1) := by decide +kernel
theorem dX5_get_3 : decode cX5_get 3 = .ok (.bipush 9, 2) := by decide +kernel
theorem dX5_get_5 : decode cX5_get 5 = .ok (.invokestatic 186, 3) := by decide +kernel
theorem dX5_get_8 : decode cX5_get 8 = .ok (.ifCond .eq 7, 3) := by decide +kernel
theorem dX5_get_11 : decode cX5_get 11 = .ok (.iconst 0, 1) := by decide +kernel
theorem dX5_get_12 : decode cX5_get 12 = .ok (.goto 4, 3) := by decide +kernel
theorem dX5_get_15 : decode cX5_get 15 = .ok (.iconst 1, 1) := by decide +kernel
theorem dX5_get_16 : decode cX5_get 16 = .ok (.invokevirtual 190, 3) := by decide +kernel
theorem dX5_get_19 : decode cX5_get 19 = .ok (.ifCond .eq 5, 3) := by decide +kernel
theorem dX5_get_22 : decode cX5_get 22 = .ok (.iconst 0, 1) := by decide +kernel
theorem dX5_get_23 : decode cX5_get 23 = .ok (.ireturn, 1) := by decide +kernel
theorem dX5_get_24 : decode cX5_get 24 = .ok (.aload_n 0, 1) := by decide +kernel
theorem dX5_get_25 : decode cX5_get 25 = .ok (.getfield 13, 3) := by decide +kernel
theorem dX5_get_28 : decode cX5_get 28 = .ok (.iload_n 1, 1) := by decide +kernel
theorem dX5_get_29 : decode cX5_get 29 = .ok (.iaload, 1) := by decide +kernel
theorem dX5_get_30 : decode cX5_get 30 = .ok (.ireturn, 1) := by decide +kernel
set_option maxRecDepth 100000 in
theorem ggX5_input_X5_isIn : GoodIn wsX5_input wsX5_isIn := goodIn_r _ [6] rfl (by decide +kernel)
set_option maxRecDepth 100000 in
theorem gX5_input_X5_isIn : GoodIn wsX5_input (va_wsS RX5 186 yX5_isIn wsX5_isIn) := goodIn_app (goodIn_of _ (by decide +kernel)) ggX5_input_X5_isIn
set_option maxRecDepth 100000 in
theorem ggX5_input_X5_refused : GoodIn wsX5_input wsX5_refused := goodIn_r _ [10, 11, 12, 13, 14, 15, 16, 17, 18, 19, 20, 21, 22, 23, 24, 25, 26, 27, 28, 29, 30, 31, 32, 33, 34, 35, 36, 37, 38] rfl (by decide +kernel)
set_option maxRecDepth 100000 in
theorem gX5_input_X5_refused : GoodIn wsX5_input (wsV RX5 190 RX5 yX5_refused wsX5_refused) := goodIn_app (goodIn_of _ (by decide +kernel)) ggX5_input_X5_refused
theorem dX5_input_0 : decode cX5_input 0 = .ok (.aload_n 0, 1) := by decide +kernel
theorem dX5_input_1 : decode cX5_input 1 = .ok (.iload_n 1, 1) := by decide +kernel
theorem dX5_input_2 : decode cX5_input 2 = .ok (.iconst 0, 1) := by decide +kernel
theorem dX5_input_3 : decode cX5_input 3 = .ok (.sipush 255, 3) := by decide +kernel
theorem dX5_input_6 : decode cX5_input 6 = .ok (.invokestatic 186, 3) := by decide +kernel
theorem dX5_input_9 : decode cX5_input 9 = .ok (.ifCond .ne 7, 3) := by decide +kernel
theorem dX5_input_12 : decode cX5_input 12 = .ok (.iconst 1, 1) := by decide +kernel
theorem dX5_input_13 : decode cX5_input 13 = .ok (.goto 17, 3) := by decide +kernel
theorem dX5_input_16 : decode cX5_input 16 = .ok (.aload_n 0, 1) := by decide +kernel
theorem dX5_input_17 : decode cX5_input 17 = .ok (.getfield 159, 3) := by decide +kernel
theorem dX5_input_20 : decode cX5_input 20 = .ok (.bipush 32, 2) := by decide +kernel
theorem dX5_input_22 : decode cX5_input 22 = .ok (.if_icmp .ne 7, 3) := by decide +kernel
theorem dX5_input_25 : decode cX5_input 25 = .ok (.iconst 2, 1) := by decide +kernel
theorem dX5_input_26 : decode cX5_input 26 = .ok (.goto 4, 3) := by decide +kernel
theorem dX5_input_29 : decode cX5_input 29 = .ok (.iconst 0, 1) := by decide +kernel
theorem dX5_input_30 : decode cX5_input 30 = .ok (.invokevirtual 190, 3) := by decide +kernel
theorem dX5_input_33 : decode cX5_input 33 = .ok (.ifCond .eq 5, 3) := by decide +kernel
theorem dX5_input_36 : decode cX5_input 36 = .ok (.iconst 0, 1) := by decide +kernel
theorem dX5_input_37 : decode cX5_input 37 = .ok (.ireturn, 1) := by decide +kernel
theorem dX5_input_38 : decode cX5_input 38 = .ok (.aload_n 0, 1) := by decide +kernel
theorem dX5_input_39 : decode cX5_input 39 = .ok (.getfield 16, 3) := by decide +kernel
theorem dX5_input_42 : decode cX5_input 42 = .ok (.aload_n 0, 1) := by decide +kernel
theorem dX5_input_43 : decode cX5_input 43 = .ok (.getfield 159, 3) := by decide +kernel
theorem dX5_input_46 : decode cX5_input 46 = .ok (.iload_n 1, 1) := by decide +kernel
theorem dX5_input_47 : decode cX5_input 47 = .ok (.iastore, 1) := by decide +kernel
theorem dX5_input_48 : decode cX5_input 48 = .ok (.aload_n 0, 1) := by decide +kernel
theorem dX5_input_49 : decode cX5_input 49 = .ok (.dup, 1) := by decide +kernel
theorem dX5_input_50 : decode cX5_input 50 = .ok (.getfield 159, 3) := by decide +kernel
theorem dX5_input_53 : decode cX5_input 53 = .ok (.iconst 1, 1) := by decide +kernel
theorem dX5_input_54 : decode cX5_input 54 = .ok (.iadd, 1) := by decide +kernel
theorem dX5_input_55 : decode cX5_input 55 = .ok (.putfield 159, 3) := by decide +kernel
theorem dX5_input_58 : decode cX5_input 58 = .ok (.aload_n 0, 1) := by decide +kernel
theorem dX5_input_59 : decode cX5_input 59 = .ok (.getfield 159, 3) := by decide +kernel
theorem dX5_input_62 : decode cX5_input 62 = .ok (.ireturn, 1) := by decide +kernel
set_option maxRecDepth 100000 in
theorem ggX5_request_X5_refused : GoodIn wsX5_request wsX5_refused := goodIn_r _ [9, 10, 11, 12, 13, 14, 15, 16, 17, 18, 19, 20, 21, 22, 23, 24, 25, 26, 27, 28, 29, 30, 31, 32, 33, 34, 35, 36, 37] rfl (by decide +kernel)
set_option maxRecDepth 100000 in
theorem gX5_request_X5_refused : GoodIn wsX5_request (wsV RX5 190 RX5 yX5_refused wsX5_refused) := goodIn_app (goodIn_of _ (by decide +kernel)) ggX5_request_X5_refused
theorem dX5_request_0 : decode cX5_request 0 = .ok (.aload_n 0, 1) := by decide +kernel
theorem dX5_request_1 : decode cX5_request 1 = .ok (.iload_n 1, 1) := by decide +kernel
theorem dX5_request_2 : decode cX5_request 2 = .ok (.aload_n 0, 1) := by decide +kernel
theorem dX5_request_3 : decode cX5_request 3 = .ok (.getfield 22, 3) := by decide +kernel
theorem dX5_request_6 : decode cX5_request 6 = .ok (.if_icmp .le 13, 3) := by decide +kernel
theorem dX5_request_9 : decode cX5_request 9 = .ok (.iload_n 1, 1) := by decide +kernel
theorem dX5_request_10 : decode cX5_request 10 = .ok (.aload_n 0, 1) := by decide +kernel
theorem dX5_request_11 : decode cX5_request 11 = .ok (.getfield 50, 3) := by decide +kernel
theorem dX5_request_14 : decode cX5_request 14 = .ok (.iconst 0, 1) := by decide +kernel
theorem dX5_request_15 : decode cX5_request 15 = .ok (.iaload, 1) := by decide +kernel
theorem dX5_request_16 : decode cX5_request 16 = .ok (.if_icmp .ge 7, 3) := by decide +kernel
theorem dX5_request_19 : decode cX5_request 19 = .ok (.iconst 1, 1) := by decide +kernel
theorem dX5_request_20 : decode cX5_request 20 = .ok (.goto 17, 3) := by decide +kernel
theorem dX5_request_23 : decode cX5_request 23 = .ok (.aload_n 0, 1) := by decide +kernel
theorem dX5_request_24 : decode cX5_request 24 = .ok (.getfield 162, 3) := by decide +kernel
theorem dX5_request_27 : decode cX5_request 27 = .ok (.bipush 16, 2) := by decide +kernel
theorem dX5_request_29 : decode cX5_request 29 = .ok (.if_icmp .ne 7, 3) := by decide +kernel
theorem dX5_request_32 : decode cX5_request 32 = .ok (.iconst 2, 1) := by decide +kernel
theorem dX5_request_33 : decode cX5_request 33 = .ok (.goto 4, 3) := by decide +kernel
theorem dX5_request_36 : decode cX5_request 36 = .ok (.iconst 0, 1) := by decide +kernel
theorem dX5_request_37 : decode cX5_request 37 = .ok (.invokevirtual 190, 3) := by decide +kernel
theorem dX5_request_40 : decode cX5_request 40 = .ok (.ifCond .eq 5, 3) := by decide +kernel
theorem dX5_request_43 : decode cX5_request 43 = .ok (.iconst 0, 1) := by decide +kernel
theorem dX5_request_44 : decode cX5_request 44 = .ok (.ireturn, 1) := by decide +kernel
theorem dX5_request_45 : decode cX5_request 45 = .ok (.aload_n 0, 1) := by decide +kernel
theorem dX5_request_46 : decode cX5_request 46 = .ok (.getfield 19, 3) := by decide +kernel
theorem dX5_request_49 : decode cX5_request 49 = .ok (.aload_n 0, 1) := by decide +kernel
theorem dX5_request_50 : decode cX5_request 50 = .ok (.getfield 162, 3) := by decide +kernel
theorem dX5_request_53 : decode cX5_request 53 = .ok (.iload_n 1, 1) := by decide +kernel
theorem dX5_request_54 : decode cX5_request 54 = .ok (.iastore, 1) := by decide +kernel
theorem dX5_request_55 : decode cX5_request 55 = .ok (.aload_n 0, 1) := by decide +kernel
theorem dX5_request_56 : decode cX5_request 56 = .ok (.dup, 1) := by decide +kernel
theorem dX5_request_57 : decode cX5_request 57 = .ok (.getfield 162, 3) := by decide +kernel
theorem dX5_request_60 : decode cX5_request 60 = .ok (.iconst 1, 1) := by decide +kernel
theorem dX5_request_61 : decode cX5_request 61 = .ok (.iadd, 1) := by decide +kernel
theorem dX5_request_62 : decode cX5_request 62 = .ok (.putfield 162, 3) := by decide +kernel
theorem dX5_request_65 : decode cX5_request 65 = .ok (.aload_n 0, 1) := by decide +kernel
theorem dX5_request_66 : decode cX5_request 66 = .ok (.iload_n 1, 1) := by decide +kernel
theorem dX5_request_67 : decode cX5_request 67 = .ok (.putfield 22, 3) := by decide +kernel
theorem dX5_request_70 : decode cX5_request 70 = .ok (.aload_n 0, 1) := by decide +kernel
theorem dX5_request_71 : decode cX5_request 71 = .ok (.getfield 162, 3) := by decide +kernel
theorem dX5_request_74 : decode cX5_request 74 = .ok (.ireturn, 1) := by decide +kernel
set_option maxRecDepth 100000 in
theorem ggX5_room_X5_isIn : GoodIn wsX5_room wsX5_isIn := goodIn_r _ [5] rfl (by decide +kernel)
set_option maxRecDepth 100000 in
theorem gX5_room_X5_isIn : GoodIn wsX5_room (va_wsS RX5 186 yX5_isIn wsX5_isIn) := goodIn_app (goodIn_of _ (by decide +kernel)) ggX5_room_X5_isIn
set_option maxRecDepth 100000 in
theorem ggX5_room_X5_refused : GoodIn wsX5_room wsX5_refused := goodIn_r _ [9, 10, 21, 22, 23, 24, 25, 26, 27, 28, 29, 30, 31, 32, 33, 34, 35, 36, 37, 38, 39, 40, 41, 42, 43, 44, 45, 46, 47] rfl (by decide +kernel)
set_option maxRecDepth 100000 in
theorem gX5_room_X5_refused : GoodIn wsX5_room (wsV RX5 190 RX5 yX5_refused wsX5_refused) := goodIn_app (goodIn_of _ (by decide +kernel)) ggX5_room_X5_refused
set_option maxRecDepth 100000 in
theorem ggX5_room_X5_empty : GoodIn wsX5_room wsX5_empty := goodIn_r _ [14, 15, 16, 17, 18, 4, 19, 20, 21, 22, 23, 24, 25, 26, 27, 28, 29, 30, 31, 32, 33, 34, 35, 36, 37, 38, 39, 40, 41, 42, 43, 44, 45, 46, 47] rfl (by decide +kernel)
set_option maxRecDepth 100000 in
theorem gX5_room_X5_empty : GoodIn wsX5_room (wsV RX5 114 RX5 yX5_empty wsX5_empty) := goodIn_app (goodIn_of _ (by decide +kernel)) ggX5_room_X5_empty
theorem dX5_room_0 : decode cX5_room 0 = .ok (.aload_n 0, 1) := by decide +kernel
theorem dX5_room_1 : decode cX5_room 1 = .ok (.iload_n 1, 1) := by decide +kernel
theorem dX5_room_2 : decode cX5_room 2 = .ok (.iconst 1, 1) := by decide +kernel
theorem dX5_room_3 : decode cX5_room 3 = .ok (.sipush 400, 3) := by decide +kernel
theorem dX5_room_6 : decode cX5_room 6 = .ok (.invokestatic 186, 3) := by decide +kernel
theorem dX5_room_9 : decode cX5_room 9 = .ok (.ifCond .eq 7, 3) := by decide +kernel
theorem dX5_room_12 : decode cX5_room 12 = .ok (.iconst 0, 1) := by decide +kernel
theorem dX5_room_13 : decode cX5_room 13 = .ok (.goto 4, 3) := by decide +kernel
theorem dX5_room_16 : decode cX5_room 16 = .ok (.iconst 1, 1) := by decide +kernel
theorem dX5_room_17 : decode cX5_room 17 = .ok (.invokevirtual 190, 3) := by decide +kernel
theorem dX5_room_20 : decode cX5_room 20 = .ok (.ifCond .eq 4, 3) := by decide +kernel
theorem dX5_room_23 : decode cX5_room 23 = .ok (.return_, 1) := by decide +kernel
theorem dX5_room_24 : decode cX5_room 24 = .ok (.aload_n 0, 1) := by decide +kernel
theorem dX5_room_25 : decode cX5_room 25 = .ok (.iload_n 1, 1) := by decide +kernel
theorem dX5_room_26 : decode cX5_room 26 = .ok (.putfield 47, 3) := by decide +kernel
theorem dX5_room_29 : decode cX5_room 29 = .ok (.aload_n 0, 1) := by decide +kernel
theorem dX5_room_30 : decode cX5_room 30 = .ok (.invokevirtual 114, 3) := by decide +kernel
theorem dX5_room_33 : decode cX5_room 33 = .ok (.return_, 1) := by decide +kernel
set_option maxRecDepth 100000 in
theorem ggX5_output_X5_isIn : GoodIn wsX5_output wsX5_isIn := goodIn_r _ [7] rfl (by decide +kernel)
set_option maxRecDepth 100000 in
theorem gX5_output_X5_isIn : GoodIn wsX5_output (va_wsS RX5 186 yX5_isIn wsX5_isIn) := goodIn_app (goodIn_of _ (by decide +kernel)) ggX5_output_X5_isIn
theorem dX5_output_0 : decode cX5_output 0 = .ok (.aload_n 0, 1) := by decide +kernel
theorem dX5_output_1 : decode cX5_output 1 = .ok (.iconst 0, 1) := by decide +kernel
theorem dX5_output_2 : decode cX5_output 2 = .ok (.putfield 59, 3) := by decide +kernel
theorem dX5_output_5 : decode cX5_output 5 = .ok (.iload_n 1, 1) := by decide +kernel
theorem dX5_output_6 : decode cX5_output 6 = .ok (.iconst 0, 1) := by decide +kernel
theorem dX5_output_7 : decode cX5_output 7 = .ok (.aload_n 0, 1) := by decide +kernel
theorem dX5_output_8 : decode cX5_output 8 = .ok (.getfield 50, 3) := by decide +kernel
theorem dX5_output_11 : decode cX5_output 11 = .ok (.bipush 10, 2) := by decide +kernel
theorem dX5_output_13 : decode cX5_output 13 = .ok (.iaload, 1) := by decide +kernel
theorem dX5_output_14 : decode cX5_output 14 = .ok (.iconst 1, 1) := by decide +kernel
theorem dX5_output_15 : decode cX5_output 15 = .ok (.isub, 1) := by decide +kernel
theorem dX5_output_16 : decode cX5_output 16 = .ok (.invokestatic 186, 3) := by decide +kernel
theorem dX5_output_19 : decode cX5_output 19 = .ok (.ifCond .eq 18, 3) := by decide +kernel
theorem dX5_output_22 : decode cX5_output 22 = .ok (.iload_n 1, 1) := by decide +kernel
theorem dX5_output_23 : decode cX5_output 23 = .ok (.bipush 100, 2) := by decide +kernel
theorem dX5_output_25 : decode cX5_output 25 = .ok (.if_icmp .ge 12, 3) := by decide +kernel
theorem dX5_output_28 : decode cX5_output 28 = .ok (.aload_n 0, 1) := by decide +kernel
theorem dX5_output_29 : decode cX5_output 29 = .ok (.getfield 26, 3) := by decide +kernel
theorem dX5_output_32 : decode cX5_output 32 = .ok (.iload_n 1, 1) := by decide +kernel
theorem dX5_output_33 : decode cX5_output 33 = .ok (.iaload, 1) := by decide +kernel
theorem dX5_output_34 : decode cX5_output 34 = .ok (.goto 4, 3) := by decide +kernel
theorem dX5_output_37 : decode cX5_output 37 = .ok (.iconst (-1), 1) := by decide +kernel
theorem dX5_output_38 : decode cX5_output 38 = .ok (.ireturn, 1) := by decide +kernel
set_option maxRecDepth 100000 in
theorem ggX5_count_X5_isIn : GoodIn wsX5_count wsX5_isIn := goodIn_r _ [5] rfl (by decide +kernel)
set_option maxRecDepth 100000 in
theorem gX5_count_X5_isIn : GoodIn wsX5_count (va_wsS RX5 186 yX5_isIn wsX5_isIn) := goodIn_app (goodIn_of _ (by decide +kernel)) ggX5_count_X5_isIn
set_option maxRecDepth 100000 in
theorem ggX5_count_X5_refused : GoodIn wsX5_count wsX5_refused := goodIn_r _ [9, 10, 11, 12, 13, 14, 15, 16, 17, 18, 19, 20, 21, 22, 23, 24, 25, 26, 27, 28, 29, 30, 31, 32, 33, 34, 35, 36, 37] rfl (by decide +kernel)
set_option maxRecDepth 100000 in
theorem gX5_count_X5_refused : GoodIn wsX5_count (wsV RX5 190 RX5 yX5_refused wsX5_refused) := goodIn_app (goodIn_of _ (by decide +kernel)) ggX5_count_X5_refused
theorem dX5_count_0 : decode cX5_count 0 = .ok (.aload_n 0, 1) := by decide +kernel
theorem dX5_count_1 : decode cX5_count 1 = .ok (.iload_n 1, 1) := by decide +kernel
theorem dX5_count_2 : decode cX5_count 2 = .ok (.iconst 0, 1) := by decide +kernel
theorem dX5_count_3 : decode cX5_count 3 = .ok (.bipush 11, 2) := by decide +kernel
theorem dX5_count_5 : decode cX5_count 5 = .ok (.invokestatic 186, 3) := by decide +kernel
theorem dX5_count_8 : decode cX5_count 8 = .ok (.ifCond .eq 7, 3) := by decide +kernel
theorem dX5_count_11 : decode cX5_count 11 = .ok (.iconst 0, 1) := by decide +kernel
theorem dX5_count_12 : decode cX5_count 12 = .ok (.goto 4, 3) := by decide +kernel
theorem dX5_count_15 : decode cX5_count 15 = .ok (.iconst 1, 1) := by decide +kernel
theorem dX5_count_16 : decode cX5_count 16 = .ok (.invokevirtual 190, 3) := by decide +kernel
theorem dX5_count_19 : decode cX5_count 19 = .ok (.ifCond .eq 5, 3) := by decide +kernel
theorem dX5_count_22 : decode cX5_count 22 = .ok (.iconst 0, 1) := by decide +kernel
theorem dX5_count_23 : decode cX5_count 23 = .ok (.ireturn, 1) := by decide +kernel
theorem dX5_count_24 : decode cX5_count 24 = .ok (.aload_n 0, 1) := by decide +kernel
theorem dX5_count_25 : decode cX5_count 25 = .ok (.getfield 50, 3) := by decide +kernel
theorem dX5_count_28 : decode cX5_count 28 = .ok (.iload_n 1, 1) := by decide +kernel
theorem dX5_count_29 : decode cX5_count 29 = .ok (.iaload, 1) := by decide +kernel
theorem dX5_count_30 : decode cX5_count 30 = .ok (.ireturn, 1) := by decide +kernel
theorem dJ7_fill_53178_0 : decode cJ7_fill_53178 0 = .ok (.iconst 0, 1) := by decide +kernel
theorem dJ7_fill_53178_1 : decode cJ7_fill_53178 1 = .ok (.istore_n 2, 1) := by decide +kernel
theorem dJ7_fill_53178_2 : decode cJ7_fill_53178 2 = .ok (.aload_n 0, 1) := by decide +kernel
theorem dJ7_fill_53178_3 : decode cJ7_fill_53178 3 = .ok (.arraylength, 1) := by decide +kernel
theorem dJ7_fill_53178_4 : decode cJ7_fill_53178 4 = .ok (.istore_n 3, 1) := by decide +kernel
theorem dJ7_fill_53178_5 : decode cJ7_fill_53178 5 = .ok (.iload_n 2, 1) := by decide +kernel
theorem dJ7_fill_53178_6 : decode cJ7_fill_53178 6 = .ok (.iload_n 3, 1) := by decide +kernel
theorem dJ7_fill_53178_7 : decode cJ7_fill_53178 7 = .ok (.if_icmp .ge 13, 3) := by decide +kernel
theorem dJ7_fill_53178_10 : decode cJ7_fill_53178 10 = .ok (.aload_n 0, 1) := by decide +kernel
theorem dJ7_fill_53178_11 : decode cJ7_fill_53178 11 = .ok (.iload_n 2, 1) := by decide +kernel
theorem dJ7_fill_53178_12 : decode cJ7_fill_53178 12 = .ok (.iload_n 1, 1) := by decide +kernel
theorem dJ7_fill_53178_13 : decode cJ7_fill_53178 13 = .ok (.iastore, 1) := by decide +kernel
theorem dJ7_fill_53178_14 : decode cJ7_fill_53178 14 = .ok (.iinc 2 1, 3) := by decide +kernel
theorem dJ7_fill_53178_17 : decode cJ7_fill_53178 17 = .ok (.goto (-12), 3) := by decide +kernel
theorem dJ7_fill_53178_20 : decode cJ7_fill_53178 20 = .ok (.return_, 1) := by decide +kernel
