theorem dX8_round_1 : decode cX8_round 1 = .ok (.getfield 104, 3) := by decide +kernel
theorem dX8_round_4 : decode cX8_round 4 = .ok (.ifCond .ne 6, 3) := by decide +kernel
theorem dX8_round_7 : decode cX8_round 7 = .ok (.bipush (-3), 2) := by decide +kernel
theorem dX8_round_9 : decode cX8_round 9 = .ok (.ireturn, 1) := by decide +kernel
theorem dX8_round_10 : decode cX8_round 10 = .ok (.aload_n 0, 1) := by decide +kernel
theorem dX8_round_11 : decode cX8_round 11 = .ok (.getfield 118, 3) := by decide +kernel
theorem dX8_round_14 : decode cX8_round 14 = .ok (.bipush 100, 2) := by decide +kernel
theorem dX8_round_16 : decode cX8_round 16 = .ok (.if_icmp .ne 6, 3) := by decide +kernel
theorem dX8_round_19 : decode cX8_round 19 = .ok (.bipush (-4), 2) := by decide +kernel
theorem dX8_round_21 : decode cX8_round 21 = .ok (.ireturn, 1) := by decide +kernel
theorem dX8_round_22 : decode cX8_round 22 = .ok (.iconst 0, 1) := by decide +kernel
theorem dX8_round_23 : decode cX8_round 23 = .ok (.istore_n 1, 1) := by decide +kernel
theorem dX8_round_24 : decode cX8_round 24 = .ok (.iload_n 1, 1) := by decide +kernel
theorem dX8_round_25 : decode cX8_round 25 = .ok (.aload_n 0, 1) := by decide +kernel
theorem dX8_round_26 : decode cX8_round 26 = .ok (.getfield 203, 3) := by decide +kernel
theorem dX8_round_29 : decode cX8_round 29 = .ok (.if_icmp .ge 45, 3) := by decide +kernel
theorem dX8_round_32 : decode cX8_round 32 = .ok (.aload_n 0, 1) := by decide +kernel
theorem dX8_round_33 : decode cX8_round 33 = .ok (.getfield 62, 3) := by decide +kernel
theorem dX8_round_36 : decode cX8_round 36 = .ok (.iload_n 1, 1) := by decide +kernel
theorem dX8_round_37 : decode cX8_round 37 = .ok (.aload_n 0, 1) := by decide +kernel
theorem dX8_round_38 : decode cX8_round 38 = .ok (.getfield 53, 3) := by decide +kernel
theorem dX8_round_41 : decode cX8_round 41 = .ok (.iload_n 1, 1) := by decide +kernel
theorem dX8_round_42 : decode cX8_round 42 = .ok (.iaload, 1) := by decide +kernel
theorem dX8_round_43 : decode cX8_round 43 = .ok (.iastore, 1) := by decide +kernel
theorem dX8_round_44 : decode cX8_round 44 = .ok (.aload_n 0, 1) := by decide +kernel
theorem dX8_round_45 : decode cX8_round 45 = .ok (.getfield 65, 3) := by decide +kernel
theorem dX8_round_48 : decode cX8_round 48 = .ok (.iload_n 1, 1) := by decide +kernel
theorem dX8_round_49 : decode cX8_round 49 = .ok (.aload_n 0, 1) := by decide +kernel
theorem dX8_round_50 : decode cX8_round 50 = .ok (.getfield 56, 3) := by decide +kernel
theorem dX8_round_53 : decode cX8_round 53 = .ok (.iload_n 1, 1) := by decide +kernel
theorem dX8_round_54 : decode cX8_round 54 = .ok (.iaload, 1) := by decide +kernel
theorem dX8_round_55 : decode cX8_round 55 = .ok (.iastore, 1) := by decide +kernel
theorem dX8_round_56 : decode cX8_round 56 = .ok (.aload_n 0, 1) := by decide +kernel
theorem dX8_round_57 : decode cX8_round 57 = .ok (.getfield 68, 3) := by decide +kernel
theorem dX8_round_60 : decode cX8_round 60 = .ok (.iload_n 1, 1) := by decide +kernel
theorem dX8_round_61 : decode cX8_round 61 = .ok (.aload_n 0, 1) := by decide +kernel
theorem dX8_round_62 : decode cX8_round 62 = .ok (.getfield 59, 3) := by decide +kernel
theorem dX8_round_65 : decode cX8_round 65 = .ok (.iload_n 1, 1) := by decide +kernel
theorem dX8_round_66 : decode cX8_round 66 = .ok (.iaload, 1) := by decide +kernel
theorem dX8_round_67 : decode cX8_round 67 = .ok (.iastore, 1) := by decide +kernel
theorem dX8_round_68 : decode cX8_round 68 = .ok (.iinc 1 1, 3) := by decide +kernel
theorem dX8_round_71 : decode cX8_round 71 = .ok (.goto (-47), 3) := by decide +kernel
theorem dX8_round_74 : decode cX8_round 74 = .ok (.aload_n 0, 1) := by decide +kernel
theorem dX8_round_75 : decode cX8_round 75 = .ok (.aload_n 0, 1) := by decide +kernel
theorem dX8_round_76 : decode cX8_round 76 = .ok (.getfield 203, 3) := by decide +kernel
theorem dX8_round_79 : decode cX8_round 79 = .ok (.putfield 219, 3) := by decide +kernel
theorem dX8_round_82 : decode cX8_round 82 = .ok (.aload_n 0, 1) := by decide +kernel
theorem dX8_round_83 : decode cX8_round 83 = .ok (.iconst 0, 1) := by decide +kernel
theorem dX8_round_84 : decode cX8_round 84 = .ok (.putfield 203, 3) := by decide +kernel
theorem dX8_round_87 : decode cX8_round 87 = .ok (.iconst 0, 1) := by decide +kernel
theorem dX8_round_88 : decode cX8_round 88 = .ok (.istore_n 1, 1) := by decide +kernel
theorem dX8_round_89 : decode cX8_round 89 = .ok (.iconst 0, 1) := by decide +kernel
theorem dX8_round_90 : decode cX8_round 90 = .ok (.istore_n 2, 1) := by decide +kernel
theorem dX8_round_91 : decode cX8_round 91 = .ok (.iload_n 2, 1) := by decide +kernel
theorem dX8_round_92 : decode cX8_round 92 = .ok (.iconst 3, 1) := by decide +kernel
theorem dX8_round_93 : decode cX8_round 93 = .ok (.aload_n 0, 1) := by decide +kernel
theorem dX8_round_94 : decode cX8_round 94 = .ok (.getfield 104, 3) := by decide +kernel
theorem dX8_round_97 : decode cX8_round 97 = .ok (.imul, 1) := by decide +kernel
theorem dX8_round_98 : decode cX8_round 98 = .ok (.if_icmp .ge 107, 3) := by decide +kernel
theorem dX8_round_101 : decode cX8_round 101 = .ok (.aload_n 0, 1) := by decide +kernel
theorem dX8_round_102 : decode cX8_round 102 = .ok (.getfield 22, 3) := by decide +kernel
theorem dX8_round_105 : decode cX8_round 105 = .ok (.iload_n 2, 1) := by decide +kernel
theorem dX8_round_106 : decode cX8_round 106 = .ok (.baload, 1) := by decide +kernel
theorem dX8_round_107 : decode cX8_round 107 = .ok (.ifCond .ne 6, 3) := by decide +kernel
theorem dX8_round_110 : decode cX8_round 110 = .ok (.goto 89, 3) := by decide +kernel
theorem dX8_round_113 : decode cX8_round 113 = .ok (.iconst 0, 1) := by decide +kernel
theorem dX8_round_114 : decode cX8_round 114 = .ok (.istore_n 3, 1) := by decide +kernel
theorem dX8_round_115 : decode cX8_round 115 = .ok (.iload_n 3, 1) := by decide +kernel
theorem dX8_round_116 : decode cX8_round 116 = .ok (.bipush 24, 2) := by decide +kernel
theorem dX8_round_118 : decode cX8_round 118 = .ok (.if_icmp .ge 59, 3) := by decide +kernel
theorem dX8_round_121 : decode cX8_round 121 = .ok (.aload_n 0, 1) := by decide +kernel
theorem dX8_round_122 : decode cX8_round 122 = .ok (.getfield 13, 3) := by decide +kernel
theorem dX8_round_125 : decode cX8_round 125 = .ok (.bipush 24, 2) := by decide +kernel
theorem dX8_round_127 : decode cX8_round 127 = .ok (.iload_n 2, 1) := by decide +kernel
theorem dX8_round_128 : decode cX8_round 128 = .ok (.imul, 1) := by decide +kernel
theorem dX8_round_129 : decode cX8_round 129 = .ok (.iload_n 3, 1) := by decide +kernel
theorem dX8_round_130 : decode cX8_round 130 = .ok (.iadd, 1) := by decide +kernel
theorem dX8_round_131 : decode cX8_round 131 = .ok (.aload_n 0, 1) := by decide +kernel
theorem dX8_round_132 : decode cX8_round 132 = .ok (.getfield 13, 3) := by decide +kernel
theorem dX8_round_135 : decode cX8_round 135 = .ok (.bipush 24, 2) := by decide +kernel
theorem dX8_round_137 : decode cX8_round 137 = .ok (.iload_n 2, 1) := by decide +kernel
theorem dX8_round_138 : decode cX8_round 138 = .ok (.bipush 15, 2) := by decide +kernel
theorem dX8_round_140 : decode cX8_round 140 = .ok (.iadd, 1) := by decide +kernel
theorem dX8_round_141 : decode cX8_round 141 = .ok (.imul, 1) := by decide +kernel
theorem dX8_round_142 : decode cX8_round 142 = .ok (.iload_n 3, 1) := by decide +kernel
theorem dX8_round_143 : decode cX8_round 143 = .ok (.iadd, 1) := by decide +kernel
theorem dX8_round_144 : decode cX8_round 144 = .ok (.iaload, 1) := by decide +kernel
theorem dX8_round_145 : decode cX8_round 145 = .ok (.iastore, 1) := by decide +kernel
theorem dX8_round_146 : decode cX8_round 146 = .ok (.aload_n 0, 1) := by decide +kernel
theorem dX8_round_147 : decode cX8_round 147 = .ok (.getfield 16, 3) := by decide +kernel
theorem dX8_round_150 : decode cX8_round 150 = .ok (.bipush 24, 2) := by decide +kernel
theorem dX8_round_152 : decode cX8_round 152 = .ok (.iload_n 2, 1) := by decide +kernel
theorem dX8_round_153 : decode cX8_round 153 = .ok (.imul, 1) := by decide +kernel
theorem dX8_round_154 : decode cX8_round 154 = .ok (.iload_n 3, 1) := by decide +kernel
theorem dX8_round_155 : decode cX8_round 155 = .ok (.iadd, 1) := by decide +kernel
theorem dX8_round_156 : decode cX8_round 156 = .ok (.aload_n 0, 1) := by decide +kernel
theorem dX8_round_157 : decode cX8_round 157 = .ok (.getfield 16, 3) := by decide +kernel
theorem dX8_round_160 : decode cX8_round 160 = .ok (.bipush 24, 2) := by decide +kernel
theorem dX8_round_162 : decode cX8_round 162 = .ok (.iload_n 2, 1) := by decide +kernel
theorem dX8_round_163 : decode cX8_round 163 = .ok (.bipush 15, 2) := by decide +kernel
theorem dX8_round_165 : decode cX8_round 165 = .ok (.iadd, 1) := by decide +kernel
theorem dX8_round_166 : decode cX8_round 166 = .ok (.imul, 1) := by decide +kernel
theorem dX8_round_167 : decode cX8_round 167 = .ok (.iload_n 3, 1) := by decide +kernel
theorem dX8_round_168 : decode cX8_round 168 = .ok (.iadd, 1) := by decide +kernel
theorem dX8_round_169 : decode cX8_round 169 = .ok (.iaload, 1) := by decide +kernel
theorem dX8_round_170 : decode cX8_round 170 = .ok (.iastore, 1) := by decide +kernel
theorem dX8_round_171 : decode cX8_round 171 = .ok (.iinc 3 1, 3) := by decide +kernel
theorem dX8_round_174 : decode cX8_round 174 = .ok (.goto (-59), 3) := by decide +kernel
theorem dX8_round_177 : decode cX8_round 177 = .ok (.aload_n 0, 1) := by decide +kernel
theorem dX8_round_178 : decode cX8_round 178 = .ok (.getfield 19, 3) := by decide +kernel
theorem dX8_round_181 : decode cX8_round 181 = .ok (.iload_n 2, 1) := by decide +kernel
theorem dX8_round_182 : decode cX8_round 182 = .ok (.aload_n 0, 1) := by decide +kernel
theorem dX8_round_183 : decode cX8_round 183 = .ok (.getfield 19, 3) := by decide +kernel
theorem dX8_round_186 : decode cX8_round 186 = .ok (.iload_n 2, 1) := by decide +kernel
theorem dX8_round_187 : decode cX8_round 187 = .ok (.bipush 15, 2) := by decide +kernel
theorem dX8_round_189 : decode cX8_round 189 = .ok (.iadd, 1) := by decide +kernel
theorem dX8_round_190 : decode cX8_round 190 = .ok (.iaload, 1) := by decide +kernel
theorem dX8_round_191 : decode cX8_round 191 = .ok (.iastore, 1) := by decide +kernel
theorem dX8_round_192 : decode cX8_round 192 = .ok (.aload_n 0, 1) := by decide +kernel
theorem dX8_round_193 : decode cX8_round 193 = .ok (.getfield 22, 3) := by decide +kernel
theorem dX8_round_196 : decode cX8_round 196 = .ok (.iload_n 2, 1) := by decide +kernel
theorem dX8_round_197 : decode cX8_round 197 = .ok (.iconst 0, 1) := by decide +kernel
theorem dX8_round_198 : decode cX8_round 198 = .ok (.bastore, 1) := by decide +kernel
theorem dX8_round_199 : decode cX8_round 199 = .ok (.iinc 2 1, 3) := by decide +kernel
theorem dX8_round_202 : decode cX8_round 202 = .ok (.goto (-111), 3) := by decide +kernel
theorem dX8_round_205 : decode cX8_round 205 = .ok (.iconst 0, 1) := by decide +kernel
theorem dX8_round_206 : decode cX8_round 206 = .ok (.istore_n 2, 1) := by decide +kernel
theorem dX8_round_207 : decode cX8_round 207 = .ok (.iload_n 2, 1) := by decide +kernel
theorem dX8_round_208 : decode cX8_round 208 = .ok (.iconst 3, 1) := by decide +kernel
theorem dX8_round_209 : decode cX8_round 209 = .ok (.aload_n 0, 1) := by decide +kernel
theorem dX8_round_210 : decode cX8_round 210 = .ok (.getfield 104, 3) := by decide +kernel
theorem dX8_round_213 : decode cX8_round 213 = .ok (.imul, 1) := by decide +kernel
theorem dX8_round_214 : decode cX8_round 214 = .ok (.if_icmp .ge 64, 3) := by decide +kernel
theorem dX8_round_217 : decode cX8_round 217 = .ok (.aload_n 0, 1) := by decide +kernel
theorem dX8_round_218 : decode cX8_round 218 = .ok (.aload_n 0, 1) := by decide +kernel
theorem dX8_round_219 : decode cX8_round 219 = .ok (.getfield 118, 3) := by decide +kernel
theorem dX8_round_222 : decode cX8_round 222 = .ok (.iload_n 2, 1) := by decide +kernel
theorem dX8_round_223 : decode cX8_round 223 = .ok (.invokevirtual 222, 3) := by decide +kernel
theorem dX8_round_226 : decode cX8_round 226 = .ok (.istore_n 3, 1) := by decide +kernel
theorem dX8_round_227 : decode cX8_round 227 = .ok (.aload_n 0, 1) := by decide +kernel
theorem dX8_round_228 : decode cX8_round 228 = .ok (.getfield 71, 3) := by decide +kernel
theorem dX8_round_231 : decode cX8_round 231 = .ok (.bipush 15, 2) := by decide +kernel
theorem dX8_round_233 : decode cX8_round 233 = .ok (.aload_n 0, 1) := by decide +kernel
theorem dX8_round_234 : decode cX8_round 234 = .ok (.getfield 118, 3) := by decide +kernel
theorem dX8_round_237 : decode cX8_round 237 = .ok (.imul, 1) := by decide +kernel
theorem dX8_round_238 : decode cX8_round 238 = .ok (.iload_n 2, 1) := by decide +kernel
theorem dX8_round_239 : decode cX8_round 239 = .ok (.iadd, 1) := by decide +kernel
theorem dX8_round_240 : decode cX8_round 240 = .ok (.iload_n 3, 1) := by decide +kernel
theorem dX8_round_241 : decode cX8_round 241 = .ok (.bastore, 1) := by decide +kernel
theorem dX8_round_242 : decode cX8_round 242 = .ok (.aload_n 0, 1) := by decide +kernel
theorem dX8_round_243 : decode cX8_round 243 = .ok (.getfield 44, 3) := by decide +kernel
theorem dX8_round_246 : decode cX8_round 246 = .ok (.iload_n 2, 1) := by decide +kernel
theorem dX8_round_247 : decode cX8_round 247 = .ok (.dup2, 1) := by decide +kernel
theorem dX8_round_248 : decode cX8_round 248 = .ok (.iaload, 1) := by decide +kernel
theorem dX8_round_249 : decode cX8_round 249 = .ok (.iload_n 3, 1) := by decide +kernel
theorem dX8_round_250 : decode cX8_round 250 = .ok (.ifCond .eq 7, 3) := by decide +kernel
theorem dX8_round_253 : decode cX8_round 253 = .ok (.iconst 1, 1) := by decide +kernel
theorem dX8_round_254 : decode cX8_round 254 = .ok (.goto 4, 3) := by decide +kernel
theorem dX8_round_257 : decode cX8_round 257 = .ok (.iconst 0, 1) := by decide +kernel
theorem dX8_round_258 : decode cX8_round 258 = .ok (.iadd, 1) := by decide +kernel
theorem dX8_round_259 : decode cX8_round 259 = .ok (.iastore, 1) := by decide +kernel
theorem dX8_round_260 : decode cX8_round 260 = .ok (.iload_n 1, 1) := by decide +kernel
theorem dX8_round_261 : decode cX8_round 261 = .ok (.iload_n 3, 1) := by decide +kernel
theorem dX8_round_262 : decode cX8_round 262 = .ok (.ifCond .eq 7, 3) := by decide +kernel
theorem dX8_round_265 : decode cX8_round 265 = .ok (.iconst 1, 1) := by decide +kernel
theorem dX8_round_266 : decode cX8_round 266 = .ok (.goto 4, 3) := by decide +kernel
theorem dX8_round_269 : decode cX8_round 269 = .ok (.iconst 0, 1) := by decide +kernel
theorem dX8_round_270 : decode cX8_round 270 = .ok (.iadd, 1) := by decide +kernel
theorem dX8_round_271 : decode cX8_round 271 = .ok (.istore_n 1, 1) := by decide +kernel
theorem dX8_round_272 : decode cX8_round 272 = .ok (.iinc 2 1, 3) := by decide +kernel
theorem dX8_round_275 : decode cX8_round 275 = .ok (.goto (-68), 3) := by decide +kernel
theorem dX8_round_278 : decode cX8_round 278 = .ok (.aload_n 0, 1) := by decide +kernel
theorem dX8_round_279 : decode cX8_round 279 = .ok (.dup, 1) := by decide +kernel
theorem dX8_round_280 : decode cX8_round 280 = .ok (.getfield 118, 3) := by decide +kernel
theorem dX8_round_283 : decode cX8_round 283 = .ok (.iconst 1, 1) := by decide +kernel
theorem dX8_round_284 : decode cX8_round 284 = .ok (.iadd, 1) := by decide +kernel
theorem dX8_round_285 : decode cX8_round 285 = .ok (.putfield 118, 3) := by decide +kernel
theorem dX8_round_288 : decode cX8_round 288 = .ok (.iload_n 1, 1) := by decide +kernel
theorem dX8_round_289 : decode cX8_round 289 = .ok (.ireturn, 1) := by decide +kernel
set_option maxRecDepth 20000 in
theorem ggX8_up_X8_isPlace : GoodIn wsX8_up wsX8_isPlace := goodIn_r _ [7, 8, 9, 10, 11, 6, 12, 13, 14, 15, 16, 17, 18, 19, 20, 21, 22, 23, 24, 25, 26, 27, 28, 29, 30, 31, 32, 33, 34, 35, 36, 37, 38, 39, 40, 41, 42, 43, 44, 45, 46, 47, 48, 49, 50, 51, 52, 53, 54, 55, 56, 57, 58, 59] (by decide +kernel) (by decide +kernel)
set_option maxRecDepth 20000 in
theorem gX8_up_X8_isPlace : GoodIn wsX8_up (wsV RX8 149 RX8 yX8_isPlace wsX8_isPlace) := goodIn_app (goodIn_of _ (by decide +kernel)) ggX8_up_X8_isPlace
set_option maxRecDepth 20000 in
theorem ggX8_up_X8_isIn : GoodIn wsX8_up wsX8_isIn := goodIn_r _ [16] (by decide +kernel) (by decide +kernel)
set_option maxRecDepth 20000 in
theorem gX8_up_X8_isIn : GoodIn wsX8_up (va_wsS RX8 114 yX8_isIn wsX8_isIn) := goodIn_app (goodIn_of _ (by decide +kernel)) ggX8_up_X8_isIn
theorem dX8_up_0 : decode cX8_up 0 = .ok (.aload_n 0, 1) := by decide +kernel
theorem dX8_up_1 : decode cX8_up 1 = .ok (.iload_n 1, 1) := by decide +kernel
theorem dX8_up_2 : decode cX8_up 2 = .ok (.iload_n 2, 1) := by decide +kernel
theorem dX8_up_3 : decode cX8_up 3 = .ok (.invokevirtual 149, 3) := by decide +kernel
theorem dX8_up_6 : decode cX8_up 6 = .ok (.ifCond .eq 45, 3) := by decide +kernel
theorem dX8_up_9 : decode cX8_up 9 = .ok (.iload_n 3, 1) := by decide +kernel
theorem dX8_up_10 : decode cX8_up 10 = .ok (.i2l, 1) := by decide +kernel
theorem dX8_up_11 : decode cX8_up 11 = .ok (.lconst 0, 1) := by decide +kernel
theorem dX8_up_12 : decode cX8_up 12 = .ok (.aload_n 0, 1) := by decide +kernel
theorem dX8_up_13 : decode cX8_up 13 = .ok (.getfield 118, 3) := by decide +kernel
theorem dX8_up_16 : decode cX8_up 16 = .ok (.iconst 1, 1) := by decide +kernel
theorem dX8_up_17 : decode cX8_up 17 = .ok (.isub, 1) := by decide +kernel
theorem dX8_up_18 : decode cX8_up 18 = .ok (.i2l, 1) := by decide +kernel
theorem dX8_up_19 : decode cX8_up 19 = .ok (.invokestatic 114, 3) := by decide +kernel
theorem dX8_up_22 : decode cX8_up 22 = .ok (.ifCond .eq 29, 3) := by decide +kernel
theorem dX8_up_25 : decode cX8_up 25 = .ok (.aload_n 0, 1) := by decide +kernel
theorem dX8_up_26 : decode cX8_up 26 = .ok (.getfield 71, 3) := by decide +kernel
theorem dX8_up_29 : decode cX8_up 29 = .ok (.bipush 15, 2) := by decide +kernel
theorem dX8_up_31 : decode cX8_up 31 = .ok (.iload_n 3, 1) := by decide +kernel
theorem dX8_up_32 : decode cX8_up 32 = .ok (.imul, 1) := by decide +kernel
theorem dX8_up_33 : decode cX8_up 33 = .ok (.iconst 3, 1) := by decide +kernel
theorem dX8_up_34 : decode cX8_up 34 = .ok (.iload_n 1, 1) := by decide +kernel
theorem dX8_up_35 : decode cX8_up 35 = .ok (.imul, 1) := by decide +kernel
theorem dX8_up_36 : decode cX8_up 36 = .ok (.iadd, 1) := by decide +kernel
theorem dX8_up_37 : decode cX8_up 37 = .ok (.iload_n 2, 1) := by decide +kernel
theorem dX8_up_38 : decode cX8_up 38 = .ok (.iadd, 1) := by decide +kernel
theorem dX8_up_39 : decode cX8_up 39 = .ok (.baload, 1) := by decide +kernel
theorem dX8_up_40 : decode cX8_up 40 = .ok (.ifCond .eq 7, 3) := by decide +kernel
theorem dX8_up_43 : decode cX8_up 43 = .ok (.iconst 1, 1) := by decide +kernel
theorem dX8_up_44 : decode cX8_up 44 = .ok (.goto 8, 3) := by decide +kernel
theorem dX8_up_47 : decode cX8_up 47 = .ok (.iconst 0, 1) := by decide +kernel
theorem dX8_up_48 : decode cX8_up 48 = .ok (.goto 4, 3) := by decide +kernel
theorem dX8_up_51 : decode cX8_up 51 = .ok (.iconst (-1), 1) := by decide +kernel
theorem dX8_up_52 : decode cX8_up 52 = .ok (.ireturn, 1) := by decide +kernel
set_option maxRecDepth 20000 in
theorem ggX8_check_X8_isPlace : GoodIn wsX8_check wsX8_isPlace := goodIn_r _ [11, 1, 12, 13, 14, 10, 15, 16, 17, 18, 19, 20, 21, 22, 23, 24, 25, 26, 27, 28, 29, 30, 31, 32, 33, 34, 35, 36, 37, 38, 39, 40, 41, 42, 43, 44, 45, 46, 47, 48, 49, 50, 51, 52, 53, 54, 55, 56, 57, 58, 59, 60, 61, 62] (by decide +kernel) (by decide +kernel)
set_option maxRecDepth 20000 in
theorem gX8_check_X8_isPlace : GoodIn wsX8_check (wsV RX8 149 RX8 yX8_isPlace wsX8_isPlace) := goodIn_app (goodIn_of _ (by decide +kernel)) ggX8_check_X8_isPlace
set_option maxRecDepth 20000 in
theorem ggX8_check_X8_isIn : GoodIn wsX8_check wsX8_isIn := goodIn_r _ [19] (by decide +kernel) (by decide +kernel)
set_option maxRecDepth 20000 in
theorem gX8_check_X8_isIn : GoodIn wsX8_check (va_wsS RX8 114 yX8_isIn wsX8_isIn) := goodIn_app (goodIn_of _ (by decide +kernel)) ggX8_check_X8_isIn
theorem dX8_check_0 : decode cX8_check 0 = .ok (.aload_n 0, 1) := by decide +kernel
theorem dX8_check_1 : decode cX8_check 1 = .ok (.iload_n 1, 1) := by decide +kernel
theorem dX8_check_2 : decode cX8_check 2 = .ok (.iload_n 2, 1) := by decide +kernel
theorem dX8_check_3 : decode cX8_check 3 = .ok (.invokevirtual 149, 3) := by decide +kernel
theorem dX8_check_6 : decode cX8_check 6 = .ok (.ifCond .eq 22, 3) := by decide +kernel
theorem dX8_check_9 : decode cX8_check 9 = .ok (.iload_n 3, 1) := by decide +kernel
theorem dX8_check_10 : decode cX8_check 10 = .ok (.i2l, 1) := by decide +kernel
theorem dX8_check_11 : decode cX8_check 11 = .ok (.lconst 0, 1) := by decide +kernel
theorem dX8_check_12 : decode cX8_check 12 = .ok (.ldc2_w 112, 3) := by decide +kernel
theorem dX8_check_15 : decode cX8_check 15 = .ok (.invokestatic 114, 3) := by decide +kernel
theorem dX8_check_18 : decode cX8_check 18 = .ok (.ifCond .eq 10, 3) := by decide +kernel
theorem dX8_check_21 : decode cX8_check 21 = .ok (.aload_n 0, 1) := by decide +kernel
theorem dX8_check_22 : decode cX8_check 22 = .ok (.getfield 118, 3) := by decide +kernel
theorem dX8_check_25 : decode cX8_check 25 = .ok (.ifCond .ne 5, 3) := by decide +kernel
theorem dX8_check_28 : decode cX8_check 28 = .ok (.iconst (-1), 1) := by decide +kernel
theorem dX8_check_29 : decode cX8_check 29 = .ok (.ireturn, 1) := by decide +kernel
theorem dX8_check_30 : decode cX8_check 30 = .ok (.iconst 3, 1) := by decide +kernel
theorem dX8_check_31 : decode cX8_check 31 = .ok (.iconst 3, 1) := by decide +kernel
theorem dX8_check_32 : decode cX8_check 32 = .ok (.iload_n 1, 1) := by decide +kernel
theorem dX8_check_33 : decode cX8_check 33 = .ok (.imul, 1) := by decide +kernel
theorem dX8_check_34 : decode cX8_check 34 = .ok (.iload_n 2, 1) := by decide +kernel
theorem dX8_check_35 : decode cX8_check 35 = .ok (.iadd, 1) := by decide +kernel
theorem dX8_check_36 : decode cX8_check 36 = .ok (.imul, 1) := by decide +kernel
theorem dX8_check_37 : decode cX8_check 37 = .ok (.iload_n 3, 1) := by decide +kernel
theorem dX8_check_38 : decode cX8_check 38 = .ok (.iadd, 1) := by decide +kernel
theorem dX8_check_39 : decode cX8_check 39 = .ok (.istore 5, 2) := by decide +kernel
theorem dX8_check_41 : decode cX8_check 41 = .ok (.iload 4, 2) := by decide +kernel
theorem dX8_check_43 : decode cX8_check 43 = .ok (.tableswitch 61 0 3 #[29, 37, 45, 53], 29) := by decide +kernel
theorem dX8_check_72 : decode cX8_check 72 = .ok (.aload_n 0, 1) := by decide +kernel
theorem dX8_check_73 : decode cX8_check 73 = .ok (.getfield 74, 3) := by decide +kernel
theorem dX8_check_76 : decode cX8_check 76 = .ok (.iload 5, 2) := by decide +kernel
theorem dX8_check_78 : decode cX8_check 78 = .ok (.iaload, 1) := by decide +kernel
theorem dX8_check_79 : decode cX8_check 79 = .ok (.ireturn, 1) := by decide +kernel
theorem dX8_check_80 : decode cX8_check 80 = .ok (.aload_n 0, 1) := by decide +kernel
theorem dX8_check_81 : decode cX8_check 81 = .ok (.getfield 77, 3) := by decide +kernel
theorem dX8_check_84 : decode cX8_check 84 = .ok (.iload 5, 2) := by decide +kernel
theorem dX8_check_86 : decode cX8_check 86 = .ok (.iaload, 1) := by decide +kernel
theorem dX8_check_87 : decode cX8_check 87 = .ok (.ireturn, 1) := by decide +kernel
theorem dX8_check_88 : decode cX8_check 88 = .ok (.aload_n 0, 1) := by decide +kernel
theorem dX8_check_89 : decode cX8_check 89 = .ok (.getfield 80, 3) := by decide +kernel
theorem dX8_check_92 : decode cX8_check 92 = .ok (.iload 5, 2) := by decide +kernel
theorem dX8_check_94 : decode cX8_check 94 = .ok (.iaload, 1) := by decide +kernel
theorem dX8_check_95 : decode cX8_check 95 = .ok (.ireturn, 1) := by decide +kernel
theorem dX8_check_96 : decode cX8_check 96 = .ok (.aload_n 0, 1) := by decide +kernel
theorem dX8_check_97 : decode cX8_check 97 = .ok (.getfield 83, 3) := by decide +kernel
theorem dX8_check_100 : decode cX8_check 100 = .ok (.iload 5, 2) := by decide +kernel
theorem dX8_check_102 : decode cX8_check 102 = .ok (.iaload, 1) := by decide +kernel
theorem dX8_check_103 : decode cX8_check 103 = .ok (.ireturn, 1) := by decide +kernel
theorem dX8_check_104 : decode cX8_check 104 = .ok (.iconst (-1), 1) := by decide +kernel
theorem dX8_check_105 : decode cX8_check 105 = .ok (.ireturn, 1) := by decide +kernel
set_option maxRecDepth 20000 in
theorem ggX8_flag_X8_isPlace : GoodIn wsX8_flag wsX8_isPlace := goodIn_r _ [6, 7, 8, 9, 10, 5, 11, 12, 13, 14, 15, 25, 26, 27, 28, 29, 30, 31, 32, 33, 34, 35, 36, 37, 38, 39, 40, 41, 42, 43, 44, 45, 46, 47, 48, 49, 50, 51, 52, 53, 54, 55, 56, 57, 58, 59, 60, 61, 62, 63, 64, 65, 66, 67] (by decide +kernel) (by decide +kernel)
set_option maxRecDepth 20000 in
theorem gX8_flag_X8_isPlace : GoodIn wsX8_flag (wsV RX8 149 RX8 yX8_isPlace wsX8_isPlace) := goodIn_app (goodIn_of _ (by decide +kernel)) ggX8_flag_X8_isPlace
set_option maxRecDepth 20000 in
theorem ggX8_flag_X8_isIn : GoodIn wsX8_flag wsX8_isIn := goodIn_r _ [15] (by decide +kernel) (by decide +kernel)
set_option maxRecDepth 20000 in
theorem gX8_flag_X8_isIn : GoodIn wsX8_flag (va_wsS RX8 114 yX8_isIn wsX8_isIn) := goodIn_app (goodIn_of _ (by decide +kernel)) ggX8_flag_X8_isIn
set_option maxRecDepth 20000 in
theorem ggX8_flag_X8_flagOf : GoodIn wsX8_flag wsX8_flagOf := goodIn_r _ [19, 20, 21, 22, 5, 23, 24, 25, 26, 27, 28, 29, 30, 31, 32, 33, 34, 35, 36, 37, 38, 39, 40, 41, 42, 43, 44, 45, 46, 47, 48, 49, 50, 51, 52, 53, 54, 55, 56, 57, 58, 59, 60, 61, 62, 63, 64, 65, 66, 67] (by decide +kernel) (by decide +kernel)
set_option maxRecDepth 20000 in
theorem gX8_flag_X8_flagOf : GoodIn wsX8_flag (wsV RX8 216 RX8 yX8_flagOf wsX8_flagOf) := goodIn_app (goodIn_of _ (by decide +kernel)) ggX8_flag_X8_flagOf
theorem dX8_flag_0 : decode cX8_flag 0 = .ok (.aload_n 0, 1) := by decide +kernel
theorem dX8_flag_1 : decode cX8_flag 1 = .ok (.iload_n 1, 1) := by decide +kernel
theorem dX8_flag_2 : decode cX8_flag 2 = .ok (.iload_n 2, 1) := by decide +kernel
theorem dX8_flag_3 : decode cX8_flag 3 = .ok (.invokevirtual 149, 3) := by decide +kernel
theorem dX8_flag_6 : decode cX8_flag 6 = .ok (.ifCond .eq 32, 3) := by decide +kernel
theorem dX8_flag_9 : decode cX8_flag 9 = .ok (.iload_n 3, 1) := by decide +kernel
theorem dX8_flag_10 : decode cX8_flag 10 = .ok (.i2l, 1) := by decide +kernel
theorem dX8_flag_11 : decode cX8_flag 11 = .ok (.lconst 0, 1) := by decide +kernel
theorem dX8_flag_12 : decode cX8_flag 12 = .ok (.aload_n 0, 1) := by decide +kernel
theorem dX8_flag_13 : decode cX8_flag 13 = .ok (.getfield 118, 3) := by decide +kernel
theorem dX8_flag_16 : decode cX8_flag 16 = .ok (.iconst 1, 1) := by decide +kernel
theorem dX8_flag_17 : decode cX8_flag 17 = .ok (.isub, 1) := by decide +kernel
theorem dX8_flag_18 : decode cX8_flag 18 = .ok (.i2l, 1) := by decide +kernel
theorem dX8_flag_19 : decode cX8_flag 19 = .ok (.invokestatic 114, 3) := by decide +kernel
theorem dX8_flag_22 : decode cX8_flag 22 = .ok (.ifCond .eq 16, 3) := by decide +kernel
theorem dX8_flag_25 : decode cX8_flag 25 = .ok (.aload_n 0, 1) := by decide +kernel
theorem dX8_flag_26 : decode cX8_flag 26 = .ok (.iload_n 3, 1) := by decide +kernel
theorem dX8_flag_27 : decode cX8_flag 27 = .ok (.iconst 3, 1) := by decide +kernel
theorem dX8_flag_28 : decode cX8_flag 28 = .ok (.iload_n 1, 1) := by decide +kernel
theorem dX8_flag_29 : decode cX8_flag 29 = .ok (.imul, 1) := by decide +kernel
theorem dX8_flag_30 : decode cX8_flag 30 = .ok (.iload_n 2, 1) := by decide +kernel
theorem dX8_flag_31 : decode cX8_flag 31 = .ok (.iadd, 1) := by decide +kernel
theorem dX8_flag_32 : decode cX8_flag 32 = .ok (.invokevirtual 216, 3) := by decide +kernel
theorem dX8_flag_35 : decode cX8_flag 35 = .ok (.goto 4, 3) := by decide +kernel
theorem dX8_flag_38 : decode cX8_flag 38 = .ok (.iconst (-1), 1) := by decide +kernel
theorem dX8_flag_39 : decode cX8_flag 39 = .ok (.ireturn, 1) := by decide +kernel
theorem dX8_handed_0 : decode cX8_handed 0 = .ok (.aload_n 0, 1) := by decide +kernel
theorem dX8_handed_1 : decode cX8_handed 1 = .ok (.getfield 89, 3) := by decide +kernel
theorem dX8_handed_4 : decode cX8_handed 4 = .ok (.bipush 75, 2) := by decide +kernel
theorem dX8_handed_6 : decode cX8_handed 6 = .ok (.iload_n 1, 1) := by decide +kernel
theorem dX8_handed_7 : decode cX8_handed 7 = .ok (.imul, 1) := by decide +kernel
theorem dX8_handed_8 : decode cX8_handed 8 = .ok (.iconst 5, 1) := by decide +kernel
theorem dX8_handed_9 : decode cX8_handed 9 = .ok (.iload_n 2, 1) := by decide +kernel
theorem dX8_handed_10 : decode cX8_handed 10 = .ok (.imul, 1) := by decide +kernel
theorem dX8_handed_11 : decode cX8_handed 11 = .ok (.iadd, 1) := by decide +kernel
theorem dX8_handed_12 : decode cX8_handed 12 = .ok (.iload_n 3, 1) := by decide +kernel
theorem dX8_handed_13 : decode cX8_handed 13 = .ok (.iadd, 1) := by decide +kernel
theorem dX8_handed_14 : decode cX8_handed 14 = .ok (.iaload, 1) := by decide +kernel
theorem dX8_handed_15 : decode cX8_handed 15 = .ok (.iconst 1, 1) := by decide +kernel
theorem dX8_handed_16 : decode cX8_handed 16 = .ok (.isub, 1) := by decide +kernel
theorem dX8_handed_17 : decode cX8_handed 17 = .ok (.ireturn, 1) := by decide +kernel
set_option maxRecDepth 20000 in
theorem ggX8_hand_X8_isTeam : GoodIn wsX8_hand wsX8_isTeam := goodIn_r _ [10, 11, 32, 33, 34, 35, 36, 37, 38, 39, 40, 41, 42, 43, 44, 45, 46, 47, 48, 49, 50, 51, 52, 53, 54, 55, 56, 57, 58, 59, 60, 61, 62, 63, 64, 65, 66, 67, 68, 69, 70, 71, 72, 73, 74] (by decide +kernel) (by decide +kernel)
set_option maxRecDepth 20000 in
theorem gX8_hand_X8_isTeam : GoodIn wsX8_hand (wsV RX8 108 RX8 yX8_isTeam wsX8_isTeam) := goodIn_app (goodIn_of _ (by decide +kernel)) ggX8_hand_X8_isTeam
set_option maxRecDepth 20000 in
theorem ggX8_hand_X8_isPlace : GoodIn wsX8_hand wsX8_isPlace := goodIn_r _ [15, 16, 6, 7, 8, 9, 10, 11, 17, 18, 19, 32, 33, 34, 35, 36, 37, 38, 39, 40, 41, 42, 43, 44, 45, 46, 47, 48, 49, 50, 51, 52, 53, 54, 55, 56, 57, 58, 59, 60, 61, 62, 63, 64, 65, 66, 67, 68, 69, 70, 71, 72, 73, 74] (by decide +kernel) (by decide +kernel)
set_option maxRecDepth 20000 in
theorem gX8_hand_X8_isPlace : GoodIn wsX8_hand (wsV RX8 149 RX8 yX8_isPlace wsX8_isPlace) := goodIn_app (goodIn_of _ (by decide +kernel)) ggX8_hand_X8_isPlace
set_option maxRecDepth 20000 in
theorem ggX8_hand_X8_isIn : GoodIn wsX8_hand wsX8_isIn := goodIn_r _ [19] (by decide +kernel) (by decide +kernel)
set_option maxRecDepth 20000 in
theorem gX8_hand_X8_isIn : GoodIn wsX8_hand (va_wsS RX8 114 yX8_isIn wsX8_isIn) := goodIn_app (goodIn_of _ (by decide +kernel)) ggX8_hand_X8_isIn
set_option maxRecDepth 20000 in
theorem ggX8_hand_X8_flagOf : GoodIn wsX8_hand wsX8_flagOf := goodIn_r _ [23, 24, 25, 26, 9, 27, 3, 32, 33, 34, 35, 36, 37, 38, 39, 40, 41, 42, 43, 44, 45, 46, 47, 48, 49, 50, 51, 52, 53, 54, 55, 56, 57, 58, 59, 60, 61, 62, 63, 64, 65, 66, 67, 68, 69, 70, 71, 72, 73, 74] (by decide +kernel) (by decide +kernel)
set_option maxRecDepth 20000 in
theorem gX8_hand_X8_flagOf : GoodIn wsX8_hand (wsV RX8 216 RX8 yX8_flagOf wsX8_flagOf) := goodIn_app (goodIn_of _ (by decide +kernel)) ggX8_hand_X8_flagOf
set_option maxRecDepth 20000 in
theorem ggX8_hand_X8_handed : GoodIn wsX8_hand wsX8_handed := goodIn_r _ [31, 4, 32, 33, 34, 35, 36, 37, 38, 39, 40, 41, 42, 43, 44, 45, 46, 47, 48, 49, 50, 51, 52, 53, 54, 55, 56, 57, 58, 59, 60, 61, 62, 63, 64, 65, 66, 67, 68, 69, 70, 71, 72, 73, 74] (by decide +kernel) (by decide +kernel)
set_option maxRecDepth 20000 in
theorem gX8_hand_X8_handed : GoodIn wsX8_hand (wsV RX8 225 RX8 yX8_handed wsX8_handed) := goodIn_app (goodIn_of _ (by decide +kernel)) ggX8_hand_X8_handed
theorem dX8_hand_0 : decode cX8_hand 0 = .ok (.aload_n 0, 1) := by decide +kernel
theorem dX8_hand_1 : decode cX8_hand 1 = .ok (.iload_n 1, 1) := by decide +kernel
theorem dX8_hand_2 : decode cX8_hand 2 = .ok (.invokevirtual 108, 3) := by decide +kernel
theorem dX8_hand_5 : decode cX8_hand 5 = .ok (.ifCond .eq 12, 3) := by decide +kernel
theorem dX8_hand_8 : decode cX8_hand 8 = .ok (.aload_n 0, 1) := by decide +kernel
theorem dX8_hand_9 : decode cX8_hand 9 = .ok (.iload_n 2, 1) := by decide +kernel
theorem dX8_hand_10 : decode cX8_hand 10 = .ok (.iload_n 3, 1) := by decide +kernel
theorem dX8_hand_11 : decode cX8_hand 11 = .ok (.invokevirtual 149, 3) := by decide +kernel
theorem dX8_hand_14 : decode cX8_hand 14 = .ok (.ifCond .ne 5, 3) := by decide +kernel
theorem dX8_hand_17 : decode cX8_hand 17 = .ok (.iconst (-1), 1) := by decide +kernel
theorem dX8_hand_18 : decode cX8_hand 18 = .ok (.ireturn, 1) := by decide +kernel
theorem dX8_hand_19 : decode cX8_hand 19 = .ok (.iload 4, 2) := by decide +kernel
theorem dX8_hand_21 : decode cX8_hand 21 = .ok (.i2l, 1) := by decide +kernel
theorem dX8_hand_22 : decode cX8_hand 22 = .ok (.lconst 0, 1) := by decide +kernel
theorem dX8_hand_23 : decode cX8_hand 23 = .ok (.ldc2_w 166, 3) := by decide +kernel
theorem dX8_hand_26 : decode cX8_hand 26 = .ok (.invokestatic 114, 3) := by decide +kernel
theorem dX8_hand_29 : decode cX8_hand 29 = .ok (.ifCond .eq 8, 3) := by decide +kernel
theorem dX8_hand_32 : decode cX8_hand 32 = .ok (.iload_n 1, 1) := by decide +kernel
theorem dX8_hand_33 : decode cX8_hand 33 = .ok (.iload_n 2, 1) := by decide +kernel
theorem dX8_hand_34 : decode cX8_hand 34 = .ok (.if_icmp .ne 6, 3) := by decide +kernel
theorem dX8_hand_37 : decode cX8_hand 37 = .ok (.bipush (-2), 2) := by decide +kernel
theorem dX8_hand_39 : decode cX8_hand 39 = .ok (.ireturn, 1) := by decide +kernel
theorem dX8_hand_40 : decode cX8_hand 40 = .ok (.iconst 3, 1) := by decide +kernel
theorem dX8_hand_41 : decode cX8_hand 41 = .ok (.iload_n 2, 1) := by decide +kernel
theorem dX8_hand_42 : decode cX8_hand 42 = .ok (.imul, 1) := by decide +kernel
theorem dX8_hand_43 : decode cX8_hand 43 = .ok (.iload_n 3, 1) := by decide +kernel
theorem dX8_hand_44 : decode cX8_hand 44 = .ok (.iadd, 1) := by decide +kernel
theorem dX8_hand_45 : decode cX8_hand 45 = .ok (.istore 5, 2) := by decide +kernel
theorem dX8_hand_47 : decode cX8_hand 47 = .ok (.aload_n 0, 1) := by decide +kernel
theorem dX8_hand_48 : decode cX8_hand 48 = .ok (.getfield 118, 3) := by decide +kernel
theorem dX8_hand_51 : decode cX8_hand 51 = .ok (.iconst 1, 1) := by decide +kernel
theorem dX8_hand_52 : decode cX8_hand 52 = .ok (.isub, 1) := by decide +kernel
theorem dX8_hand_53 : decode cX8_hand 53 = .ok (.istore 6, 2) := by decide +kernel
theorem dX8_hand_55 : decode cX8_hand 55 = .ok (.iload 6, 2) := by decide +kernel
theorem dX8_hand_57 : decode cX8_hand 57 = .ok (.ifCond .lt 87, 3) := by decide +kernel
theorem dX8_hand_60 : decode cX8_hand 60 = .ok (.iload 6, 2) := by decide +kernel
theorem dX8_hand_62 : decode cX8_hand 62 = .ok (.aload_n 0, 1) := by decide +kernel
theorem dX8_hand_63 : decode cX8_hand 63 = .ok (.getfield 118, 3) := by decide +kernel
theorem dX8_hand_66 : decode cX8_hand 66 = .ok (.aload_n 0, 1) := by decide +kernel
theorem dX8_hand_67 : decode cX8_hand 67 = .ok (.getfield 47, 3) := by decide +kernel
theorem dX8_hand_70 : decode cX8_hand 70 = .ok (.iconst 2, 1) := by decide +kernel
theorem dX8_hand_71 : decode cX8_hand 71 = .ok (.iaload, 1) := by decide +kernel
theorem dX8_hand_72 : decode cX8_hand 72 = .ok (.isub, 1) := by decide +kernel
theorem dX8_hand_73 : decode cX8_hand 73 = .ok (.if_icmp .lt 71, 3) := by decide +kernel
theorem dX8_hand_76 : decode cX8_hand 76 = .ok (.aload_n 0, 1) := by decide +kernel
theorem dX8_hand_77 : decode cX8_hand 77 = .ok (.iload 6, 2) := by decide +kernel
theorem dX8_hand_79 : decode cX8_hand 79 = .ok (.iload 5, 2) := by decide +kernel
theorem dX8_hand_81 : decode cX8_hand 81 = .ok (.invokevirtual 216, 3) := by decide +kernel
theorem dX8_hand_84 : decode cX8_hand 84 = .ok (.iload 4, 2) := by decide +kernel
theorem dX8_hand_86 : decode cX8_hand 86 = .ok (.if_icmp .ne 52, 3) := by decide +kernel
theorem dX8_hand_89 : decode cX8_hand 89 = .ok (.aload_n 0, 1) := by decide +kernel
theorem dX8_hand_90 : decode cX8_hand 90 = .ok (.iload 6, 2) := by decide +kernel
theorem dX8_hand_92 : decode cX8_hand 92 = .ok (.iload 5, 2) := by decide +kernel
theorem dX8_hand_94 : decode cX8_hand 94 = .ok (.iload_n 1, 1) := by decide +kernel
theorem dX8_hand_95 : decode cX8_hand 95 = .ok (.invokevirtual 225, 3) := by decide +kernel
theorem dX8_hand_98 : decode cX8_hand 98 = .ok (.ifCond .lt 6, 3) := by decide +kernel
theorem dX8_hand_101 : decode cX8_hand 101 = .ok (.goto 37, 3) := by decide +kernel
theorem dX8_hand_104 : decode cX8_hand 104 = .ok (.aload_n 0, 1) := by decide +kernel
theorem dX8_hand_105 : decode cX8_hand 105 = .ok (.getfield 89, 3) := by decide +kernel
theorem dX8_hand_108 : decode cX8_hand 108 = .ok (.bipush 75, 2) := by decide +kernel
theorem dX8_hand_110 : decode cX8_hand 110 = .ok (.iload 6, 2) := by decide +kernel
theorem dX8_hand_112 : decode cX8_hand 112 = .ok (.imul, 1) := by decide +kernel
theorem dX8_hand_113 : decode cX8_hand 113 = .ok (.iconst 5, 1) := by decide +kernel
theorem dX8_hand_114 : decode cX8_hand 114 = .ok (.iload 5, 2) := by decide +kernel
theorem dX8_hand_116 : decode cX8_hand 116 = .ok (.imul, 1) := by decide +kernel
theorem dX8_hand_117 : decode cX8_hand 117 = .ok (.iadd, 1) := by decide +kernel
theorem dX8_hand_118 : decode cX8_hand 118 = .ok (.iload_n 1, 1) := by decide +kernel
theorem dX8_hand_119 : decode cX8_hand 119 = .ok (.iadd, 1) := by decide +kernel
theorem dX8_hand_120 : decode cX8_hand 120 = .ok (.aload_n 0, 1) := by decide +kernel
theorem dX8_hand_121 : decode cX8_hand 121 = .ok (.getfield 118, 3) := by decide +kernel
theorem dX8_hand_124 : decode cX8_hand 124 = .ok (.iastore, 1) := by decide +kernel
theorem dX8_hand_125 : decode cX8_hand 125 = .ok (.aload_n 0, 1) := by decide +kernel
theorem dX8_hand_126 : decode cX8_hand 126 = .ok (.dup, 1) := by decide +kernel
theorem dX8_hand_127 : decode cX8_hand 127 = .ok (.getfield 228, 3) := by decide +kernel
theorem dX8_hand_130 : decode cX8_hand 130 = .ok (.iconst 1, 1) := by decide +kernel
theorem dX8_hand_131 : decode cX8_hand 131 = .ok (.iadd, 1) := by decide +kernel
theorem dX8_hand_132 : decode cX8_hand 132 = .ok (.putfield 228, 3) := by decide +kernel
theorem dX8_hand_135 : decode cX8_hand 135 = .ok (.iload 6, 2) := by decide +kernel
theorem dX8_hand_137 : decode cX8_hand 137 = .ok (.ireturn, 1) := by decide +kernel
theorem dX8_hand_138 : decode cX8_hand 138 = .ok (.iinc 6 (-1), 3) := by decide +kernel
theorem dX8_hand_141 : decode cX8_hand 141 = .ok (.goto (-86), 3) := by decide +kernel
theorem dX8_hand_144 : decode cX8_hand 144 = .ok (.bipush (-3), 2) := by decide +kernel
theorem dX8_hand_146 : decode cX8_hand 146 = .ok (.ireturn, 1) := by decide +kernel
set_option maxRecDepth 20000 in
theorem ggX8_findPoints_X8_stolen : GoodIn wsX8_findPoints wsX8_stolen := goodIn_r _ [12, 6, 2, 4, 3, 13, 14, 15, 11, 16, 17, 18, 19, 20, 21, 22, 23, 24, 25, 26, 27, 28, 29, 30, 31, 32, 33, 34, 35, 36, 37, 38, 39, 40, 41, 42, 43, 44, 45, 46, 47, 48, 49, 50, 51, 52, 53, 54, 55, 56, 57, 58, 59, 60, 61, 62, 63, 64] (by decide +kernel) (by decide +kernel)
set_option maxRecDepth 20000 in
theorem gX8_findPoints_X8_stolen : GoodIn wsX8_findPoints (wsV RX8 231 RX8 yX8_stolen wsX8_stolen) := goodIn_app (goodIn_of _ (by decide +kernel)) ggX8_findPoints_X8_stolen
theorem dX8_findPoints_0 : decode cX8_findPoints 0 = .ok (.iconst 0, 1) := by decide +kernel
theorem dX8_findPoints_1 : decode cX8_findPoints 1 = .ok (.istore_n 2, 1) := by decide +kernel
theorem dX8_findPoints_2 : decode cX8_findPoints 2 = .ok (.iload_n 2, 1) := by decide +kernel
theorem dX8_findPoints_3 : decode cX8_findPoints 3 = .ok (.iconst 5, 1) := by decide +kernel
theorem dX8_findPoints_4 : decode cX8_findPoints 4 = .ok (.if_icmp .ge 37, 3) := by decide +kernel
theorem dX8_findPoints_7 : decode cX8_findPoints 7 = .ok (.aload_n 0, 1) := by decide +kernel
theorem dX8_findPoints_8 : decode cX8_findPoints 8 = .ok (.getfield 92, 3) := by decide +kernel
theorem dX8_findPoints_11 : decode cX8_findPoints 11 = .ok (.iload_n 2, 1) := by decide +kernel
theorem dX8_findPoints_12 : decode cX8_findPoints 12 = .ok (.iconst 0, 1) := by decide +kernel
theorem dX8_findPoints_13 : decode cX8_findPoints 13 = .ok (.iastore, 1) := by decide +kernel
theorem dX8_findPoints_14 : decode cX8_findPoints 14 = .ok (.aload_n 0, 1) := by decide +kernel
theorem dX8_findPoints_15 : decode cX8_findPoints 15 = .ok (.getfield 95, 3) := by decide +kernel
theorem dX8_findPoints_18 : decode cX8_findPoints 18 = .ok (.iload_n 2, 1) := by decide +kernel
theorem dX8_findPoints_19 : decode cX8_findPoints 19 = .ok (.iconst 0, 1) := by decide +kernel
theorem dX8_findPoints_20 : decode cX8_findPoints 20 = .ok (.iastore, 1) := by decide +kernel
theorem dX8_findPoints_21 : decode cX8_findPoints 21 = .ok (.aload_n 0, 1) := by decide +kernel
theorem dX8_findPoints_22 : decode cX8_findPoints 22 = .ok (.getfield 98, 3) := by decide +kernel
theorem dX8_findPoints_25 : decode cX8_findPoints 25 = .ok (.iload_n 2, 1) := by decide +kernel
theorem dX8_findPoints_26 : decode cX8_findPoints 26 = .ok (.iconst 0, 1) := by decide +kernel
theorem dX8_findPoints_27 : decode cX8_findPoints 27 = .ok (.iastore, 1) := by decide +kernel
theorem dX8_findPoints_28 : decode cX8_findPoints 28 = .ok (.aload_n 0, 1) := by decide +kernel
theorem dX8_findPoints_29 : decode cX8_findPoints 29 = .ok (.getfield 101, 3) := by decide +kernel
theorem dX8_findPoints_32 : decode cX8_findPoints 32 = .ok (.iload_n 2, 1) := by decide +kernel
theorem dX8_findPoints_33 : decode cX8_findPoints 33 = .ok (.iconst 0, 1) := by decide +kernel
theorem dX8_findPoints_34 : decode cX8_findPoints 34 = .ok (.iastore, 1) := by decide +kernel
theorem dX8_findPoints_35 : decode cX8_findPoints 35 = .ok (.iinc 2 1, 3) := by decide +kernel
theorem dX8_findPoints_38 : decode cX8_findPoints 38 = .ok (.goto (-36), 3) := by decide +kernel
theorem dX8_findPoints_41 : decode cX8_findPoints 41 = .ok (.iconst 0, 1) := by decide +kernel
theorem dX8_findPoints_42 : decode cX8_findPoints 42 = .ok (.istore_n 2, 1) := by decide +kernel
theorem dX8_findPoints_43 : decode cX8_findPoints 43 = .ok (.iload_n 2, 1) := by decide +kernel
theorem dX8_findPoints_44 : decode cX8_findPoints 44 = .ok (.aload_n 0, 1) := by decide +kernel
theorem dX8_findPoints_45 : decode cX8_findPoints 45 = .ok (.getfield 118, 3) := by decide +kernel
theorem dX8_findPoints_48 : decode cX8_findPoints 48 = .ok (.if_icmp .ge 66, 3) := by decide +kernel
theorem dX8_findPoints_51 : decode cX8_findPoints 51 = .ok (.iconst 0, 1) := by decide +kernel
theorem dX8_findPoints_52 : decode cX8_findPoints 52 = .ok (.istore_n 3, 1) := by decide +kernel
theorem dX8_findPoints_53 : decode cX8_findPoints 53 = .ok (.iload_n 3, 1) := by decide +kernel
theorem dX8_findPoints_54 : decode cX8_findPoints 54 = .ok (.iconst 3, 1) := by decide +kernel
theorem dX8_findPoints_55 : decode cX8_findPoints 55 = .ok (.aload_n 0, 1) := by decide +kernel
theorem dX8_findPoints_56 : decode cX8_findPoints 56 = .ok (.getfield 104, 3) := by decide +kernel
theorem dX8_findPoints_59 : decode cX8_findPoints 59 = .ok (.imul, 1) := by decide +kernel
theorem dX8_findPoints_60 : decode cX8_findPoints 60 = .ok (.if_icmp .ge 48, 3) := by decide +kernel
theorem dX8_findPoints_63 : decode cX8_findPoints 63 = .ok (.iload_n 2, 1) := by decide +kernel
theorem dX8_findPoints_64 : decode cX8_findPoints 64 = .ok (.iload_n 1, 1) := by decide +kernel
theorem dX8_findPoints_65 : decode cX8_findPoints 65 = .ok (.if_icmp .ge 30, 3) := by decide +kernel
theorem dX8_findPoints_68 : decode cX8_findPoints 68 = .ok (.aload_n 0, 1) := by decide +kernel
theorem dX8_findPoints_69 : decode cX8_findPoints 69 = .ok (.getfield 71, 3) := by decide +kernel
theorem dX8_findPoints_72 : decode cX8_findPoints 72 = .ok (.bipush 15, 2) := by decide +kernel
theorem dX8_findPoints_74 : decode cX8_findPoints 74 = .ok (.iload_n 2, 1) := by decide +kernel
theorem dX8_findPoints_75 : decode cX8_findPoints 75 = .ok (.imul, 1) := by decide +kernel
theorem dX8_findPoints_76 : decode cX8_findPoints 76 = .ok (.iload_n 3, 1) := by decide +kernel
theorem dX8_findPoints_77 : decode cX8_findPoints 77 = .ok (.iadd, 1) := by decide +kernel
theorem dX8_findPoints_78 : decode cX8_findPoints 78 = .ok (.baload, 1) := by decide +kernel
theorem dX8_findPoints_79 : decode cX8_findPoints 79 = .ok (.ifCond .eq 16, 3) := by decide +kernel
theorem dX8_findPoints_82 : decode cX8_findPoints 82 = .ok (.aload_n 0, 1) := by decide +kernel
theorem dX8_findPoints_83 : decode cX8_findPoints 83 = .ok (.getfield 92, 3) := by decide +kernel
theorem dX8_findPoints_86 : decode cX8_findPoints 86 = .ok (.iload_n 3, 1) := by decide +kernel
theorem dX8_findPoints_87 : decode cX8_findPoints 87 = .ok (.iconst 3, 1) := by decide +kernel
theorem dX8_findPoints_88 : decode cX8_findPoints 88 = .ok (.idiv, 1) := by decide +kernel
theorem dX8_findPoints_89 : decode cX8_findPoints 89 = .ok (.dup2, 1) := by decide +kernel
theorem dX8_findPoints_90 : decode cX8_findPoints 90 = .ok (.iaload, 1) := by decide +kernel
theorem dX8_findPoints_91 : decode cX8_findPoints 91 = .ok (.bipush 10, 2) := by decide +kernel
theorem dX8_findPoints_93 : decode cX8_findPoints 93 = .ok (.iadd, 1) := by decide +kernel
theorem dX8_findPoints_94 : decode cX8_findPoints 94 = .ok (.iastore, 1) := by decide +kernel
theorem dX8_findPoints_95 : decode cX8_findPoints 95 = .ok (.aload_n 0, 1) := by decide +kernel
theorem dX8_findPoints_96 : decode cX8_findPoints 96 = .ok (.iload_n 2, 1) := by decide +kernel
theorem dX8_findPoints_97 : decode cX8_findPoints 97 = .ok (.iload_n 3, 1) := by decide +kernel
theorem dX8_findPoints_98 : decode cX8_findPoints 98 = .ok (.iload_n 1, 1) := by decide +kernel
theorem dX8_findPoints_99 : decode cX8_findPoints 99 = .ok (.invokevirtual 231, 3) := by decide +kernel
theorem dX8_findPoints_102 : decode cX8_findPoints 102 = .ok (.iinc 3 1, 3) := by decide +kernel
theorem dX8_findPoints_105 : decode cX8_findPoints 105 = .ok (.goto (-52), 3) := by decide +kernel
theorem dX8_findPoints_108 : decode cX8_findPoints 108 = .ok (.iinc 2 1, 3) := by decide +kernel
theorem dX8_findPoints_111 : decode cX8_findPoints 111 = .ok (.goto (-68), 3) := by decide +kernel
theorem dX8_findPoints_114 : decode cX8_findPoints 114 = .ok (.return_, 1) := by decide +kernel
set_option maxRecDepth 20000 in
theorem ggX8_stolen_X8_isHanded : GoodIn wsX8_stolen wsX8_isHanded := goodIn_r _ [9, 10, 11, 12, 8, 13, 14, 15, 16, 17, 18, 19, 20, 21, 22, 23, 24, 25, 26, 27, 28, 29, 30, 31, 32, 33, 34, 35, 36, 37, 38, 39, 40, 41, 42, 43, 44, 45, 46, 47, 48, 49, 50, 51, 52, 53, 54, 55, 56, 57] (by decide +kernel) (by decide +kernel)
set_option maxRecDepth 20000 in
theorem gX8_stolen_X8_isHanded : GoodIn wsX8_stolen (wsV RX8 235 RX8 yX8_isHanded wsX8_isHanded) := goodIn_app (goodIn_of _ (by decide +kernel)) ggX8_stolen_X8_isHanded
theorem dX8_stolen_0 : decode cX8_stolen 0 = .ok (.iconst 0, 1) := by decide +kernel
theorem dX8_stolen_1 : decode cX8_stolen 1 = .ok (.istore 4, 2) := by decide +kernel
theorem dX8_stolen_3 : decode cX8_stolen 3 = .ok (.iconst 0, 1) := by decide +kernel
theorem dX8_stolen_4 : decode cX8_stolen 4 = .ok (.istore 5, 2) := by decide +kernel
theorem dX8_stolen_6 : decode cX8_stolen 6 = .ok (.iload 5, 2) := by decide +kernel
theorem dX8_stolen_8 : decode cX8_stolen 8 = .ok (.aload_n 0, 1) := by decide +kernel
theorem dX8_stolen_9 : decode cX8_stolen 9 = .ok (.getfield 104, 3) := by decide +kernel
theorem dX8_stolen_12 : decode cX8_stolen 12 = .ok (.if_icmp .ge 31, 3) := by decide +kernel
theorem dX8_stolen_15 : decode cX8_stolen 15 = .ok (.iload 4, 2) := by decide +kernel
theorem dX8_stolen_17 : decode cX8_stolen 17 = .ok (.aload_n 0, 1) := by decide +kernel
theorem dX8_stolen_18 : decode cX8_stolen 18 = .ok (.iload_n 1, 1) := by decide +kernel
theorem dX8_stolen_19 : decode cX8_stolen 19 = .ok (.iload_n 2, 1) := by decide +kernel
theorem dX8_stolen_20 : decode cX8_stolen 20 = .ok (.iload 5, 2) := by decide +kernel
theorem dX8_stolen_22 : decode cX8_stolen 22 = .ok (.iload_n 3, 1) := by decide +kernel
theorem dX8_stolen_23 : decode cX8_stolen 23 = .ok (.invokevirtual 235, 3) := by decide +kernel
theorem dX8_stolen_26 : decode cX8_stolen 26 = .ok (.ifCond .eq 7, 3) := by decide +kernel
theorem dX8_stolen_29 : decode cX8_stolen 29 = .ok (.iconst 1, 1) := by decide +kernel
theorem dX8_stolen_30 : decode cX8_stolen 30 = .ok (.goto 4, 3) := by decide +kernel
theorem dX8_stolen_33 : decode cX8_stolen 33 = .ok (.iconst 0, 1) := by decide +kernel
theorem dX8_stolen_34 : decode cX8_stolen 34 = .ok (.iadd, 1) := by decide +kernel
theorem dX8_stolen_35 : decode cX8_stolen 35 = .ok (.istore 4, 2) := by decide +kernel
theorem dX8_stolen_37 : decode cX8_stolen 37 = .ok (.iinc 5 1, 3) := by decide +kernel
theorem dX8_stolen_40 : decode cX8_stolen 40 = .ok (.goto (-34), 3) := by decide +kernel
theorem dX8_stolen_43 : decode cX8_stolen 43 = .ok (.iconst 0, 1) := by decide +kernel
theorem dX8_stolen_44 : decode cX8_stolen 44 = .ok (.istore 5, 2) := by decide +kernel
theorem dX8_stolen_46 : decode cX8_stolen 46 = .ok (.iload 5, 2) := by decide +kernel
theorem dX8_stolen_48 : decode cX8_stolen 48 = .ok (.aload_n 0, 1) := by decide +kernel
theorem dX8_stolen_49 : decode cX8_stolen 49 = .ok (.getfield 104, 3) := by decide +kernel
theorem dX8_stolen_52 : decode cX8_stolen 52 = .ok (.if_icmp .ge 50, 3) := by decide +kernel
theorem dX8_stolen_55 : decode cX8_stolen 55 = .ok (.aload_n 0, 1) := by decide +kernel
theorem dX8_stolen_56 : decode cX8_stolen 56 = .ok (.iload_n 1, 1) := by decide +kernel
theorem dX8_stolen_57 : decode cX8_stolen 57 = .ok (.iload_n 2, 1) := by decide +kernel
theorem dX8_stolen_58 : decode cX8_stolen 58 = .ok (.iload 5, 2) := by decide +kernel
theorem dX8_stolen_60 : decode cX8_stolen 60 = .ok (.iload_n 3, 1) := by decide +kernel
theorem dX8_stolen_61 : decode cX8_stolen 61 = .ok (.invokevirtual 235, 3) := by decide +kernel
theorem dX8_stolen_64 : decode cX8_stolen 64 = .ok (.ifCond .ne 6, 3) := by decide +kernel
theorem dX8_stolen_67 : decode cX8_stolen 67 = .ok (.goto 29, 3) := by decide +kernel
theorem dX8_stolen_70 : decode cX8_stolen 70 = .ok (.aload_n 0, 1) := by decide +kernel
theorem dX8_stolen_71 : decode cX8_stolen 71 = .ok (.getfield 95, 3) := by decide +kernel
theorem dX8_stolen_74 : decode cX8_stolen 74 = .ok (.iload 5, 2) := by decide +kernel
theorem dX8_stolen_76 : decode cX8_stolen 76 = .ok (.dup2, 1) := by decide +kernel
theorem dX8_stolen_77 : decode cX8_stolen 77 = .ok (.iaload, 1) := by decide +kernel
theorem dX8_stolen_78 : decode cX8_stolen 78 = .ok (.bipush 60, 2) := by decide +kernel
theorem dX8_stolen_80 : decode cX8_stolen 80 = .ok (.iload 4, 2) := by decide +kernel
theorem dX8_stolen_82 : decode cX8_stolen 82 = .ok (.idiv, 1) := by decide +kernel
theorem dX8_stolen_83 : decode cX8_stolen 83 = .ok (.iadd, 1) := by decide +kernel
theorem dX8_stolen_84 : decode cX8_stolen 84 = .ok (.iastore, 1) := by decide +kernel
theorem dX8_stolen_85 : decode cX8_stolen 85 = .ok (.aload_n 0, 1) := by decide +kernel
theorem dX8_stolen_86 : decode cX8_stolen 86 = .ok (.getfield 101, 3) := by decide +kernel
theorem dX8_stolen_89 : decode cX8_stolen 89 = .ok (.iload 5, 2) := by decide +kernel
theorem dX8_stolen_91 : decode cX8_stolen 91 = .ok (.dup2, 1) := by decide +kernel
theorem dX8_stolen_92 : decode cX8_stolen 92 = .ok (.iaload, 1) := by decide +kernel
theorem dX8_stolen_93 : decode cX8_stolen 93 = .ok (.iconst 1, 1) := by decide +kernel
theorem dX8_stolen_94 : decode cX8_stolen 94 = .ok (.iadd, 1) := by decide +kernel
theorem dX8_stolen_95 : decode cX8_stolen 95 = .ok (.iastore, 1) := by decide +kernel
theorem dX8_stolen_96 : decode cX8_stolen 96 = .ok (.iinc 5 1, 3) := by decide +kernel
theorem dX8_stolen_99 : decode cX8_stolen 99 = .ok (.goto (-53), 3) := by decide +kernel
theorem dX8_stolen_102 : decode cX8_stolen 102 = .ok (.aload_n 0, 1) := by decide +kernel
theorem dX8_stolen_103 : decode cX8_stolen 103 = .ok (.getfield 98, 3) := by decide +kernel
theorem dX8_stolen_106 : decode cX8_stolen 106 = .ok (.iload_n 2, 1) := by decide +kernel
theorem dX8_stolen_107 : decode cX8_stolen 107 = .ok (.iconst 3, 1) := by decide +kernel
theorem dX8_stolen_108 : decode cX8_stolen 108 = .ok (.idiv, 1) := by decide +kernel
theorem dX8_stolen_109 : decode cX8_stolen 109 = .ok (.dup2, 1) := by decide +kernel
theorem dX8_stolen_110 : decode cX8_stolen 110 = .ok (.iaload, 1) := by decide +kernel
theorem dX8_stolen_111 : decode cX8_stolen 111 = .ok (.iconst 4, 1) := by decide +kernel
theorem dX8_stolen_112 : decode cX8_stolen 112 = .ok (.iload 4, 2) := by decide +kernel
theorem dX8_stolen_114 : decode cX8_stolen 114 = .ok (.imul, 1) := by decide +kernel
theorem dX8_stolen_115 : decode cX8_stolen 115 = .ok (.iadd, 1) := by decide +kernel
theorem dX8_stolen_116 : decode cX8_stolen 116 = .ok (.iastore, 1) := by decide +kernel
theorem dX8_stolen_117 : decode cX8_stolen 117 = .ok (.return_, 1) := by decide +kernel
set_option maxRecDepth 20000 in
theorem ggX8_isHanded_X8_handed : GoodIn wsX8_isHanded wsX8_handed := goodIn_r _ [5, 6, 7, 8, 9, 10, 11, 12, 13, 14, 15, 16, 17, 18, 19, 20, 21, 22, 23, 24, 25, 26, 27, 28, 29, 30, 31, 32, 33, 34, 35, 36, 37, 38, 39, 40, 41, 42, 43, 44, 45, 46, 47, 48, 49] (by decide +kernel) (by decide +kernel)
set_option maxRecDepth 20000 in
theorem gX8_isHanded_X8_handed : GoodIn wsX8_isHanded (wsV RX8 225 RX8 yX8_handed wsX8_handed) := goodIn_app (goodIn_of _ (by decide +kernel)) ggX8_isHanded_X8_handed
theorem dX8_isHanded_0 : decode cX8_isHanded 0 = .ok (.aload_n 0, 1) := by decide +kernel
theorem dX8_isHanded_1 : decode cX8_isHanded 1 = .ok (.iload_n 1, 1) := by decide +kernel
theorem dX8_isHanded_2 : decode cX8_isHanded 2 = .ok (.iload_n 2, 1) := by decide +kernel
theorem dX8_isHanded_3 : decode cX8_isHanded 3 = .ok (.iload_n 3, 1) := by decide +kernel
theorem dX8_isHanded_4 : decode cX8_isHanded 4 = .ok (.invokevirtual 225, 3) := by decide +kernel
theorem dX8_isHanded_7 : decode cX8_isHanded 7 = .ok (.istore 5, 2) := by decide +kernel
theorem dX8_isHanded_9 : decode cX8_isHanded 9 = .ok (.iload 5, 2) := by decide +kernel
theorem dX8_isHanded_11 : decode cX8_isHanded 11 = .ok (.ifCond .lt 14, 3) := by decide +kernel
theorem dX8_isHanded_14 : decode cX8_isHanded 14 = .ok (.iload 5, 2) := by decide +kernel
theorem dX8_isHanded_16 : decode cX8_isHanded 16 = .ok (.iload 4, 2) := by decide +kernel
theorem dX8_isHanded_18 : decode cX8_isHanded 18 = .ok (.if_icmp .ge 7, 3) := by decide +kernel
theorem dX8_isHanded_21 : decode cX8_isHanded 21 = .ok (.iconst 1, 1) := by decide +kernel
theorem dX8_isHanded_22 : decode cX8_isHanded 22 = .ok (.goto 4, 3) := by decide +kernel
theorem dX8_isHanded_25 : decode cX8_isHanded 25 = .ok (.iconst 0, 1) := by decide +kernel
theorem dX8_isHanded_26 : decode cX8_isHanded 26 = .ok (.ireturn, 1) := by decide +kernel
theorem dX8_sum_0 : decode cX8_sum 0 = .ok (.aload_n 0, 1) := by decide +kernel
theorem dX8_sum_1 : decode cX8_sum 1 = .ok (.getfield 92, 3) := by decide +kernel
theorem dX8_sum_4 : decode cX8_sum 4 = .ok (.iload_n 1, 1) := by decide +kernel
theorem dX8_sum_5 : decode cX8_sum 5 = .ok (.iaload, 1) := by decide +kernel
theorem dX8_sum_6 : decode cX8_sum 6 = .ok (.aload_n 0, 1) := by decide +kernel
theorem dX8_sum_7 : decode cX8_sum 7 = .ok (.getfield 95, 3) := by decide +kernel
theorem dX8_sum_10 : decode cX8_sum 10 = .ok (.iload_n 1, 1) := by decide +kernel
theorem dX8_sum_11 : decode cX8_sum 11 = .ok (.iaload, 1) := by decide +kernel
theorem dX8_sum_12 : decode cX8_sum 12 = .ok (.iadd, 1) := by decide +kernel
theorem dX8_sum_13 : decode cX8_sum 13 = .ok (.aload_n 0, 1) := by decide +kernel
theorem dX8_sum_14 : decode cX8_sum 14 = .ok (.getfield 98, 3) := by decide +kernel
theorem dX8_sum_17 : decode cX8_sum 17 = .ok (.iload_n 1, 1) := by decide +kernel
theorem dX8_sum_18 : decode cX8_sum 18 = .ok (.iaload, 1) := by decide +kernel
theorem dX8_sum_19 : decode cX8_sum 19 = .ok (.isub, 1) := by decide +kernel
theorem dX8_sum_20 : decode cX8_sum 20 = .ok (.ireturn, 1) := by decide +kernel
set_option maxRecDepth 20000 in
theorem ggX8_points_X8_isTeam : GoodIn wsX8_points wsX8_isTeam := goodIn_r _ [10, 11, 35, 36, 37, 38, 39, 40, 41, 42, 43, 44, 45, 46, 47, 48, 49, 50, 51, 52, 53, 54, 55, 56, 57, 58, 59, 60, 61, 62, 63, 64, 65, 66, 67, 68, 69, 70, 71, 72, 73, 74, 75, 76, 77] (by decide +kernel) (by decide +kernel)
set_option maxRecDepth 20000 in
theorem gX8_points_X8_isTeam : GoodIn wsX8_points (wsV RX8 108 RX8 yX8_isTeam wsX8_isTeam) := goodIn_app (goodIn_of _ (by decide +kernel)) ggX8_points_X8_isTeam
set_option maxRecDepth 20000 in
theorem ggX8_points_X8_findPoints : GoodIn wsX8_points wsX8_findPoints := goodIn_r _ [15, 2, 3, 4, 5, 16, 11, 17, 18, 19, 20, 9, 21, 22, 23, 24, 25, 26, 27, 28, 29, 30, 35, 36, 37, 38, 39, 40, 41, 42, 43, 44, 45, 46, 47, 48, 49, 50, 51, 52, 53, 54, 55, 56, 57, 58, 59, 60, 61, 62, 63, 64, 65, 66, 67, 68, 69, 70, 71, 72, 73, 74, 75, 76, 77] (by decide +kernel) (by decide +kernel)
set_option maxRecDepth 20000 in
theorem gX8_points_X8_findPoints : GoodIn wsX8_points (wsV RX8 240 RX8 yX8_findPoints wsX8_findPoints) := goodIn_app (goodIn_of _ (by decide +kernel)) ggX8_points_X8_findPoints
set_option maxRecDepth 20000 in
theorem ggX8_points_X8_sum : GoodIn wsX8_points wsX8_sum := goodIn_r _ [34, 2, 3, 4, 35, 36, 37, 38, 39, 40, 41, 42, 43, 44, 45, 46, 47, 48, 49, 50, 51, 52, 53, 54, 55, 56, 57, 58, 59, 60, 61, 62, 63, 64, 65, 66, 67, 68, 69, 70, 71, 72, 73, 74, 75, 76, 77] (by decide +kernel) (by decide +kernel)
set_option maxRecDepth 20000 in
theorem gX8_points_X8_sum : GoodIn wsX8_points (wsV RX8 243 RX8 yX8_sum wsX8_sum) := goodIn_app (goodIn_of _ (by decide +kernel)) ggX8_points_X8_sum
theorem dX8_points_0 : decode cX8_points 0 = .ok (.aload_n 0, 1) := by decide +kernel
theorem dX8_points_1 : decode cX8_points 1 = .ok (.iload_n 1, 1) := by decide +kernel
theorem dX8_points_2 : decode cX8_points 2 = .ok (.invokevirtual 108, 3) := by decide +kernel
theorem dX8_points_5 : decode cX8_points 5 = .ok (.ifCond .ne 6, 3) := by decide +kernel
theorem dX8_points_8 : decode cX8_points 8 = .ok (.ldc 239, 2) := by decide +kernel
theorem dX8_points_10 : decode cX8_points 10 = .ok (.ireturn, 1) := by decide +kernel
theorem dX8_points_11 : decode cX8_points 11 = .ok (.aload_n 0, 1) := by decide +kernel
theorem dX8_points_12 : decode cX8_points 12 = .ok (.sipush 1000, 3) := by decide +kernel
theorem dX8_points_15 : decode cX8_points 15 = .ok (.invokevirtual 240, 3) := by decide +kernel
theorem dX8_points_18 : decode cX8_points 18 = .ok (.iload_n 2, 1) := by decide +kernel
theorem dX8_points_19 : decode cX8_points 19 = .ok (.tableswitch 67 0 4 #[33, 39, 46, 53, 60], 33) := by decide +kernel
theorem dX8_points_52 : decode cX8_points 52 = .ok (.aload_n 0, 1) := by decide +kernel
theorem dX8_points_53 : decode cX8_points 53 = .ok (.iload_n 1, 1) := by decide +kernel
theorem dX8_points_54 : decode cX8_points 54 = .ok (.invokevirtual 243, 3) := by decide +kernel
theorem dX8_points_57 : decode cX8_points 57 = .ok (.ireturn, 1) := by decide +kernel
theorem dX8_points_58 : decode cX8_points 58 = .ok (.aload_n 0, 1) := by decide +kernel
theorem dX8_points_59 : decode cX8_points 59 = .ok (.getfield 92, 3) := by decide +kernel
theorem dX8_points_62 : decode cX8_points 62 = .ok (.iload_n 1, 1) := by decide +kernel
theorem dX8_points_63 : decode cX8_points 63 = .ok (.iaload, 1) := by decide +kernel
theorem dX8_points_64 : decode cX8_points 64 = .ok (.ireturn, 1) := by decide +kernel
theorem dX8_points_65 : decode cX8_points 65 = .ok (.aload_n 0, 1) := by decide +kernel
theorem dX8_points_66 : decode cX8_points 66 = .ok (.getfield 95, 3) := by decide +kernel
theorem dX8_points_69 : decode cX8_points 69 = .ok (.iload_n 1, 1) := by decide +kernel
theorem dX8_points_70 : decode cX8_points 70 = .ok (.iaload, 1) := by decide +kernel
theorem dX8_points_71 : decode cX8_points 71 = .ok (.ireturn, 1) := by decide +kernel
theorem dX8_points_72 : decode cX8_points 72 = .ok (.aload_n 0, 1) := by decide +kernel
theorem dX8_points_73 : decode cX8_points 73 = .ok (.getfield 98, 3) := by decide +kernel
theorem dX8_points_76 : decode cX8_points 76 = .ok (.iload_n 1, 1) := by decide +kernel
theorem dX8_points_77 : decode cX8_points 77 = .ok (.iaload, 1) := by decide +kernel
theorem dX8_points_78 : decode cX8_points 78 = .ok (.ireturn, 1) := by decide +kernel
theorem dX8_points_79 : decode cX8_points 79 = .ok (.aload_n 0, 1) := by decide +kernel
theorem dX8_points_80 : decode cX8_points 80 = .ok (.getfield 101, 3) := by decide +kernel
theorem dX8_points_83 : decode cX8_points 83 = .ok (.iload_n 1, 1) := by decide +kernel
theorem dX8_points_84 : decode cX8_points 84 = .ok (.iaload, 1) := by decide +kernel
theorem dX8_points_85 : decode cX8_points 85 = .ok (.ireturn, 1) := by decide +kernel
theorem dX8_points_86 : decode cX8_points 86 = .ok (.ldc 239, 2) := by decide +kernel
theorem dX8_points_88 : decode cX8_points 88 = .ok (.ireturn, 1) := by decide +kernel
set_option maxRecDepth 20000 in
theorem ggX8_board_X8_isTeam : GoodIn wsX8_board wsX8_isTeam := goodIn_r _ [8, 3, 39, 40, 41, 42, 43, 44, 45, 46, 47, 48, 49, 50, 51, 52, 53, 54, 55, 56, 57, 58, 59, 60, 61, 62, 63, 64, 65, 66, 67, 68, 69, 70, 71, 72, 73, 74, 75, 76, 77, 78, 79, 80, 81] (by decide +kernel) (by decide +kernel)
set_option maxRecDepth 20000 in
theorem gX8_board_X8_isTeam : GoodIn wsX8_board (wsV RX8 108 RX8 yX8_isTeam wsX8_isTeam) := goodIn_app (goodIn_of _ (by decide +kernel)) ggX8_board_X8_isTeam
set_option maxRecDepth 20000 in
theorem ggX8_board_X8_isIn : GoodIn wsX8_board wsX8_isIn := goodIn_r _ [11] (by decide +kernel) (by decide +kernel)
set_option maxRecDepth 20000 in
theorem gX8_board_X8_isIn : GoodIn wsX8_board (va_wsS RX8 114 yX8_isIn wsX8_isIn) := goodIn_app (goodIn_of _ (by decide +kernel)) ggX8_board_X8_isIn
set_option maxRecDepth 20000 in
theorem ggX8_board_X8_findPoints : GoodIn wsX8_board wsX8_findPoints := goodIn_r _ [15, 16, 17, 18, 19, 20, 3, 21, 22, 23, 24, 7, 25, 26, 27, 28, 29, 30, 31, 32, 33, 34, 39, 40, 41, 42, 43, 44, 45, 46, 47, 48, 49, 50, 51, 52, 53, 54, 55, 56, 57, 58, 59, 60, 61, 62, 63, 64, 65, 66, 67, 68, 69, 70, 71, 72, 73, 74, 75, 76, 77, 78, 79, 80, 81] (by decide +kernel) (by decide +kernel)
set_option maxRecDepth 20000 in
theorem gX8_board_X8_findPoints : GoodIn wsX8_board (wsV RX8 240 RX8 yX8_findPoints wsX8_findPoints) := goodIn_app (goodIn_of _ (by decide +kernel)) ggX8_board_X8_findPoints
set_option maxRecDepth 20000 in
theorem ggX8_board_X8_sum : GoodIn wsX8_board wsX8_sum := goodIn_r _ [38, 16, 17, 18, 39, 40, 41, 42, 43, 44, 45, 46, 47, 48, 49, 50, 51, 52, 53, 54, 55, 56, 57, 58, 59, 60, 61, 62, 63, 64, 65, 66, 67, 68, 69, 70, 71, 72, 73, 74, 75, 76, 77, 78, 79, 80, 81] (by decide +kernel) (by decide +kernel)
set_option maxRecDepth 20000 in
theorem gX8_board_X8_sum : GoodIn wsX8_board (wsV RX8 243 RX8 yX8_sum wsX8_sum) := goodIn_app (goodIn_of _ (by decide +kernel)) ggX8_board_X8_sum
theorem dX8_board_0 : decode cX8_board 0 = .ok (.aload_n 0, 1) := by decide +kernel
theorem dX8_board_1 : decode cX8_board 1 = .ok (.iload_n 1, 1) := by decide +kernel
theorem dX8_board_2 : decode cX8_board 2 = .ok (.invokevirtual 108, 3) := by decide +kernel
theorem dX8_board_5 : decode cX8_board 5 = .ok (.ifCond .eq 13, 3) := by decide +kernel
theorem dX8_board_8 : decode cX8_board 8 = .ok (.iload_n 2, 1) := by decide +kernel
theorem dX8_board_9 : decode cX8_board 9 = .ok (.i2l, 1) := by decide +kernel
theorem dX8_board_10 : decode cX8_board 10 = .ok (.lconst 0, 1) := by decide +kernel
theorem dX8_board_11 : decode cX8_board 11 = .ok (.lconst 1, 1) := by decide +kernel
theorem dX8_board_12 : decode cX8_board 12 = .ok (.invokestatic 114, 3) := by decide +kernel
theorem dX8_board_15 : decode cX8_board 15 = .ok (.ifCond .ne 6, 3) := by decide +kernel
theorem dX8_board_18 : decode cX8_board 18 = .ok (.ldc 239, 2) := by decide +kernel
theorem dX8_board_20 : decode cX8_board 20 = .ok (.ireturn, 1) := by decide +kernel
theorem dX8_board_21 : decode cX8_board 21 = .ok (.aload_n 0, 1) := by decide +kernel
theorem dX8_board_22 : decode cX8_board 22 = .ok (.aload_n 0, 1) := by decide +kernel
theorem dX8_board_23 : decode cX8_board 23 = .ok (.getfield 47, 3) := by decide +kernel
theorem dX8_board_26 : decode cX8_board 26 = .ok (.iconst 3, 1) := by decide +kernel
theorem dX8_board_27 : decode cX8_board 27 = .ok (.iaload, 1) := by decide +kernel
theorem dX8_board_28 : decode cX8_board 28 = .ok (.invokevirtual 240, 3) := by decide +kernel
theorem dX8_board_31 : decode cX8_board 31 = .ok (.iconst 0, 1) := by decide +kernel
theorem dX8_board_32 : decode cX8_board 32 = .ok (.istore_n 3, 1) := by decide +kernel
theorem dX8_board_33 : decode cX8_board 33 = .ok (.iload_n 3, 1) := by decide +kernel
theorem dX8_board_34 : decode cX8_board 34 = .ok (.aload_n 0, 1) := by decide +kernel
theorem dX8_board_35 : decode cX8_board 35 = .ok (.getfield 104, 3) := by decide +kernel
theorem dX8_board_38 : decode cX8_board 38 = .ok (.if_icmp .ge 94, 3) := by decide +kernel
theorem dX8_board_41 : decode cX8_board 41 = .ok (.iconst 0, 1) := by decide +kernel
theorem dX8_board_42 : decode cX8_board 42 = .ok (.istore 4, 2) := by decide +kernel
theorem dX8_board_44 : decode cX8_board 44 = .ok (.iconst 0, 1) := by decide +kernel
theorem dX8_board_45 : decode cX8_board 45 = .ok (.istore 5, 2) := by decide +kernel
theorem dX8_board_47 : decode cX8_board 47 = .ok (.iload 5, 2) := by decide +kernel
theorem dX8_board_49 : decode cX8_board 49 = .ok (.aload_n 0, 1) := by decide +kernel
theorem dX8_board_50 : decode cX8_board 50 = .ok (.getfield 104, 3) := by decide +kernel
theorem dX8_board_53 : decode cX8_board 53 = .ok (.if_icmp .ge 53, 3) := by decide +kernel
theorem dX8_board_56 : decode cX8_board 56 = .ok (.iload 4, 2) := by decide +kernel
theorem dX8_board_58 : decode cX8_board 58 = .ok (.aload_n 0, 1) := by decide +kernel
theorem dX8_board_59 : decode cX8_board 59 = .ok (.iload 5, 2) := by decide +kernel
theorem dX8_board_61 : decode cX8_board 61 = .ok (.invokevirtual 243, 3) := by decide +kernel
theorem dX8_board_64 : decode cX8_board 64 = .ok (.aload_n 0, 1) := by decide +kernel
theorem dX8_board_65 : decode cX8_board 65 = .ok (.iload_n 3, 1) := by decide +kernel
theorem dX8_board_66 : decode cX8_board 66 = .ok (.invokevirtual 243, 3) := by decide +kernel
theorem dX8_board_69 : decode cX8_board 69 = .ok (.if_icmp .gt 23, 3) := by decide +kernel
theorem dX8_board_72 : decode cX8_board 72 = .ok (.aload_n 0, 1) := by decide +kernel
theorem dX8_board_73 : decode cX8_board 73 = .ok (.iload 5, 2) := by decide +kernel
theorem dX8_board_75 : decode cX8_board 75 = .ok (.invokevirtual 243, 3) := by decide +kernel
theorem dX8_board_78 : decode cX8_board 78 = .ok (.aload_n 0, 1) := by decide +kernel
theorem dX8_board_79 : decode cX8_board 79 = .ok (.iload_n 3, 1) := by decide +kernel
theorem dX8_board_80 : decode cX8_board 80 = .ok (.invokevirtual 243, 3) := by decide +kernel
theorem dX8_board_83 : decode cX8_board 83 = .ok (.if_icmp .ne 13, 3) := by decide +kernel
theorem dX8_board_86 : decode cX8_board 86 = .ok (.iload 5, 2) := by decide +kernel
theorem dX8_board_88 : decode cX8_board 88 = .ok (.iload_n 3, 1) := by decide +kernel
theorem dX8_board_89 : decode cX8_board 89 = .ok (.if_icmp .ge 7, 3) := by decide +kernel
theorem dX8_board_92 : decode cX8_board 92 = .ok (.iconst 1, 1) := by decide +kernel
theorem dX8_board_93 : decode cX8_board 93 = .ok (.goto 4, 3) := by decide +kernel
theorem dX8_board_96 : decode cX8_board 96 = .ok (.iconst 0, 1) := by decide +kernel
theorem dX8_board_97 : decode cX8_board 97 = .ok (.iadd, 1) := by decide +kernel
theorem dX8_board_98 : decode cX8_board 98 = .ok (.istore 4, 2) := by decide +kernel
theorem dX8_board_100 : decode cX8_board 100 = .ok (.iinc 5 1, 3) := by decide +kernel
theorem dX8_board_103 : decode cX8_board 103 = .ok (.goto (-56), 3) := by decide +kernel
theorem dX8_board_106 : decode cX8_board 106 = .ok (.iload 4, 2) := by decide +kernel
theorem dX8_board_108 : decode cX8_board 108 = .ok (.iload_n 1, 1) := by decide +kernel
theorem dX8_board_109 : decode cX8_board 109 = .ok (.if_icmp .ne 17, 3) := by decide +kernel
theorem dX8_board_112 : decode cX8_board 112 = .ok (.iload_n 2, 1) := by decide +kernel
theorem dX8_board_113 : decode cX8_board 113 = .ok (.ifCond .ne 7, 3) := by decide +kernel
theorem dX8_board_116 : decode cX8_board 116 = .ok (.iload_n 3, 1) := by decide +kernel
theorem dX8_board_117 : decode cX8_board 117 = .ok (.goto 8, 3) := by decide +kernel
theorem dX8_board_120 : decode cX8_board 120 = .ok (.aload_n 0, 1) := by decide +kernel
theorem dX8_board_121 : decode cX8_board 121 = .ok (.iload_n 3, 1) := by decide +kernel
theorem dX8_board_122 : decode cX8_board 122 = .ok (.invokevirtual 243, 3) := by decide +kernel
theorem dX8_board_125 : decode cX8_board 125 = .ok (.ireturn, 1) := by decide +kernel
theorem dX8_board_126 : decode cX8_board 126 = .ok (.iinc 3 1, 3) := by decide +kernel
theorem dX8_board_129 : decode cX8_board 129 = .ok (.goto (-96), 3) := by decide +kernel
theorem dX8_board_132 : decode cX8_board 132 = .ok (.ldc 239, 2) := by decide +kernel
theorem dX8_board_134 : decode cX8_board 134 = .ok (.ireturn, 1) := by decide +kernel
set_option maxRecDepth 20000 in
theorem ggX8_sumOf_X8_findPoints : GoodIn wsX8_sumOf wsX8_findPoints := goodIn_r _ [6, 7, 8, 9, 10, 11, 1, 12, 13, 14, 15, 5, 16, 17, 18, 19, 20, 21, 22, 23, 24, 25, 30, 31, 32, 33, 34, 35, 36, 37, 38, 39, 40, 41, 42, 43, 44, 45, 46, 47, 48, 49, 50, 51, 52, 53, 54, 55, 56, 57, 58, 59, 60, 61, 62, 63, 64, 65, 66, 67, 68, 69, 70, 71, 72] (by decide +kernel) (by decide +kernel)
set_option maxRecDepth 20000 in
theorem gX8_sumOf_X8_findPoints : GoodIn wsX8_sumOf (wsV RX8 240 RX8 yX8_findPoints wsX8_findPoints) := goodIn_app (goodIn_of _ (by decide +kernel)) ggX8_sumOf_X8_findPoints
set_option maxRecDepth 20000 in
theorem ggX8_sumOf_X8_sum : GoodIn wsX8_sumOf wsX8_sum := goodIn_r _ [29, 7, 8, 9, 30, 31, 32, 33, 34, 35, 36, 37, 38, 39, 40, 41, 42, 43, 44, 45, 46, 47, 48, 49, 50, 51, 52, 53, 54, 55, 56, 57, 58, 59, 60, 61, 62, 63, 64, 65, 66, 67, 68, 69, 70, 71, 72] (by decide +kernel) (by decide +kernel)
set_option maxRecDepth 20000 in
theorem gX8_sumOf_X8_sum : GoodIn wsX8_sumOf (wsV RX8 243 RX8 yX8_sum wsX8_sum) := goodIn_app (goodIn_of _ (by decide +kernel)) ggX8_sumOf_X8_sum
theorem dX8_sumOf_0 : decode cX8_sumOf 0 = .ok (.aload_n 0, 1) := by decide +kernel
theorem dX8_sumOf_1 : decode cX8_sumOf 1 = .ok (.sipush 1000, 3) := by decide +kernel
theorem dX8_sumOf_4 : decode cX8_sumOf 4 = .ok (.invokevirtual 240, 3) := by decide +kernel
theorem dX8_sumOf_7 : decode cX8_sumOf 7 = .ok (.iconst 0, 1) := by decide +kernel
theorem dX8_sumOf_8 : decode cX8_sumOf 8 = .ok (.istore_n 2, 1) := by decide +kernel
theorem dX8_sumOf_9 : decode cX8_sumOf 9 = .ok (.iconst 0, 1) := by decide +kernel
theorem dX8_sumOf_10 : decode cX8_sumOf 10 = .ok (.istore_n 3, 1) := by decide +kernel
theorem dX8_sumOf_11 : decode cX8_sumOf 11 = .ok (.iload_n 3, 1) := by decide +kernel
theorem dX8_sumOf_12 : decode cX8_sumOf 12 = .ok (.aload_n 0, 1) := by decide +kernel
theorem dX8_sumOf_13 : decode cX8_sumOf 13 = .ok (.getfield 104, 3) := by decide +kernel
theorem dX8_sumOf_16 : decode cX8_sumOf 16 = .ok (.if_icmp .ge 30, 3) := by decide +kernel
theorem dX8_sumOf_19 : decode cX8_sumOf 19 = .ok (.iload_n 2, 1) := by decide +kernel
theorem dX8_sumOf_20 : decode cX8_sumOf 20 = .ok (.iload_n 1, 1) := by decide +kernel
theorem dX8_sumOf_21 : decode cX8_sumOf 21 = .ok (.iload_n 3, 1) := by decide +kernel
theorem dX8_sumOf_22 : decode cX8_sumOf 22 = .ok (.ishr, 1) := by decide +kernel
theorem dX8_sumOf_23 : decode cX8_sumOf 23 = .ok (.iconst 1, 1) := by decide +kernel
theorem dX8_sumOf_24 : decode cX8_sumOf 24 = .ok (.iand, 1) := by decide +kernel
theorem dX8_sumOf_25 : decode cX8_sumOf 25 = .ok (.iconst 1, 1) := by decide +kernel
theorem dX8_sumOf_26 : decode cX8_sumOf 26 = .ok (.if_icmp .ne 11, 3) := by decide +kernel
theorem dX8_sumOf_29 : decode cX8_sumOf 29 = .ok (.aload_n 0, 1) := by decide +kernel
theorem dX8_sumOf_30 : decode cX8_sumOf 30 = .ok (.iload_n 3, 1) := by decide +kernel
theorem dX8_sumOf_31 : decode cX8_sumOf 31 = .ok (.invokevirtual 243, 3) := by decide +kernel
theorem dX8_sumOf_34 : decode cX8_sumOf 34 = .ok (.goto 4, 3) := by decide +kernel
theorem dX8_sumOf_37 : decode cX8_sumOf 37 = .ok (.iconst 0, 1) := by decide +kernel
theorem dX8_sumOf_38 : decode cX8_sumOf 38 = .ok (.iadd, 1) := by decide +kernel
theorem dX8_sumOf_39 : decode cX8_sumOf 39 = .ok (.istore_n 2, 1) := by decide +kernel
theorem dX8_sumOf_40 : decode cX8_sumOf 40 = .ok (.iinc 3 1, 3) := by decide +kernel
theorem dX8_sumOf_43 : decode cX8_sumOf 43 = .ok (.goto (-32), 3) := by decide +kernel
theorem dX8_sumOf_46 : decode cX8_sumOf 46 = .ok (.iload_n 2, 1) := by decide +kernel
theorem dX8_sumOf_47 : decode cX8_sumOf 47 = .ok (.ireturn, 1) := by decide +kernel
set_option maxRecDepth 20000 in
theorem ggX8_gain_X8_sumOf : GoodIn wsX8_gain wsX8_sumOf := goodIn_r _ [9, 1, 10, 11, 12, 8, 13, 14, 15, 16, 17, 3, 18, 19, 20, 21, 22, 23, 24, 25, 26, 27, 28, 29, 30, 31, 32, 33, 34, 35, 40, 41, 42, 43, 44, 45, 46, 47, 48, 49, 50, 51, 52, 53, 54, 55, 56, 57, 58, 59, 60, 61, 62, 63, 64, 65, 66, 67, 68, 69, 70, 71, 72, 73, 74, 75, 76, 77, 78, 79, 80, 81, 82] (by decide +kernel) (by decide +kernel)
set_option maxRecDepth 20000 in
theorem gX8_gain_X8_sumOf : GoodIn wsX8_gain (wsV RX8 247 RX8 yX8_sumOf wsX8_sumOf) := goodIn_app (goodIn_of _ (by decide +kernel)) ggX8_gain_X8_sumOf
set_option maxRecDepth 20000 in
theorem ggX8_gain_X8_helps : GoodIn wsX8_gain wsX8_helps := goodIn_r _ [39, 1, 31, 40, 41, 42, 43, 44, 45, 46, 47, 48, 49, 50, 51, 52, 53, 54, 55, 56, 57, 58, 59, 60, 61, 62, 63, 64, 65, 66, 67, 68, 69, 70, 71, 72, 73, 74, 75, 76, 77, 78, 79, 80, 81, 82] (by decide +kernel) (by decide +kernel)
set_option maxRecDepth 20000 in
theorem gX8_gain_X8_helps : GoodIn wsX8_gain (wsV RX8 250 RX8 yX8_helps wsX8_helps) := goodIn_app (goodIn_of _ (by decide +kernel)) ggX8_gain_X8_helps
theorem dX8_gain_0 : decode cX8_gain 0 = .ok (.iconst 0, 1) := by decide +kernel
theorem dX8_gain_1 : decode cX8_gain 1 = .ok (.istore_n 2, 1) := by decide +kernel
theorem dX8_gain_2 : decode cX8_gain 2 = .ok (.iconst 0, 1) := by decide +kernel
theorem dX8_gain_3 : decode cX8_gain 3 = .ok (.istore_n 3, 1) := by decide +kernel
theorem dX8_gain_4 : decode cX8_gain 4 = .ok (.iload_n 3, 1) := by decide +kernel
theorem dX8_gain_5 : decode cX8_gain 5 = .ok (.bipush 31, 2) := by decide +kernel
theorem dX8_gain_7 : decode cX8_gain 7 = .ok (.if_icmp .ge 17, 3) := by decide +kernel
theorem dX8_gain_10 : decode cX8_gain 10 = .ok (.iload_n 2, 1) := by decide +kernel
theorem dX8_gain_11 : decode cX8_gain 11 = .ok (.iload_n 1, 1) := by decide +kernel
theorem dX8_gain_12 : decode cX8_gain 12 = .ok (.iload_n 3, 1) := by decide +kernel
theorem dX8_gain_13 : decode cX8_gain 13 = .ok (.ishr, 1) := by decide +kernel
theorem dX8_gain_14 : decode cX8_gain 14 = .ok (.iconst 1, 1) := by decide +kernel
theorem dX8_gain_15 : decode cX8_gain 15 = .ok (.iand, 1) := by decide +kernel
theorem dX8_gain_16 : decode cX8_gain 16 = .ok (.iadd, 1) := by decide +kernel
theorem dX8_gain_17 : decode cX8_gain 17 = .ok (.istore_n 2, 1) := by decide +kernel
theorem dX8_gain_18 : decode cX8_gain 18 = .ok (.iinc 3 1, 3) := by decide +kernel
theorem dX8_gain_21 : decode cX8_gain 21 = .ok (.goto (-17), 3) := by decide +kernel
theorem dX8_gain_24 : decode cX8_gain 24 = .ok (.iload_n 1, 1) := by decide +kernel
theorem dX8_gain_25 : decode cX8_gain 25 = .ok (.ifCond .lt 18, 3) := by decide +kernel
theorem dX8_gain_28 : decode cX8_gain 28 = .ok (.iload_n 1, 1) := by decide +kernel
theorem dX8_gain_29 : decode cX8_gain 29 = .ok (.iconst 1, 1) := by decide +kernel
theorem dX8_gain_30 : decode cX8_gain 30 = .ok (.aload_n 0, 1) := by decide +kernel
theorem dX8_gain_31 : decode cX8_gain 31 = .ok (.getfield 104, 3) := by decide +kernel
theorem dX8_gain_34 : decode cX8_gain 34 = .ok (.ishl, 1) := by decide +kernel
theorem dX8_gain_35 : decode cX8_gain 35 = .ok (.if_icmp .ge 8, 3) := by decide +kernel
theorem dX8_gain_38 : decode cX8_gain 38 = .ok (.iload_n 2, 1) := by decide +kernel
theorem dX8_gain_39 : decode cX8_gain 39 = .ok (.iconst 2, 1) := by decide +kernel
theorem dX8_gain_40 : decode cX8_gain 40 = .ok (.if_icmp .ge 6, 3) := by decide +kernel
theorem dX8_gain_43 : decode cX8_gain 43 = .ok (.ldc 239, 2) := by decide +kernel
theorem dX8_gain_45 : decode cX8_gain 45 = .ok (.ireturn, 1) := by decide +kernel
theorem dX8_gain_46 : decode cX8_gain 46 = .ok (.aload_n 0, 1) := by decide +kernel
theorem dX8_gain_47 : decode cX8_gain 47 = .ok (.getfield 118, 3) := by decide +kernel
theorem dX8_gain_50 : decode cX8_gain 50 = .ok (.ifCond .ne 6, 3) := by decide +kernel
theorem dX8_gain_53 : decode cX8_gain 53 = .ok (.ldc 246, 2) := by decide +kernel
theorem dX8_gain_55 : decode cX8_gain 55 = .ok (.ireturn, 1) := by decide +kernel
theorem dX8_gain_56 : decode cX8_gain 56 = .ok (.aload_n 0, 1) := by decide +kernel
theorem dX8_gain_57 : decode cX8_gain 57 = .ok (.iload_n 1, 1) := by decide +kernel
theorem dX8_gain_58 : decode cX8_gain 58 = .ok (.invokevirtual 247, 3) := by decide +kernel
theorem dX8_gain_61 : decode cX8_gain 61 = .ok (.istore_n 3, 1) := by decide +kernel
theorem dX8_gain_62 : decode cX8_gain 62 = .ok (.aload_n 0, 1) := by decide +kernel
theorem dX8_gain_63 : decode cX8_gain 63 = .ok (.getfield 118, 3) := by decide +kernel
theorem dX8_gain_66 : decode cX8_gain 66 = .ok (.iconst 1, 1) := by decide +kernel
theorem dX8_gain_67 : decode cX8_gain 67 = .ok (.isub, 1) := by decide +kernel
theorem dX8_gain_68 : decode cX8_gain 68 = .ok (.istore 4, 2) := by decide +kernel
theorem dX8_gain_70 : decode cX8_gain 70 = .ok (.iconst 0, 1) := by decide +kernel
theorem dX8_gain_71 : decode cX8_gain 71 = .ok (.istore 5, 2) := by decide +kernel
theorem dX8_gain_73 : decode cX8_gain 73 = .ok (.iload 5, 2) := by decide +kernel
theorem dX8_gain_75 : decode cX8_gain 75 = .ok (.iconst 3, 1) := by decide +kernel
theorem dX8_gain_76 : decode cX8_gain 76 = .ok (.aload_n 0, 1) := by decide +kernel
theorem dX8_gain_77 : decode cX8_gain 77 = .ok (.getfield 104, 3) := by decide +kernel
theorem dX8_gain_80 : decode cX8_gain 80 = .ok (.imul, 1) := by decide +kernel
theorem dX8_gain_81 : decode cX8_gain 81 = .ok (.if_icmp .ge 19, 3) := by decide +kernel
theorem dX8_gain_84 : decode cX8_gain 84 = .ok (.aload_n 0, 1) := by decide +kernel
theorem dX8_gain_85 : decode cX8_gain 85 = .ok (.iload_n 1, 1) := by decide +kernel
theorem dX8_gain_86 : decode cX8_gain 86 = .ok (.iload 4, 2) := by decide +kernel
theorem dX8_gain_88 : decode cX8_gain 88 = .ok (.iload 5, 2) := by decide +kernel
theorem dX8_gain_90 : decode cX8_gain 90 = .ok (.iconst 1, 1) := by decide +kernel
theorem dX8_gain_91 : decode cX8_gain 91 = .ok (.invokevirtual 250, 3) := by decide +kernel
theorem dX8_gain_94 : decode cX8_gain 94 = .ok (.iinc 5 1, 3) := by decide +kernel
theorem dX8_gain_97 : decode cX8_gain 97 = .ok (.goto (-24), 3) := by decide +kernel
theorem dX8_gain_100 : decode cX8_gain 100 = .ok (.aload_n 0, 1) := by decide +kernel
theorem dX8_gain_101 : decode cX8_gain 101 = .ok (.iload_n 1, 1) := by decide +kernel
theorem dX8_gain_102 : decode cX8_gain 102 = .ok (.invokevirtual 247, 3) := by decide +kernel
theorem dX8_gain_105 : decode cX8_gain 105 = .ok (.istore 5, 2) := by decide +kernel
theorem dX8_gain_107 : decode cX8_gain 107 = .ok (.iconst 0, 1) := by decide +kernel
theorem dX8_gain_108 : decode cX8_gain 108 = .ok (.istore 6, 2) := by decide +kernel
theorem dX8_gain_110 : decode cX8_gain 110 = .ok (.iload 6, 2) := by decide +kernel
theorem dX8_gain_112 : decode cX8_gain 112 = .ok (.iconst 3, 1) := by decide +kernel
theorem dX8_gain_113 : decode cX8_gain 113 = .ok (.aload_n 0, 1) := by decide +kernel
theorem dX8_gain_114 : decode cX8_gain 114 = .ok (.getfield 104, 3) := by decide +kernel
theorem dX8_gain_117 : decode cX8_gain 117 = .ok (.imul, 1) := by decide +kernel
theorem dX8_gain_118 : decode cX8_gain 118 = .ok (.if_icmp .ge 19, 3) := by decide +kernel
theorem dX8_gain_121 : decode cX8_gain 121 = .ok (.aload_n 0, 1) := by decide +kernel
theorem dX8_gain_122 : decode cX8_gain 122 = .ok (.iload_n 1, 1) := by decide +kernel
theorem dX8_gain_123 : decode cX8_gain 123 = .ok (.iload 4, 2) := by decide +kernel
theorem dX8_gain_125 : decode cX8_gain 125 = .ok (.iload 6, 2) := by decide +kernel
theorem dX8_gain_127 : decode cX8_gain 127 = .ok (.iconst 0, 1) := by decide +kernel
theorem dX8_gain_128 : decode cX8_gain 128 = .ok (.invokevirtual 250, 3) := by decide +kernel
theorem dX8_gain_131 : decode cX8_gain 131 = .ok (.iinc 6 1, 3) := by decide +kernel
theorem dX8_gain_134 : decode cX8_gain 134 = .ok (.goto (-24), 3) := by decide +kernel
theorem dX8_gain_137 : decode cX8_gain 137 = .ok (.iload 5, 2) := by decide +kernel
theorem dX8_gain_139 : decode cX8_gain 139 = .ok (.iload_n 3, 1) := by decide +kernel
theorem dX8_gain_140 : decode cX8_gain 140 = .ok (.isub, 1) := by decide +kernel
theorem dX8_gain_141 : decode cX8_gain 141 = .ok (.ireturn, 1) := by decide +kernel
theorem dX8_helps_0 : decode cX8_helps 0 = .ok (.iconst 0, 1) := by decide +kernel
theorem dX8_helps_1 : decode cX8_helps 1 = .ok (.istore 5, 2) := by decide +kernel
theorem dX8_helps_3 : decode cX8_helps 3 = .ok (.iload 5, 2) := by decide +kernel
theorem dX8_helps_5 : decode cX8_helps 5 = .ok (.aload_n 0, 1) := by decide +kernel
theorem dX8_helps_6 : decode cX8_helps 6 = .ok (.getfield 104, 3) := by decide +kernel
theorem dX8_helps_9 : decode cX8_helps 9 = .ok (.if_icmp .ge 106, 3) := by decide +kernel
theorem dX8_helps_12 : decode cX8_helps 12 = .ok (.bipush 75, 2) := by decide +kernel
theorem dX8_helps_14 : decode cX8_helps 14 = .ok (.iload_n 2, 1) := by decide +kernel
theorem dX8_helps_15 : decode cX8_helps 15 = .ok (.imul, 1) := by decide +kernel
theorem dX8_helps_16 : decode cX8_helps 16 = .ok (.iconst 5, 1) := by decide +kernel
theorem dX8_helps_17 : decode cX8_helps 17 = .ok (.iload_n 3, 1) := by decide +kernel
theorem dX8_helps_18 : decode cX8_helps 18 = .ok (.imul, 1) := by decide +kernel
theorem dX8_helps_19 : decode cX8_helps 19 = .ok (.iadd, 1) := by decide +kernel
theorem dX8_helps_20 : decode cX8_helps 20 = .ok (.iload 5, 2) := by decide +kernel
theorem dX8_helps_22 : decode cX8_helps 22 = .ok (.iadd, 1) := by decide +kernel
theorem dX8_helps_23 : decode cX8_helps 23 = .ok (.istore 6, 2) := by decide +kernel
theorem dX8_helps_25 : decode cX8_helps 25 = .ok (.iload_n 1, 1) := by decide +kernel
theorem dX8_helps_26 : decode cX8_helps 26 = .ok (.iload 5, 2) := by decide +kernel
theorem dX8_helps_28 : decode cX8_helps 28 = .ok (.ishr, 1) := by decide +kernel
theorem dX8_helps_29 : decode cX8_helps 29 = .ok (.iconst 1, 1) := by decide +kernel
theorem dX8_helps_30 : decode cX8_helps 30 = .ok (.iand, 1) := by decide +kernel
theorem dX8_helps_31 : decode cX8_helps 31 = .ok (.ifCond .eq 78, 3) := by decide +kernel
theorem dX8_helps_34 : decode cX8_helps 34 = .ok (.iload_n 1, 1) := by decide +kernel
theorem dX8_helps_35 : decode cX8_helps 35 = .ok (.iload_n 3, 1) := by decide +kernel
theorem dX8_helps_36 : decode cX8_helps 36 = .ok (.iconst 3, 1) := by decide +kernel
theorem dX8_helps_37 : decode cX8_helps 37 = .ok (.idiv, 1) := by decide +kernel
theorem dX8_helps_38 : decode cX8_helps 38 = .ok (.ishr, 1) := by decide +kernel
theorem dX8_helps_39 : decode cX8_helps 39 = .ok (.iconst 1, 1) := by decide +kernel
theorem dX8_helps_40 : decode cX8_helps 40 = .ok (.iand, 1) := by decide +kernel
theorem dX8_helps_41 : decode cX8_helps 41 = .ok (.ifCond .eq 68, 3) := by decide +kernel
theorem dX8_helps_44 : decode cX8_helps 44 = .ok (.iload 5, 2) := by decide +kernel
theorem dX8_helps_46 : decode cX8_helps 46 = .ok (.iload_n 3, 1) := by decide +kernel
theorem dX8_helps_47 : decode cX8_helps 47 = .ok (.iconst 3, 1) := by decide +kernel
theorem dX8_helps_48 : decode cX8_helps 48 = .ok (.idiv, 1) := by decide +kernel
theorem dX8_helps_49 : decode cX8_helps 49 = .ok (.if_icmp .ne 6, 3) := by decide +kernel
theorem dX8_helps_52 : decode cX8_helps 52 = .ok (.goto 57, 3) := by decide +kernel
theorem dX8_helps_55 : decode cX8_helps 55 = .ok (.iload 4, 2) := by decide +kernel
theorem dX8_helps_57 : decode cX8_helps 57 = .ok (.ifCond .eq 26, 3) := by decide +kernel
theorem dX8_helps_60 : decode cX8_helps 60 = .ok (.aload_n 0, 1) := by decide +kernel
theorem dX8_helps_61 : decode cX8_helps 61 = .ok (.getfield 89, 3) := by decide +kernel
theorem dX8_helps_64 : decode cX8_helps 64 = .ok (.iload 6, 2) := by decide +kernel
theorem dX8_helps_66 : decode cX8_helps 66 = .ok (.iaload, 1) := by decide +kernel
theorem dX8_helps_67 : decode cX8_helps 67 = .ok (.ifCond .ne 16, 3) := by decide +kernel
theorem dX8_helps_70 : decode cX8_helps 70 = .ok (.aload_n 0, 1) := by decide +kernel
theorem dX8_helps_71 : decode cX8_helps 71 = .ok (.getfield 89, 3) := by decide +kernel
theorem dX8_helps_74 : decode cX8_helps 74 = .ok (.iload 6, 2) := by decide +kernel
theorem dX8_helps_76 : decode cX8_helps 76 = .ok (.sipush 900, 3) := by decide +kernel
theorem dX8_helps_79 : decode cX8_helps 79 = .ok (.iastore, 1) := by decide +kernel
theorem dX8_helps_80 : decode cX8_helps 80 = .ok (.goto 29, 3) := by decide +kernel
theorem dX8_helps_83 : decode cX8_helps 83 = .ok (.iload 4, 2) := by decide +kernel
theorem dX8_helps_85 : decode cX8_helps 85 = .ok (.ifCond .ne 24, 3) := by decide +kernel
theorem dX8_helps_88 : decode cX8_helps 88 = .ok (.aload_n 0, 1) := by decide +kernel
theorem dX8_helps_89 : decode cX8_helps 89 = .ok (.getfield 89, 3) := by decide +kernel
theorem dX8_helps_92 : decode cX8_helps 92 = .ok (.iload 6, 2) := by decide +kernel
theorem dX8_helps_94 : decode cX8_helps 94 = .ok (.iaload, 1) := by decide +kernel
theorem dX8_helps_95 : decode cX8_helps 95 = .ok (.sipush 900, 3) := by decide +kernel
theorem dX8_helps_98 : decode cX8_helps 98 = .ok (.if_icmp .ne 11, 3) := by decide +kernel
theorem dX8_helps_101 : decode cX8_helps 101 = .ok (.aload_n 0, 1) := by decide +kernel
theorem dX8_helps_102 : decode cX8_helps 102 = .ok (.getfield 89, 3) := by decide +kernel
theorem dX8_helps_105 : decode cX8_helps 105 = .ok (.iload 6, 2) := by decide +kernel
theorem dX8_helps_107 : decode cX8_helps 107 = .ok (.iconst 0, 1) := by decide +kernel
theorem dX8_helps_108 : decode cX8_helps 108 = .ok (.iastore, 1) := by decide +kernel
theorem dX8_helps_109 : decode cX8_helps 109 = .ok (.iinc 5 1, 3) := by decide +kernel
theorem dX8_helps_112 : decode cX8_helps 112 = .ok (.goto (-109), 3) := by decide +kernel
theorem dX8_helps_115 : decode cX8_helps 115 = .ok (.return_, 1) := by decide +kernel
set_option maxRecDepth 20000 in
theorem ggX8_alike_X8_isPlace : GoodIn wsX8_alike wsX8_isPlace := goodIn_r _ [12, 13, 14, 15, 16, 11, 17, 18, 19, 20, 21, 22, 23, 24, 25, 26, 27, 28, 29, 30, 31, 32, 33, 34, 35, 36, 37, 38, 39, 40, 41, 42, 43, 44, 45, 46, 47, 48, 49, 50, 51, 52, 53, 54, 55, 56, 57, 58, 59, 60, 61, 62, 63, 64] (by decide +kernel) (by decide +kernel)
set_option maxRecDepth 20000 in
theorem gX8_alike_X8_isPlace : GoodIn wsX8_alike (wsV RX8 149 RX8 yX8_isPlace wsX8_isPlace) := goodIn_app (goodIn_of _ (by decide +kernel)) ggX8_alike_X8_isPlace
theorem dX8_alike_0 : decode cX8_alike 0 = .ok (.aload_n 0, 1) := by decide +kernel
theorem dX8_alike_1 : decode cX8_alike 1 = .ok (.iload_n 1, 1) := by decide +kernel
theorem dX8_alike_2 : decode cX8_alike 2 = .ok (.iload_n 2, 1) := by decide +kernel
theorem dX8_alike_3 : decode cX8_alike 3 = .ok (.invokevirtual 149, 3) := by decide +kernel
theorem dX8_alike_6 : decode cX8_alike 6 = .ok (.ifCond .ne 5, 3) := by decide +kernel
theorem dX8_alike_9 : decode cX8_alike 9 = .ok (.iconst (-1), 1) := by decide +kernel
theorem dX8_alike_10 : decode cX8_alike 10 = .ok (.ireturn, 1) := by decide +kernel
theorem dX8_alike_11 : decode cX8_alike 11 = .ok (.aload_n 0, 1) := by decide +kernel
theorem dX8_alike_12 : decode cX8_alike 12 = .ok (.getfield 118, 3) := by decide +kernel
theorem dX8_alike_15 : decode cX8_alike 15 = .ok (.ifCond .ne 6, 3) := by decide +kernel
theorem dX8_alike_18 : decode cX8_alike 18 = .ok (.bipush (-3), 2) := by decide +kernel
theorem dX8_alike_20 : decode cX8_alike 20 = .ok (.ireturn, 1) := by decide +kernel
theorem dX8_alike_21 : decode cX8_alike 21 = .ok (.iconst 3, 1) := by decide +kernel
theorem dX8_alike_22 : decode cX8_alike 22 = .ok (.iload_n 1, 1) := by decide +kernel
theorem dX8_alike_23 : decode cX8_alike 23 = .ok (.imul, 1) := by decide +kernel
theorem dX8_alike_24 : decode cX8_alike 24 = .ok (.iload_n 2, 1) := by decide +kernel
theorem dX8_alike_25 : decode cX8_alike 25 = .ok (.iadd, 1) := by decide +kernel
theorem dX8_alike_26 : decode cX8_alike 26 = .ok (.istore_n 3, 1) := by decide +kernel
theorem dX8_alike_27 : decode cX8_alike 27 = .ok (.iconst 0, 1) := by decide +kernel
theorem dX8_alike_28 : decode cX8_alike 28 = .ok (.istore 4, 2) := by decide +kernel
theorem dX8_alike_30 : decode cX8_alike 30 = .ok (.iconst 0, 1) := by decide +kernel
theorem dX8_alike_31 : decode cX8_alike 31 = .ok (.istore 5, 2) := by decide +kernel
theorem dX8_alike_33 : decode cX8_alike 33 = .ok (.iload 5, 2) := by decide +kernel
theorem dX8_alike_35 : decode cX8_alike 35 = .ok (.aload_n 0, 1) := by decide +kernel
theorem dX8_alike_36 : decode cX8_alike 36 = .ok (.getfield 219, 3) := by decide +kernel
theorem dX8_alike_39 : decode cX8_alike 39 = .ok (.if_icmp .ge 109, 3) := by decide +kernel
theorem dX8_alike_42 : decode cX8_alike 42 = .ok (.iconst 0, 1) := by decide +kernel
theorem dX8_alike_43 : decode cX8_alike 43 = .ok (.istore 6, 2) := by decide +kernel
theorem dX8_alike_45 : decode cX8_alike 45 = .ok (.iconst 0, 1) := by decide +kernel
theorem dX8_alike_46 : decode cX8_alike 46 = .ok (.istore 7, 2) := by decide +kernel
theorem dX8_alike_48 : decode cX8_alike 48 = .ok (.iload 7, 2) := by decide +kernel
theorem dX8_alike_50 : decode cX8_alike 50 = .ok (.iconst 3, 1) := by decide +kernel
theorem dX8_alike_51 : decode cX8_alike 51 = .ok (.if_icmp .ge 65, 3) := by decide +kernel
theorem dX8_alike_54 : decode cX8_alike 54 = .ok (.iload 6, 2) := by decide +kernel
theorem dX8_alike_56 : decode cX8_alike 56 = .ok (.ifCond .ne 47, 3) := by decide +kernel
theorem dX8_alike_59 : decode cX8_alike 59 = .ok (.aload_n 0, 1) := by decide +kernel
theorem dX8_alike_60 : decode cX8_alike 60 = .ok (.getfield 65, 3) := by decide +kernel
theorem dX8_alike_63 : decode cX8_alike 63 = .ok (.iload 5, 2) := by decide +kernel
theorem dX8_alike_65 : decode cX8_alike 65 = .ok (.iaload, 1) := by decide +kernel
theorem dX8_alike_66 : decode cX8_alike 66 = .ok (.aload_n 0, 1) := by decide +kernel
theorem dX8_alike_67 : decode cX8_alike 67 = .ok (.getfield 74, 3) := by decide +kernel
theorem dX8_alike_70 : decode cX8_alike 70 = .ok (.iconst 3, 1) := by decide +kernel
theorem dX8_alike_71 : decode cX8_alike 71 = .ok (.iload_n 3, 1) := by decide +kernel
theorem dX8_alike_72 : decode cX8_alike 72 = .ok (.imul, 1) := by decide +kernel
theorem dX8_alike_73 : decode cX8_alike 73 = .ok (.iload 7, 2) := by decide +kernel
theorem dX8_alike_75 : decode cX8_alike 75 = .ok (.iadd, 1) := by decide +kernel
theorem dX8_alike_76 : decode cX8_alike 76 = .ok (.iaload, 1) := by decide +kernel
theorem dX8_alike_77 : decode cX8_alike 77 = .ok (.iconst 1, 1) := by decide +kernel
theorem dX8_alike_78 : decode cX8_alike 78 = .ok (.iadd, 1) := by decide +kernel
theorem dX8_alike_79 : decode cX8_alike 79 = .ok (.if_icmp .ne 28, 3) := by decide +kernel
theorem dX8_alike_82 : decode cX8_alike 82 = .ok (.aload_n 0, 1) := by decide +kernel
theorem dX8_alike_83 : decode cX8_alike 83 = .ok (.getfield 68, 3) := by decide +kernel
theorem dX8_alike_86 : decode cX8_alike 86 = .ok (.iload 5, 2) := by decide +kernel
theorem dX8_alike_88 : decode cX8_alike 88 = .ok (.iaload, 1) := by decide +kernel
theorem dX8_alike_89 : decode cX8_alike 89 = .ok (.aload_n 0, 1) := by decide +kernel
theorem dX8_alike_90 : decode cX8_alike 90 = .ok (.getfield 77, 3) := by decide +kernel
theorem dX8_alike_93 : decode cX8_alike 93 = .ok (.iconst 3, 1) := by decide +kernel
theorem dX8_alike_94 : decode cX8_alike 94 = .ok (.iload_n 3, 1) := by decide +kernel
theorem dX8_alike_95 : decode cX8_alike 95 = .ok (.imul, 1) := by decide +kernel
theorem dX8_alike_96 : decode cX8_alike 96 = .ok (.iload 7, 2) := by decide +kernel
theorem dX8_alike_98 : decode cX8_alike 98 = .ok (.iadd, 1) := by decide +kernel
theorem dX8_alike_99 : decode cX8_alike 99 = .ok (.iaload, 1) := by decide +kernel
theorem dX8_alike_100 : decode cX8_alike 100 = .ok (.if_icmp .ne 7, 3) := by decide +kernel
theorem dX8_alike_103 : decode cX8_alike 103 = .ok (.iconst 1, 1) := by decide +kernel
theorem dX8_alike_104 : decode cX8_alike 104 = .ok (.goto 4, 3) := by decide +kernel
theorem dX8_alike_107 : decode cX8_alike 107 = .ok (.iconst 0, 1) := by decide +kernel
theorem dX8_alike_108 : decode cX8_alike 108 = .ok (.istore 6, 2) := by decide +kernel
theorem dX8_alike_110 : decode cX8_alike 110 = .ok (.iinc 7 1, 3) := by decide +kernel
theorem dX8_alike_113 : decode cX8_alike 113 = .ok (.goto (-65), 3) := by decide +kernel
theorem dX8_alike_116 : decode cX8_alike 116 = .ok (.iload 4, 2) := by decide +kernel
theorem dX8_alike_118 : decode cX8_alike 118 = .ok (.aload_n 0, 1) := by decide +kernel
theorem dX8_alike_119 : decode cX8_alike 119 = .ok (.getfield 62, 3) := by decide +kernel
theorem dX8_alike_122 : decode cX8_alike 122 = .ok (.iload 5, 2) := by decide +kernel
theorem dX8_alike_124 : decode cX8_alike 124 = .ok (.iaload, 1) := by decide +kernel
theorem dX8_alike_125 : decode cX8_alike 125 = .ok (.iload_n 3, 1) := by decide +kernel
theorem dX8_alike_126 : decode cX8_alike 126 = .ok (.if_icmp .ne 12, 3) := by decide +kernel
theorem dX8_alike_129 : decode cX8_alike 129 = .ok (.iload 6, 2) := by decide +kernel
theorem dX8_alike_131 : decode cX8_alike 131 = .ok (.ifCond .eq 7, 3) := by decide +kernel
theorem dX8_alike_134 : decode cX8_alike 134 = .ok (.iconst 1, 1) := by decide +kernel
theorem dX8_alike_135 : decode cX8_alike 135 = .ok (.goto 4, 3) := by decide +kernel
theorem dX8_alike_138 : decode cX8_alike 138 = .ok (.iconst 0, 1) := by decide +kernel
theorem dX8_alike_139 : decode cX8_alike 139 = .ok (.iadd, 1) := by decide +kernel
theorem dX8_alike_140 : decode cX8_alike 140 = .ok (.istore 4, 2) := by decide +kernel
theorem dX8_alike_142 : decode cX8_alike 142 = .ok (.iinc 5 1, 3) := by decide +kernel
theorem dX8_alike_145 : decode cX8_alike 145 = .ok (.goto (-112), 3) := by decide +kernel
theorem dX8_alike_148 : decode cX8_alike 148 = .ok (.iload 4, 2) := by decide +kernel
theorem dX8_alike_150 : decode cX8_alike 150 = .ok (.ireturn, 1) := by decide +kernel
theorem dX8_count_0 : decode cX8_count 0 = .ok (.iload_n 1, 1) := by decide +kernel
theorem dX8_count_1 : decode cX8_count 1 = .ok (.tableswitch 69 0 5 #[39, 44, 49, 54, 59, 64], 39) := by decide +kernel
theorem dX8_count_40 : decode cX8_count 40 = .ok (.aload_n 0, 1) := by decide +kernel
theorem dX8_count_41 : decode cX8_count 41 = .ok (.getfield 104, 3) := by decide +kernel
theorem dX8_count_44 : decode cX8_count 44 = .ok (.ireturn, 1) := by decide +kernel
theorem dX8_count_45 : decode cX8_count 45 = .ok (.aload_n 0, 1) := by decide +kernel
theorem dX8_count_46 : decode cX8_count 46 = .ok (.getfield 118, 3) := by decide +kernel
theorem dX8_count_49 : decode cX8_count 49 = .ok (.ireturn, 1) := by decide +kernel
theorem dX8_count_50 : decode cX8_count 50 = .ok (.aload_n 0, 1) := by decide +kernel
theorem dX8_count_51 : decode cX8_count 51 = .ok (.getfield 228, 3) := by decide +kernel
theorem dX8_count_54 : decode cX8_count 54 = .ok (.ireturn, 1) := by decide +kernel
theorem dX8_count_55 : decode cX8_count 55 = .ok (.aload_n 0, 1) := by decide +kernel
theorem dX8_count_56 : decode cX8_count 56 = .ok (.getfield 206, 3) := by decide +kernel
