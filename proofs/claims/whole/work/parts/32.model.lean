theorem dX12_goesThrough_0 : decode cX12_goesThrough 0 = .ok (.bipush 65, 2) := by decide +kernel
theorem dX12_goesThrough_2 : decode cX12_goesThrough 2 = .ok (.aload_n 0, 1) := by decide +kernel
theorem dX12_goesThrough_3 : decode cX12_goesThrough 3 = .ok (.getfield 7, 3) := by decide +kernel
theorem dX12_goesThrough_6 : decode cX12_goesThrough 6 = .ok (.iconst 4, 1) := by decide +kernel
theorem dX12_goesThrough_7 : decode cX12_goesThrough 7 = .ok (.iload_n 1, 1) := by decide +kernel
theorem dX12_goesThrough_8 : decode cX12_goesThrough 8 = .ok (.imul, 1) := by decide +kernel
theorem dX12_goesThrough_9 : decode cX12_goesThrough 9 = .ok (.iaload, 1) := by decide +kernel
theorem dX12_goesThrough_10 : decode cX12_goesThrough 10 = .ok (.imul, 1) := by decide +kernel
theorem dX12_goesThrough_11 : decode cX12_goesThrough 11 = .ok (.istore 6, 2) := by decide +kernel
theorem dX12_goesThrough_13 : decode cX12_goesThrough 13 = .ok (.bipush 65, 2) := by decide +kernel
theorem dX12_goesThrough_15 : decode cX12_goesThrough 15 = .ok (.aload_n 0, 1) := by decide +kernel
theorem dX12_goesThrough_16 : decode cX12_goesThrough 16 = .ok (.getfield 7, 3) := by decide +kernel
theorem dX12_goesThrough_19 : decode cX12_goesThrough 19 = .ok (.iconst 4, 1) := by decide +kernel
theorem dX12_goesThrough_20 : decode cX12_goesThrough 20 = .ok (.iload_n 1, 1) := by decide +kernel
theorem dX12_goesThrough_21 : decode cX12_goesThrough 21 = .ok (.imul, 1) := by decide +kernel
theorem dX12_goesThrough_22 : decode cX12_goesThrough 22 = .ok (.iconst 1, 1) := by decide +kernel
theorem dX12_goesThrough_23 : decode cX12_goesThrough 23 = .ok (.iadd, 1) := by decide +kernel
theorem dX12_goesThrough_24 : decode cX12_goesThrough 24 = .ok (.iaload, 1) := by decide +kernel
theorem dX12_goesThrough_25 : decode cX12_goesThrough 25 = .ok (.imul, 1) := by decide +kernel
theorem dX12_goesThrough_26 : decode cX12_goesThrough 26 = .ok (.istore 7, 2) := by decide +kernel
theorem dX12_goesThrough_28 : decode cX12_goesThrough 28 = .ok (.bipush 65, 2) := by decide +kernel
theorem dX12_goesThrough_30 : decode cX12_goesThrough 30 = .ok (.aload_n 0, 1) := by decide +kernel
theorem dX12_goesThrough_31 : decode cX12_goesThrough 31 = .ok (.getfield 7, 3) := by decide +kernel
theorem dX12_goesThrough_34 : decode cX12_goesThrough 34 = .ok (.iconst 4, 1) := by decide +kernel
theorem dX12_goesThrough_35 : decode cX12_goesThrough 35 = .ok (.iload_n 1, 1) := by decide +kernel
theorem dX12_goesThrough_36 : decode cX12_goesThrough 36 = .ok (.imul, 1) := by decide +kernel
theorem dX12_goesThrough_37 : decode cX12_goesThrough 37 = .ok (.iconst 2, 1) := by decide +kernel
theorem dX12_goesThrough_38 : decode cX12_goesThrough 38 = .ok (.iadd, 1) := by decide +kernel
theorem dX12_goesThrough_39 : decode cX12_goesThrough 39 = .ok (.iaload, 1) := by decide +kernel
theorem dX12_goesThrough_40 : decode cX12_goesThrough 40 = .ok (.imul, 1) := by decide +kernel
theorem dX12_goesThrough_41 : decode cX12_goesThrough 41 = .ok (.istore 8, 2) := by decide +kernel
theorem dX12_goesThrough_43 : decode cX12_goesThrough 43 = .ok (.bipush 65, 2) := by decide +kernel
theorem dX12_goesThrough_45 : decode cX12_goesThrough 45 = .ok (.aload_n 0, 1) := by decide +kernel
theorem dX12_goesThrough_46 : decode cX12_goesThrough 46 = .ok (.getfield 7, 3) := by decide +kernel
theorem dX12_goesThrough_49 : decode cX12_goesThrough 49 = .ok (.iconst 4, 1) := by decide +kernel
theorem dX12_goesThrough_50 : decode cX12_goesThrough 50 = .ok (.iload_n 1, 1) := by decide +kernel
theorem dX12_goesThrough_51 : decode cX12_goesThrough 51 = .ok (.imul, 1) := by decide +kernel
theorem dX12_goesThrough_52 : decode cX12_goesThrough 52 = .ok (.iconst 3, 1) := by decide +kernel
theorem dX12_goesThrough_53 : decode cX12_goesThrough 53 = .ok (.iadd, 1) := by decide +kernel
theorem dX12_goesThrough_54 : decode cX12_goesThrough 54 = .ok (.iaload, 1) := by decide +kernel
theorem dX12_goesThrough_55 : decode cX12_goesThrough 55 = .ok (.imul, 1) := by decide +kernel
theorem dX12_goesThrough_56 : decode cX12_goesThrough 56 = .ok (.istore 9, 2) := by decide +kernel
theorem dX12_goesThrough_58 : decode cX12_goesThrough 58 = .ok (.iload 4, 2) := by decide +kernel
theorem dX12_goesThrough_60 : decode cX12_goesThrough 60 = .ok (.ifCond .ge 10, 3) := by decide +kernel
theorem dX12_goesThrough_63 : decode cX12_goesThrough 63 = .ok (.iload_n 2, 1) := by decide +kernel
theorem dX12_goesThrough_64 : decode cX12_goesThrough 64 = .ok (.iload 4, 2) := by decide +kernel
theorem dX12_goesThrough_66 : decode cX12_goesThrough 66 = .ok (.iadd, 1) := by decide +kernel
theorem dX12_goesThrough_67 : decode cX12_goesThrough 67 = .ok (.goto 4, 3) := by decide +kernel
theorem dX12_goesThrough_70 : decode cX12_goesThrough 70 = .ok (.iload_n 2, 1) := by decide +kernel
theorem dX12_goesThrough_71 : decode cX12_goesThrough 71 = .ok (.istore 10, 2) := by decide +kernel
theorem dX12_goesThrough_73 : decode cX12_goesThrough 73 = .ok (.iload 4, 2) := by decide +kernel
theorem dX12_goesThrough_75 : decode cX12_goesThrough 75 = .ok (.ifCond .ge 7, 3) := by decide +kernel
theorem dX12_goesThrough_78 : decode cX12_goesThrough 78 = .ok (.iload_n 2, 1) := by decide +kernel
theorem dX12_goesThrough_79 : decode cX12_goesThrough 79 = .ok (.goto 7, 3) := by decide +kernel
theorem dX12_goesThrough_82 : decode cX12_goesThrough 82 = .ok (.iload_n 2, 1) := by decide +kernel
theorem dX12_goesThrough_83 : decode cX12_goesThrough 83 = .ok (.iload 4, 2) := by decide +kernel
theorem dX12_goesThrough_85 : decode cX12_goesThrough 85 = .ok (.iadd, 1) := by decide +kernel
theorem dX12_goesThrough_86 : decode cX12_goesThrough 86 = .ok (.istore 11, 2) := by decide +kernel
theorem dX12_goesThrough_88 : decode cX12_goesThrough 88 = .ok (.iload 5, 2) := by decide +kernel
theorem dX12_goesThrough_90 : decode cX12_goesThrough 90 = .ok (.ifCond .ge 10, 3) := by decide +kernel
theorem dX12_goesThrough_93 : decode cX12_goesThrough 93 = .ok (.iload_n 3, 1) := by decide +kernel
theorem dX12_goesThrough_94 : decode cX12_goesThrough 94 = .ok (.iload 5, 2) := by decide +kernel
theorem dX12_goesThrough_96 : decode cX12_goesThrough 96 = .ok (.iadd, 1) := by decide +kernel
theorem dX12_goesThrough_97 : decode cX12_goesThrough 97 = .ok (.goto 4, 3) := by decide +kernel
theorem dX12_goesThrough_100 : decode cX12_goesThrough 100 = .ok (.iload_n 3, 1) := by decide +kernel
theorem dX12_goesThrough_101 : decode cX12_goesThrough 101 = .ok (.istore 12, 2) := by decide +kernel
theorem dX12_goesThrough_103 : decode cX12_goesThrough 103 = .ok (.iload 5, 2) := by decide +kernel
theorem dX12_goesThrough_105 : decode cX12_goesThrough 105 = .ok (.ifCond .ge 7, 3) := by decide +kernel
theorem dX12_goesThrough_108 : decode cX12_goesThrough 108 = .ok (.iload_n 3, 1) := by decide +kernel
theorem dX12_goesThrough_109 : decode cX12_goesThrough 109 = .ok (.goto 7, 3) := by decide +kernel
theorem dX12_goesThrough_112 : decode cX12_goesThrough 112 = .ok (.iload_n 3, 1) := by decide +kernel
theorem dX12_goesThrough_113 : decode cX12_goesThrough 113 = .ok (.iload 5, 2) := by decide +kernel
theorem dX12_goesThrough_115 : decode cX12_goesThrough 115 = .ok (.iadd, 1) := by decide +kernel
theorem dX12_goesThrough_116 : decode cX12_goesThrough 116 = .ok (.istore 13, 2) := by decide +kernel
theorem dX12_goesThrough_118 : decode cX12_goesThrough 118 = .ok (.iload 11, 2) := by decide +kernel
theorem dX12_goesThrough_120 : decode cX12_goesThrough 120 = .ok (.iload 6, 2) := by decide +kernel
theorem dX12_goesThrough_122 : decode cX12_goesThrough 122 = .ok (.if_icmp .le 24, 3) := by decide +kernel
theorem dX12_goesThrough_125 : decode cX12_goesThrough 125 = .ok (.iload 10, 2) := by decide +kernel
theorem dX12_goesThrough_127 : decode cX12_goesThrough 127 = .ok (.iload 8, 2) := by decide +kernel
theorem dX12_goesThrough_129 : decode cX12_goesThrough 129 = .ok (.if_icmp .ge 17, 3) := by decide +kernel
theorem dX12_goesThrough_132 : decode cX12_goesThrough 132 = .ok (.iload 13, 2) := by decide +kernel
theorem dX12_goesThrough_134 : decode cX12_goesThrough 134 = .ok (.iload 7, 2) := by decide +kernel
theorem dX12_goesThrough_136 : decode cX12_goesThrough 136 = .ok (.if_icmp .le 10, 3) := by decide +kernel
theorem dX12_goesThrough_139 : decode cX12_goesThrough 139 = .ok (.iload 12, 2) := by decide +kernel
theorem dX12_goesThrough_141 : decode cX12_goesThrough 141 = .ok (.iload 9, 2) := by decide +kernel
theorem dX12_goesThrough_143 : decode cX12_goesThrough 143 = .ok (.if_icmp .lt 5, 3) := by decide +kernel
theorem dX12_goesThrough_146 : decode cX12_goesThrough 146 = .ok (.iconst 0, 1) := by decide +kernel
theorem dX12_goesThrough_147 : decode cX12_goesThrough 147 = .ok (.ireturn, 1) := by decide +kernel
theorem dX12_goesThrough_148 : decode cX12_goesThrough 148 = .ok (.iload 4, 2) := by decide +kernel
theorem dX12_goesThrough_150 : decode cX12_goesThrough 150 = .ok (.i2l, 1) := by decide +kernel
theorem dX12_goesThrough_151 : decode cX12_goesThrough 151 = .ok (.iload 5, 2) := by decide +kernel
theorem dX12_goesThrough_153 : decode cX12_goesThrough 153 = .ok (.i2l, 1) := by decide +kernel
theorem dX12_goesThrough_154 : decode cX12_goesThrough 154 = .ok (.iload 6, 2) := by decide +kernel
theorem dX12_goesThrough_156 : decode cX12_goesThrough 156 = .ok (.iload_n 2, 1) := by decide +kernel
theorem dX12_goesThrough_157 : decode cX12_goesThrough 157 = .ok (.isub, 1) := by decide +kernel
theorem dX12_goesThrough_158 : decode cX12_goesThrough 158 = .ok (.i2l, 1) := by decide +kernel
theorem dX12_goesThrough_159 : decode cX12_goesThrough 159 = .ok (.iload 7, 2) := by decide +kernel
theorem dX12_goesThrough_161 : decode cX12_goesThrough 161 = .ok (.iload_n 3, 1) := by decide +kernel
theorem dX12_goesThrough_162 : decode cX12_goesThrough 162 = .ok (.isub, 1) := by decide +kernel
theorem dX12_goesThrough_163 : decode cX12_goesThrough 163 = .ok (.i2l, 1) := by decide +kernel
theorem dX12_goesThrough_164 : decode cX12_goesThrough 164 = .ok (.invokestatic 362, 3) := by decide +kernel
theorem dX12_goesThrough_167 : decode cX12_goesThrough 167 = .ok (.lstore 14, 2) := by decide +kernel
theorem dX12_goesThrough_169 : decode cX12_goesThrough 169 = .ok (.iload 4, 2) := by decide +kernel
theorem dX12_goesThrough_171 : decode cX12_goesThrough 171 = .ok (.i2l, 1) := by decide +kernel
theorem dX12_goesThrough_172 : decode cX12_goesThrough 172 = .ok (.iload 5, 2) := by decide +kernel
theorem dX12_goesThrough_174 : decode cX12_goesThrough 174 = .ok (.i2l, 1) := by decide +kernel
theorem dX12_goesThrough_175 : decode cX12_goesThrough 175 = .ok (.iload 8, 2) := by decide +kernel
theorem dX12_goesThrough_177 : decode cX12_goesThrough 177 = .ok (.iload_n 2, 1) := by decide +kernel
theorem dX12_goesThrough_178 : decode cX12_goesThrough 178 = .ok (.isub, 1) := by decide +kernel
theorem dX12_goesThrough_179 : decode cX12_goesThrough 179 = .ok (.i2l, 1) := by decide +kernel
theorem dX12_goesThrough_180 : decode cX12_goesThrough 180 = .ok (.iload 7, 2) := by decide +kernel
theorem dX12_goesThrough_182 : decode cX12_goesThrough 182 = .ok (.iload_n 3, 1) := by decide +kernel
theorem dX12_goesThrough_183 : decode cX12_goesThrough 183 = .ok (.isub, 1) := by decide +kernel
theorem dX12_goesThrough_184 : decode cX12_goesThrough 184 = .ok (.i2l, 1) := by decide +kernel
theorem dX12_goesThrough_185 : decode cX12_goesThrough 185 = .ok (.invokestatic 362, 3) := by decide +kernel
theorem dX12_goesThrough_188 : decode cX12_goesThrough 188 = .ok (.lstore 16, 2) := by decide +kernel
theorem dX12_goesThrough_190 : decode cX12_goesThrough 190 = .ok (.iload 4, 2) := by decide +kernel
theorem dX12_goesThrough_192 : decode cX12_goesThrough 192 = .ok (.i2l, 1) := by decide +kernel
theorem dX12_goesThrough_193 : decode cX12_goesThrough 193 = .ok (.iload 5, 2) := by decide +kernel
theorem dX12_goesThrough_195 : decode cX12_goesThrough 195 = .ok (.i2l, 1) := by decide +kernel
theorem dX12_goesThrough_196 : decode cX12_goesThrough 196 = .ok (.iload 6, 2) := by decide +kernel
theorem dX12_goesThrough_198 : decode cX12_goesThrough 198 = .ok (.iload_n 2, 1) := by decide +kernel
theorem dX12_goesThrough_199 : decode cX12_goesThrough 199 = .ok (.isub, 1) := by decide +kernel
theorem dX12_goesThrough_200 : decode cX12_goesThrough 200 = .ok (.i2l, 1) := by decide +kernel
theorem dX12_goesThrough_201 : decode cX12_goesThrough 201 = .ok (.iload 9, 2) := by decide +kernel
theorem dX12_goesThrough_203 : decode cX12_goesThrough 203 = .ok (.iload_n 3, 1) := by decide +kernel
theorem dX12_goesThrough_204 : decode cX12_goesThrough 204 = .ok (.isub, 1) := by decide +kernel
theorem dX12_goesThrough_205 : decode cX12_goesThrough 205 = .ok (.i2l, 1) := by decide +kernel
theorem dX12_goesThrough_206 : decode cX12_goesThrough 206 = .ok (.invokestatic 362, 3) := by decide +kernel
theorem dX12_goesThrough_209 : decode cX12_goesThrough 209 = .ok (.lstore 18, 2) := by decide +kernel
theorem dX12_goesThrough_211 : decode cX12_goesThrough 211 = .ok (.iload 4, 2) := by decide +kernel
theorem dX12_goesThrough_213 : decode cX12_goesThrough 213 = .ok (.i2l, 1) := by decide +kernel
theorem dX12_goesThrough_214 : decode cX12_goesThrough 214 = .ok (.iload 5, 2) := by decide +kernel
theorem dX12_goesThrough_216 : decode cX12_goesThrough 216 = .ok (.i2l, 1) := by decide +kernel
theorem dX12_goesThrough_217 : decode cX12_goesThrough 217 = .ok (.iload 8, 2) := by decide +kernel
theorem dX12_goesThrough_219 : decode cX12_goesThrough 219 = .ok (.iload_n 2, 1) := by decide +kernel
theorem dX12_goesThrough_220 : decode cX12_goesThrough 220 = .ok (.isub, 1) := by decide +kernel
theorem dX12_goesThrough_221 : decode cX12_goesThrough 221 = .ok (.i2l, 1) := by decide +kernel
theorem dX12_goesThrough_222 : decode cX12_goesThrough 222 = .ok (.iload 9, 2) := by decide +kernel
theorem dX12_goesThrough_224 : decode cX12_goesThrough 224 = .ok (.iload_n 3, 1) := by decide +kernel
theorem dX12_goesThrough_225 : decode cX12_goesThrough 225 = .ok (.isub, 1) := by decide +kernel
theorem dX12_goesThrough_226 : decode cX12_goesThrough 226 = .ok (.i2l, 1) := by decide +kernel
theorem dX12_goesThrough_227 : decode cX12_goesThrough 227 = .ok (.invokestatic 362, 3) := by decide +kernel
theorem dX12_goesThrough_230 : decode cX12_goesThrough 230 = .ok (.lstore 20, 2) := by decide +kernel
theorem dX12_goesThrough_232 : decode cX12_goesThrough 232 = .ok (.lload 14, 2) := by decide +kernel
theorem dX12_goesThrough_234 : decode cX12_goesThrough 234 = .ok (.lconst 0, 1) := by decide +kernel
theorem dX12_goesThrough_235 : decode cX12_goesThrough 235 = .ok (.lcmp, 1) := by decide +kernel
theorem dX12_goesThrough_236 : decode cX12_goesThrough 236 = .ok (.ifCond .gt 24, 3) := by decide +kernel
theorem dX12_goesThrough_239 : decode cX12_goesThrough 239 = .ok (.lload 16, 2) := by decide +kernel
theorem dX12_goesThrough_241 : decode cX12_goesThrough 241 = .ok (.lconst 0, 1) := by decide +kernel
theorem dX12_goesThrough_242 : decode cX12_goesThrough 242 = .ok (.lcmp, 1) := by decide +kernel
theorem dX12_goesThrough_243 : decode cX12_goesThrough 243 = .ok (.ifCond .gt 17, 3) := by decide +kernel
theorem dX12_goesThrough_246 : decode cX12_goesThrough 246 = .ok (.lload 18, 2) := by decide +kernel
theorem dX12_goesThrough_248 : decode cX12_goesThrough 248 = .ok (.lconst 0, 1) := by decide +kernel
theorem dX12_goesThrough_249 : decode cX12_goesThrough 249 = .ok (.lcmp, 1) := by decide +kernel
theorem dX12_goesThrough_250 : decode cX12_goesThrough 250 = .ok (.ifCond .gt 10, 3) := by decide +kernel
theorem dX12_goesThrough_253 : decode cX12_goesThrough 253 = .ok (.lload 20, 2) := by decide +kernel
theorem dX12_goesThrough_255 : decode cX12_goesThrough 255 = .ok (.lconst 0, 1) := by decide +kernel
theorem dX12_goesThrough_256 : decode cX12_goesThrough 256 = .ok (.lcmp, 1) := by decide +kernel
theorem dX12_goesThrough_257 : decode cX12_goesThrough 257 = .ok (.ifCond .le 7, 3) := by decide +kernel
theorem dX12_goesThrough_260 : decode cX12_goesThrough 260 = .ok (.iconst 1, 1) := by decide +kernel
theorem dX12_goesThrough_261 : decode cX12_goesThrough 261 = .ok (.goto 4, 3) := by decide +kernel
theorem dX12_goesThrough_264 : decode cX12_goesThrough 264 = .ok (.iconst 0, 1) := by decide +kernel
theorem dX12_goesThrough_265 : decode cX12_goesThrough 265 = .ok (.istore 22, 2) := by decide +kernel
theorem dX12_goesThrough_267 : decode cX12_goesThrough 267 = .ok (.lload 14, 2) := by decide +kernel
theorem dX12_goesThrough_269 : decode cX12_goesThrough 269 = .ok (.lconst 0, 1) := by decide +kernel
theorem dX12_goesThrough_270 : decode cX12_goesThrough 270 = .ok (.lcmp, 1) := by decide +kernel
theorem dX12_goesThrough_271 : decode cX12_goesThrough 271 = .ok (.ifCond .lt 24, 3) := by decide +kernel
theorem dX12_goesThrough_274 : decode cX12_goesThrough 274 = .ok (.lload 16, 2) := by decide +kernel
theorem dX12_goesThrough_276 : decode cX12_goesThrough 276 = .ok (.lconst 0, 1) := by decide +kernel
theorem dX12_goesThrough_277 : decode cX12_goesThrough 277 = .ok (.lcmp, 1) := by decide +kernel
theorem dX12_goesThrough_278 : decode cX12_goesThrough 278 = .ok (.ifCond .lt 17, 3) := by decide +kernel
theorem dX12_goesThrough_281 : decode cX12_goesThrough 281 = .ok (.lload 18, 2) := by decide +kernel
theorem dX12_goesThrough_283 : decode cX12_goesThrough 283 = .ok (.lconst 0, 1) := by decide +kernel
theorem dX12_goesThrough_284 : decode cX12_goesThrough 284 = .ok (.lcmp, 1) := by decide +kernel
theorem dX12_goesThrough_285 : decode cX12_goesThrough 285 = .ok (.ifCond .lt 10, 3) := by decide +kernel
theorem dX12_goesThrough_288 : decode cX12_goesThrough 288 = .ok (.lload 20, 2) := by decide +kernel
theorem dX12_goesThrough_290 : decode cX12_goesThrough 290 = .ok (.lconst 0, 1) := by decide +kernel
theorem dX12_goesThrough_291 : decode cX12_goesThrough 291 = .ok (.lcmp, 1) := by decide +kernel
theorem dX12_goesThrough_292 : decode cX12_goesThrough 292 = .ok (.ifCond .ge 7, 3) := by decide +kernel
theorem dX12_goesThrough_295 : decode cX12_goesThrough 295 = .ok (.iconst 1, 1) := by decide +kernel
theorem dX12_goesThrough_296 : decode cX12_goesThrough 296 = .ok (.goto 4, 3) := by decide +kernel
theorem dX12_goesThrough_299 : decode cX12_goesThrough 299 = .ok (.iconst 0, 1) := by decide +kernel
theorem dX12_goesThrough_300 : decode cX12_goesThrough 300 = .ok (.istore 23, 2) := by decide +kernel
theorem dX12_goesThrough_302 : decode cX12_goesThrough 302 = .ok (.iload 22, 2) := by decide +kernel
theorem dX12_goesThrough_304 : decode cX12_goesThrough 304 = .ok (.ifCond .eq 12, 3) := by decide +kernel
theorem dX12_goesThrough_307 : decode cX12_goesThrough 307 = .ok (.iload 23, 2) := by decide +kernel
theorem dX12_goesThrough_309 : decode cX12_goesThrough 309 = .ok (.ifCond .eq 7, 3) := by decide +kernel
theorem dX12_goesThrough_312 : decode cX12_goesThrough 312 = .ok (.iconst 1, 1) := by decide +kernel
theorem dX12_goesThrough_313 : decode cX12_goesThrough 313 = .ok (.goto 4, 3) := by decide +kernel
theorem dX12_goesThrough_316 : decode cX12_goesThrough 316 = .ok (.iconst 0, 1) := by decide +kernel
theorem dX12_goesThrough_317 : decode cX12_goesThrough 317 = .ok (.ireturn, 1) := by decide +kernel
theorem dX12_ropeIs_0 : decode cX12_ropeIs 0 = .ok (.aload_n 0, 1) := by decide +kernel
theorem dX12_ropeIs_1 : decode cX12_ropeIs 1 = .ok (.iload_n 1, 1) := by decide +kernel
theorem dX12_ropeIs_2 : decode cX12_ropeIs 2 = .ok (.iload_n 2, 1) := by decide +kernel
theorem dX12_ropeIs_3 : decode cX12_ropeIs 3 = .ok (.invokevirtual 366, 3) := by decide +kernel
theorem dX12_ropeIs_6 : decode cX12_ropeIs 6 = .ok (.istore_n 3, 1) := by decide +kernel
theorem dX12_ropeIs_7 : decode cX12_ropeIs 7 = .ok (.aload_n 0, 1) := by decide +kernel
theorem dX12_ropeIs_8 : decode cX12_ropeIs 8 = .ok (.iload_n 1, 1) := by decide +kernel
theorem dX12_ropeIs_9 : decode cX12_ropeIs 9 = .ok (.iload_n 2, 1) := by decide +kernel
theorem dX12_ropeIs_10 : decode cX12_ropeIs 10 = .ok (.aload_n 0, 1) := by decide +kernel
theorem dX12_ropeIs_11 : decode cX12_ropeIs 11 = .ok (.getfield 74, 3) := by decide +kernel
theorem dX12_ropeIs_14 : decode cX12_ropeIs 14 = .ok (.iload_n 1, 1) := by decide +kernel
theorem dX12_ropeIs_15 : decode cX12_ropeIs 15 = .ok (.iaload, 1) := by decide +kernel
theorem dX12_ropeIs_16 : decode cX12_ropeIs 16 = .ok (.aload_n 0, 1) := by decide +kernel
theorem dX12_ropeIs_17 : decode cX12_ropeIs 17 = .ok (.getfield 80, 3) := by decide +kernel
theorem dX12_ropeIs_20 : decode cX12_ropeIs 20 = .ok (.iload_n 1, 1) := by decide +kernel
theorem dX12_ropeIs_21 : decode cX12_ropeIs 21 = .ok (.iaload, 1) := by decide +kernel
theorem dX12_ropeIs_22 : decode cX12_ropeIs 22 = .ok (.invokevirtual 299, 3) := by decide +kernel
theorem dX12_ropeIs_25 : decode cX12_ropeIs 25 = .ok (.istore 4, 2) := by decide +kernel
theorem dX12_ropeIs_27 : decode cX12_ropeIs 27 = .ok (.aload_n 0, 1) := by decide +kernel
theorem dX12_ropeIs_28 : decode cX12_ropeIs 28 = .ok (.iload_n 1, 1) := by decide +kernel
theorem dX12_ropeIs_29 : decode cX12_ropeIs 29 = .ok (.iload_n 2, 1) := by decide +kernel
theorem dX12_ropeIs_30 : decode cX12_ropeIs 30 = .ok (.aload_n 0, 1) := by decide +kernel
theorem dX12_ropeIs_31 : decode cX12_ropeIs 31 = .ok (.getfield 77, 3) := by decide +kernel
theorem dX12_ropeIs_34 : decode cX12_ropeIs 34 = .ok (.iload_n 1, 1) := by decide +kernel
theorem dX12_ropeIs_35 : decode cX12_ropeIs 35 = .ok (.iaload, 1) := by decide +kernel
theorem dX12_ropeIs_36 : decode cX12_ropeIs 36 = .ok (.aload_n 0, 1) := by decide +kernel
theorem dX12_ropeIs_37 : decode cX12_ropeIs 37 = .ok (.getfield 80, 3) := by decide +kernel
theorem dX12_ropeIs_40 : decode cX12_ropeIs 40 = .ok (.iload_n 1, 1) := by decide +kernel
theorem dX12_ropeIs_41 : decode cX12_ropeIs 41 = .ok (.iaload, 1) := by decide +kernel
theorem dX12_ropeIs_42 : decode cX12_ropeIs 42 = .ok (.invokevirtual 303, 3) := by decide +kernel
theorem dX12_ropeIs_45 : decode cX12_ropeIs 45 = .ok (.istore 5, 2) := by decide +kernel
theorem dX12_ropeIs_47 : decode cX12_ropeIs 47 = .ok (.iconst 0, 1) := by decide +kernel
theorem dX12_ropeIs_48 : decode cX12_ropeIs 48 = .ok (.istore 6, 2) := by decide +kernel
theorem dX12_ropeIs_50 : decode cX12_ropeIs 50 = .ok (.iload 6, 2) := by decide +kernel
theorem dX12_ropeIs_52 : decode cX12_ropeIs 52 = .ok (.aload_n 0, 1) := by decide +kernel
theorem dX12_ropeIs_53 : decode cX12_ropeIs 53 = .ok (.getfield 232, 3) := by decide +kernel
theorem dX12_ropeIs_56 : decode cX12_ropeIs 56 = .ok (.if_icmp .ge 58, 3) := by decide +kernel
theorem dX12_ropeIs_59 : decode cX12_ropeIs 59 = .ok (.aload_n 0, 1) := by decide +kernel
theorem dX12_ropeIs_60 : decode cX12_ropeIs 60 = .ok (.iload 6, 2) := by decide +kernel
theorem dX12_ropeIs_62 : decode cX12_ropeIs 62 = .ok (.iload 4, 2) := by decide +kernel
theorem dX12_ropeIs_64 : decode cX12_ropeIs 64 = .ok (.iload 5, 2) := by decide +kernel
theorem dX12_ropeIs_66 : decode cX12_ropeIs 66 = .ok (.aload_n 0, 1) := by decide +kernel
theorem dX12_ropeIs_67 : decode cX12_ropeIs 67 = .ok (.getfield 117, 3) := by decide +kernel
theorem dX12_ropeIs_70 : decode cX12_ropeIs 70 = .ok (.iconst 4, 1) := by decide +kernel
theorem dX12_ropeIs_71 : decode cX12_ropeIs 71 = .ok (.iload_n 1, 1) := by decide +kernel
theorem dX12_ropeIs_72 : decode cX12_ropeIs 72 = .ok (.imul, 1) := by decide +kernel
theorem dX12_ropeIs_73 : decode cX12_ropeIs 73 = .ok (.iload_n 2, 1) := by decide +kernel
theorem dX12_ropeIs_74 : decode cX12_ropeIs 74 = .ok (.iadd, 1) := by decide +kernel
theorem dX12_ropeIs_75 : decode cX12_ropeIs 75 = .ok (.iaload, 1) := by decide +kernel
theorem dX12_ropeIs_76 : decode cX12_ropeIs 76 = .ok (.iload_n 3, 1) := by decide +kernel
theorem dX12_ropeIs_77 : decode cX12_ropeIs 77 = .ok (.invokestatic 214, 3) := by decide +kernel
theorem dX12_ropeIs_80 : decode cX12_ropeIs 80 = .ok (.imul, 1) := by decide +kernel
theorem dX12_ropeIs_81 : decode cX12_ropeIs 81 = .ok (.aload_n 0, 1) := by decide +kernel
theorem dX12_ropeIs_82 : decode cX12_ropeIs 82 = .ok (.getfield 117, 3) := by decide +kernel
theorem dX12_ropeIs_85 : decode cX12_ropeIs 85 = .ok (.iconst 4, 1) := by decide +kernel
theorem dX12_ropeIs_86 : decode cX12_ropeIs 86 = .ok (.iload_n 1, 1) := by decide +kernel
theorem dX12_ropeIs_87 : decode cX12_ropeIs 87 = .ok (.imul, 1) := by decide +kernel
theorem dX12_ropeIs_88 : decode cX12_ropeIs 88 = .ok (.iload_n 2, 1) := by decide +kernel
theorem dX12_ropeIs_89 : decode cX12_ropeIs 89 = .ok (.iadd, 1) := by decide +kernel
theorem dX12_ropeIs_90 : decode cX12_ropeIs 90 = .ok (.iaload, 1) := by decide +kernel
theorem dX12_ropeIs_91 : decode cX12_ropeIs 91 = .ok (.iload_n 3, 1) := by decide +kernel
theorem dX12_ropeIs_92 : decode cX12_ropeIs 92 = .ok (.invokestatic 225, 3) := by decide +kernel
theorem dX12_ropeIs_95 : decode cX12_ropeIs 95 = .ok (.imul, 1) := by decide +kernel
theorem dX12_ropeIs_96 : decode cX12_ropeIs 96 = .ok (.invokevirtual 369, 3) := by decide +kernel
theorem dX12_ropeIs_99 : decode cX12_ropeIs 99 = .ok (.ifCond .eq 9, 3) := by decide +kernel
theorem dX12_ropeIs_102 : decode cX12_ropeIs 102 = .ok (.bipush 100, 2) := by decide +kernel
theorem dX12_ropeIs_104 : decode cX12_ropeIs 104 = .ok (.iload 6, 2) := by decide +kernel
theorem dX12_ropeIs_106 : decode cX12_ropeIs 106 = .ok (.iadd, 1) := by decide +kernel
theorem dX12_ropeIs_107 : decode cX12_ropeIs 107 = .ok (.ireturn, 1) := by decide +kernel
theorem dX12_ropeIs_108 : decode cX12_ropeIs 108 = .ok (.iinc 6 1, 3) := by decide +kernel
theorem dX12_ropeIs_111 : decode cX12_ropeIs 111 = .ok (.goto (-61), 3) := by decide +kernel
theorem dX12_ropeIs_114 : decode cX12_ropeIs 114 = .ok (.aload_n 0, 1) := by decide +kernel
theorem dX12_ropeIs_115 : decode cX12_ropeIs 115 = .ok (.getfield 114, 3) := by decide +kernel
theorem dX12_ropeIs_118 : decode cX12_ropeIs 118 = .ok (.iconst 4, 1) := by decide +kernel
theorem dX12_ropeIs_119 : decode cX12_ropeIs 119 = .ok (.iload_n 1, 1) := by decide +kernel
theorem dX12_ropeIs_120 : decode cX12_ropeIs 120 = .ok (.imul, 1) := by decide +kernel
theorem dX12_ropeIs_121 : decode cX12_ropeIs 121 = .ok (.iload_n 2, 1) := by decide +kernel
theorem dX12_ropeIs_122 : decode cX12_ropeIs 122 = .ok (.iadd, 1) := by decide +kernel
theorem dX12_ropeIs_123 : decode cX12_ropeIs 123 = .ok (.iaload, 1) := by decide +kernel
theorem dX12_ropeIs_124 : decode cX12_ropeIs 124 = .ok (.bipush 10, 2) := by decide +kernel
theorem dX12_ropeIs_126 : decode cX12_ropeIs 126 = .ok (.if_icmp .ge 7, 3) := by decide +kernel
theorem dX12_ropeIs_129 : decode cX12_ropeIs 129 = .ok (.iconst 1, 1) := by decide +kernel
theorem dX12_ropeIs_130 : decode cX12_ropeIs 130 = .ok (.goto 4, 3) := by decide +kernel
theorem dX12_ropeIs_133 : decode cX12_ropeIs 133 = .ok (.iconst 0, 1) := by decide +kernel
theorem dX12_ropeIs_134 : decode cX12_ropeIs 134 = .ok (.ireturn, 1) := by decide +kernel
theorem dX12_tight_0 : decode cX12_tight 0 = .ok (.aload_n 0, 1) := by decide +kernel
theorem dX12_tight_1 : decode cX12_tight 1 = .ok (.iload_n 1, 1) := by decide +kernel
theorem dX12_tight_2 : decode cX12_tight 2 = .ok (.invokevirtual 257, 3) := by decide +kernel
theorem dX12_tight_5 : decode cX12_tight 5 = .ok (.ifCond .eq 12, 3) := by decide +kernel
theorem dX12_tight_8 : decode cX12_tight 8 = .ok (.iload_n 2, 1) := by decide +kernel
theorem dX12_tight_9 : decode cX12_tight 9 = .ok (.iconst 0, 1) := by decide +kernel
theorem dX12_tight_10 : decode cX12_tight 10 = .ok (.iconst 3, 1) := by decide +kernel
theorem dX12_tight_11 : decode cX12_tight 11 = .ok (.invokestatic 217, 3) := by decide +kernel
theorem dX12_tight_14 : decode cX12_tight 14 = .ok (.ifCond .ne 6, 3) := by decide +kernel
theorem dX12_tight_17 : decode cX12_tight 17 = .ok (.bipush (-2), 2) := by decide +kernel
theorem dX12_tight_19 : decode cX12_tight 19 = .ok (.ireturn, 1) := by decide +kernel
theorem dX12_tight_20 : decode cX12_tight 20 = .ok (.aload_n 0, 1) := by decide +kernel
theorem dX12_tight_21 : decode cX12_tight 21 = .ok (.getfield 71, 3) := by decide +kernel
theorem dX12_tight_24 : decode cX12_tight 24 = .ok (.iload_n 1, 1) := by decide +kernel
theorem dX12_tight_25 : decode cX12_tight 25 = .ok (.baload, 1) := by decide +kernel
theorem dX12_tight_26 : decode cX12_tight 26 = .ok (.ifCond .eq 12, 3) := by decide +kernel
theorem dX12_tight_29 : decode cX12_tight 29 = .ok (.aload_n 0, 1) := by decide +kernel
theorem dX12_tight_30 : decode cX12_tight 30 = .ok (.iload_n 1, 1) := by decide +kernel
theorem dX12_tight_31 : decode cX12_tight 31 = .ok (.iload_n 2, 1) := by decide +kernel
theorem dX12_tight_32 : decode cX12_tight 32 = .ok (.invokevirtual 373, 3) := by decide +kernel
theorem dX12_tight_35 : decode cX12_tight 35 = .ok (.goto 5, 3) := by decide +kernel
theorem dX12_tight_38 : decode cX12_tight 38 = .ok (.bipush (-3), 2) := by decide +kernel
theorem dX12_tight_40 : decode cX12_tight 40 = .ok (.ireturn, 1) := by decide +kernel
theorem dX12_isOnWet_0 : decode cX12_isOnWet 0 = .ok (.aload_n 0, 1) := by decide +kernel
theorem dX12_isOnWet_1 : decode cX12_isOnWet 1 = .ok (.aload_n 0, 1) := by decide +kernel
theorem dX12_isOnWet_2 : decode cX12_isOnWet 2 = .ok (.getfield 74, 3) := by decide +kernel
theorem dX12_isOnWet_5 : decode cX12_isOnWet 5 = .ok (.iload_n 1, 1) := by decide +kernel
theorem dX12_isOnWet_6 : decode cX12_isOnWet 6 = .ok (.iaload, 1) := by decide +kernel
theorem dX12_isOnWet_7 : decode cX12_isOnWet 7 = .ok (.aload_n 0, 1) := by decide +kernel
theorem dX12_isOnWet_8 : decode cX12_isOnWet 8 = .ok (.getfield 77, 3) := by decide +kernel
theorem dX12_isOnWet_11 : decode cX12_isOnWet 11 = .ok (.iload_n 1, 1) := by decide +kernel
theorem dX12_isOnWet_12 : decode cX12_isOnWet 12 = .ok (.iaload, 1) := by decide +kernel
theorem dX12_isOnWet_13 : decode cX12_isOnWet 13 = .ok (.invokevirtual 250, 3) := by decide +kernel
theorem dX12_isOnWet_16 : decode cX12_isOnWet 16 = .ok (.istore_n 2, 1) := by decide +kernel
theorem dX12_isOnWet_17 : decode cX12_isOnWet 17 = .ok (.iload_n 2, 1) := by decide +kernel
theorem dX12_isOnWet_18 : decode cX12_isOnWet 18 = .ok (.iconst (-1), 1) := by decide +kernel
theorem dX12_isOnWet_19 : decode cX12_isOnWet 19 = .ok (.if_icmp .eq 16, 3) := by decide +kernel
theorem dX12_isOnWet_22 : decode cX12_isOnWet 22 = .ok (.aload_n 0, 1) := by decide +kernel
theorem dX12_isOnWet_23 : decode cX12_isOnWet 23 = .ok (.getfield 44, 3) := by decide +kernel
theorem dX12_isOnWet_26 : decode cX12_isOnWet 26 = .ok (.iload_n 2, 1) := by decide +kernel
theorem dX12_isOnWet_27 : decode cX12_isOnWet 27 = .ok (.baload, 1) := by decide +kernel
theorem dX12_isOnWet_28 : decode cX12_isOnWet 28 = .ok (.ifCond .eq 7, 3) := by decide +kernel
theorem dX12_isOnWet_31 : decode cX12_isOnWet 31 = .ok (.iconst 1, 1) := by decide +kernel
theorem dX12_isOnWet_32 : decode cX12_isOnWet 32 = .ok (.goto 4, 3) := by decide +kernel
theorem dX12_isOnWet_35 : decode cX12_isOnWet 35 = .ok (.iconst 0, 1) := by decide +kernel
theorem dX12_isOnWet_36 : decode cX12_isOnWet 36 = .ok (.ireturn, 1) := by decide +kernel
theorem dX12_pullOf_0 : decode cX12_pullOf 0 = .ok (.iconst 0, 1) := by decide +kernel
theorem dX12_pullOf_1 : decode cX12_pullOf 1 = .ok (.istore_n 2, 1) := by decide +kernel
theorem dX12_pullOf_2 : decode cX12_pullOf 2 = .ok (.iconst 0, 1) := by decide +kernel
theorem dX12_pullOf_3 : decode cX12_pullOf 3 = .ok (.istore_n 3, 1) := by decide +kernel
theorem dX12_pullOf_4 : decode cX12_pullOf 4 = .ok (.iload_n 3, 1) := by decide +kernel
theorem dX12_pullOf_5 : decode cX12_pullOf 5 = .ok (.iconst 4, 1) := by decide +kernel
theorem dX12_pullOf_6 : decode cX12_pullOf 6 = .ok (.if_icmp .ge 77, 3) := by decide +kernel
theorem dX12_pullOf_9 : decode cX12_pullOf 9 = .ok (.aload_n 0, 1) := by decide +kernel
theorem dX12_pullOf_10 : decode cX12_pullOf 10 = .ok (.iload_n 1, 1) := by decide +kernel
theorem dX12_pullOf_11 : decode cX12_pullOf 11 = .ok (.iload_n 3, 1) := by decide +kernel
theorem dX12_pullOf_12 : decode cX12_pullOf 12 = .ok (.invokevirtual 373, 3) := by decide +kernel
theorem dX12_pullOf_15 : decode cX12_pullOf 15 = .ok (.ifCond .ne 62, 3) := by decide +kernel
theorem dX12_pullOf_18 : decode cX12_pullOf 18 = .ok (.aload_n 0, 1) := by decide +kernel
theorem dX12_pullOf_19 : decode cX12_pullOf 19 = .ok (.getfield 114, 3) := by decide +kernel
theorem dX12_pullOf_22 : decode cX12_pullOf 22 = .ok (.iconst 4, 1) := by decide +kernel
theorem dX12_pullOf_23 : decode cX12_pullOf 23 = .ok (.iload_n 1, 1) := by decide +kernel
theorem dX12_pullOf_24 : decode cX12_pullOf 24 = .ok (.imul, 1) := by decide +kernel
theorem dX12_pullOf_25 : decode cX12_pullOf 25 = .ok (.iload_n 3, 1) := by decide +kernel
theorem dX12_pullOf_26 : decode cX12_pullOf 26 = .ok (.iadd, 1) := by decide +kernel
theorem dX12_pullOf_27 : decode cX12_pullOf 27 = .ok (.iaload, 1) := by decide +kernel
theorem dX12_pullOf_28 : decode cX12_pullOf 28 = .ok (.aload_n 0, 1) := by decide +kernel
theorem dX12_pullOf_29 : decode cX12_pullOf 29 = .ok (.getfield 123, 3) := by decide +kernel
theorem dX12_pullOf_32 : decode cX12_pullOf 32 = .ok (.imul, 1) := by decide +kernel
theorem dX12_pullOf_33 : decode cX12_pullOf 33 = .ok (.aload_n 0, 1) := by decide +kernel
theorem dX12_pullOf_34 : decode cX12_pullOf 34 = .ok (.iload_n 1, 1) := by decide +kernel
theorem dX12_pullOf_35 : decode cX12_pullOf 35 = .ok (.iload_n 3, 1) := by decide +kernel
theorem dX12_pullOf_36 : decode cX12_pullOf 36 = .ok (.invokevirtual 366, 3) := by decide +kernel
theorem dX12_pullOf_39 : decode cX12_pullOf 39 = .ok (.aload_n 0, 1) := by decide +kernel
theorem dX12_pullOf_40 : decode cX12_pullOf 40 = .ok (.getfield 80, 3) := by decide +kernel
theorem dX12_pullOf_43 : decode cX12_pullOf 43 = .ok (.iload_n 1, 1) := by decide +kernel
theorem dX12_pullOf_44 : decode cX12_pullOf 44 = .ok (.iaload, 1) := by decide +kernel
theorem dX12_pullOf_45 : decode cX12_pullOf 45 = .ok (.isub, 1) := by decide +kernel
theorem dX12_pullOf_46 : decode cX12_pullOf 46 = .ok (.invokestatic 214, 3) := by decide +kernel
theorem dX12_pullOf_49 : decode cX12_pullOf 49 = .ok (.imul, 1) := by decide +kernel
theorem dX12_pullOf_50 : decode cX12_pullOf 50 = .ok (.bipush 65, 2) := by decide +kernel
theorem dX12_pullOf_52 : decode cX12_pullOf 52 = .ok (.idiv, 1) := by decide +kernel
theorem dX12_pullOf_53 : decode cX12_pullOf 53 = .ok (.istore 4, 2) := by decide +kernel
theorem dX12_pullOf_55 : decode cX12_pullOf 55 = .ok (.iload_n 2, 1) := by decide +kernel
theorem dX12_pullOf_56 : decode cX12_pullOf 56 = .ok (.aload_n 0, 1) := by decide +kernel
theorem dX12_pullOf_57 : decode cX12_pullOf 57 = .ok (.iload_n 1, 1) := by decide +kernel
theorem dX12_pullOf_58 : decode cX12_pullOf 58 = .ok (.invokevirtual 376, 3) := by decide +kernel
theorem dX12_pullOf_61 : decode cX12_pullOf 61 = .ok (.ifCond .eq 12, 3) := by decide +kernel
theorem dX12_pullOf_64 : decode cX12_pullOf 64 = .ok (.iconst 3, 1) := by decide +kernel
theorem dX12_pullOf_65 : decode cX12_pullOf 65 = .ok (.iload 4, 2) := by decide +kernel
theorem dX12_pullOf_67 : decode cX12_pullOf 67 = .ok (.imul, 1) := by decide +kernel
theorem dX12_pullOf_68 : decode cX12_pullOf 68 = .ok (.iconst 4, 1) := by decide +kernel
theorem dX12_pullOf_69 : decode cX12_pullOf 69 = .ok (.idiv, 1) := by decide +kernel
theorem dX12_pullOf_70 : decode cX12_pullOf 70 = .ok (.goto 5, 3) := by decide +kernel
theorem dX12_pullOf_73 : decode cX12_pullOf 73 = .ok (.iload 4, 2) := by decide +kernel
theorem dX12_pullOf_75 : decode cX12_pullOf 75 = .ok (.iadd, 1) := by decide +kernel
theorem dX12_pullOf_76 : decode cX12_pullOf 76 = .ok (.istore_n 2, 1) := by decide +kernel
theorem dX12_pullOf_77 : decode cX12_pullOf 77 = .ok (.iinc 3 1, 3) := by decide +kernel
theorem dX12_pullOf_80 : decode cX12_pullOf 80 = .ok (.goto (-76), 3) := by decide +kernel
theorem dX12_pullOf_83 : decode cX12_pullOf 83 = .ok (.iload_n 2, 1) := by decide +kernel
theorem dX12_pullOf_84 : decode cX12_pullOf 84 = .ok (.ireturn, 1) := by decide +kernel
theorem dX12_standsNow_0 : decode cX12_standsNow 0 = .ok (.aload_n 0, 1) := by decide +kernel
theorem dX12_standsNow_1 : decode cX12_standsNow 1 = .ok (.iload_n 1, 1) := by decide +kernel
theorem dX12_standsNow_2 : decode cX12_standsNow 2 = .ok (.invokevirtual 257, 3) := by decide +kernel
theorem dX12_standsNow_5 : decode cX12_standsNow 5 = .ok (.ifCond .eq 16, 3) := by decide +kernel
theorem dX12_standsNow_8 : decode cX12_standsNow 8 = .ok (.aload_n 0, 1) := by decide +kernel
theorem dX12_standsNow_9 : decode cX12_standsNow 9 = .ok (.getfield 71, 3) := by decide +kernel
theorem dX12_standsNow_12 : decode cX12_standsNow 12 = .ok (.iload_n 1, 1) := by decide +kernel
theorem dX12_standsNow_13 : decode cX12_standsNow 13 = .ok (.baload, 1) := by decide +kernel
theorem dX12_standsNow_14 : decode cX12_standsNow 14 = .ok (.ifCond .eq 7, 3) := by decide +kernel
theorem dX12_standsNow_17 : decode cX12_standsNow 17 = .ok (.iconst 1, 1) := by decide +kernel
theorem dX12_standsNow_18 : decode cX12_standsNow 18 = .ok (.goto 4, 3) := by decide +kernel
theorem dX12_standsNow_21 : decode cX12_standsNow 21 = .ok (.iconst 0, 1) := by decide +kernel
theorem dX12_standsNow_22 : decode cX12_standsNow 22 = .ok (.ireturn, 1) := by decide +kernel
theorem dX12_pull_0 : decode cX12_pull 0 = .ok (.aload_n 0, 1) := by decide +kernel
theorem dX12_pull_1 : decode cX12_pull 1 = .ok (.iload_n 1, 1) := by decide +kernel
theorem dX12_pull_2 : decode cX12_pull 2 = .ok (.invokevirtual 379, 3) := by decide +kernel
theorem dX12_pull_5 : decode cX12_pull 5 = .ok (.ifCond .eq 11, 3) := by decide +kernel
theorem dX12_pull_8 : decode cX12_pull 8 = .ok (.aload_n 0, 1) := by decide +kernel
theorem dX12_pull_9 : decode cX12_pull 9 = .ok (.iload_n 1, 1) := by decide +kernel
theorem dX12_pull_10 : decode cX12_pull 10 = .ok (.invokevirtual 382, 3) := by decide +kernel
theorem dX12_pull_13 : decode cX12_pull 13 = .ok (.goto 6, 3) := by decide +kernel
theorem dX12_pull_16 : decode cX12_pull 16 = .ok (.ldc_w 329, 3) := by decide +kernel
theorem dX12_pull_19 : decode cX12_pull 19 = .ok (.ireturn, 1) := by decide +kernel
theorem dX12_needOf_0 : decode cX12_needOf 0 = .ok (.aload_n 0, 1) := by decide +kernel
theorem dX12_needOf_1 : decode cX12_needOf 1 = .ok (.aload_n 0, 1) := by decide +kernel
theorem dX12_needOf_2 : decode cX12_needOf 2 = .ok (.getfield 74, 3) := by decide +kernel
theorem dX12_needOf_5 : decode cX12_needOf 5 = .ok (.iload_n 1, 1) := by decide +kernel
theorem dX12_needOf_6 : decode cX12_needOf 6 = .ok (.iaload, 1) := by decide +kernel
theorem dX12_needOf_7 : decode cX12_needOf 7 = .ok (.aload_n 0, 1) := by decide +kernel
theorem dX12_needOf_8 : decode cX12_needOf 8 = .ok (.getfield 77, 3) := by decide +kernel
theorem dX12_needOf_11 : decode cX12_needOf 11 = .ok (.iload_n 1, 1) := by decide +kernel
theorem dX12_needOf_12 : decode cX12_needOf 12 = .ok (.iaload, 1) := by decide +kernel
theorem dX12_needOf_13 : decode cX12_needOf 13 = .ok (.invokevirtual 250, 3) := by decide +kernel
theorem dX12_needOf_16 : decode cX12_needOf 16 = .ok (.istore_n 2, 1) := by decide +kernel
theorem dX12_needOf_17 : decode cX12_needOf 17 = .ok (.iload_n 2, 1) := by decide +kernel
theorem dX12_needOf_18 : decode cX12_needOf 18 = .ok (.iconst (-1), 1) := by decide +kernel
theorem dX12_needOf_19 : decode cX12_needOf 19 = .ok (.if_icmp .ne 7, 3) := by decide +kernel
theorem dX12_needOf_22 : decode cX12_needOf 22 = .ok (.iconst 0, 1) := by decide +kernel
theorem dX12_needOf_23 : decode cX12_needOf 23 = .ok (.goto 46, 3) := by decide +kernel
theorem dX12_needOf_26 : decode cX12_needOf 26 = .ok (.aload_n 0, 1) := by decide +kernel
theorem dX12_needOf_27 : decode cX12_needOf 27 = .ok (.getfield 38, 3) := by decide +kernel
theorem dX12_needOf_30 : decode cX12_needOf 30 = .ok (.iload_n 2, 1) := by decide +kernel
theorem dX12_needOf_31 : decode cX12_needOf 31 = .ok (.iaload, 1) := by decide +kernel
theorem dX12_needOf_32 : decode cX12_needOf 32 = .ok (.i2l, 1) := by decide +kernel
theorem dX12_needOf_33 : decode cX12_needOf 33 = .ok (.aload_n 0, 1) := by decide +kernel
theorem dX12_needOf_34 : decode cX12_needOf 34 = .ok (.getfield 80, 3) := by decide +kernel
theorem dX12_needOf_37 : decode cX12_needOf 37 = .ok (.iload_n 1, 1) := by decide +kernel
theorem dX12_needOf_38 : decode cX12_needOf 38 = .ok (.iaload, 1) := by decide +kernel
theorem dX12_needOf_39 : decode cX12_needOf 39 = .ok (.invokestatic 214, 3) := by decide +kernel
theorem dX12_needOf_42 : decode cX12_needOf 42 = .ok (.i2l, 1) := by decide +kernel
theorem dX12_needOf_43 : decode cX12_needOf 43 = .ok (.lmul, 1) := by decide +kernel
theorem dX12_needOf_44 : decode cX12_needOf 44 = .ok (.aload_n 0, 1) := by decide +kernel
theorem dX12_needOf_45 : decode cX12_needOf 45 = .ok (.getfield 41, 3) := by decide +kernel
theorem dX12_needOf_48 : decode cX12_needOf 48 = .ok (.iload_n 2, 1) := by decide +kernel
theorem dX12_needOf_49 : decode cX12_needOf 49 = .ok (.iaload, 1) := by decide +kernel
theorem dX12_needOf_50 : decode cX12_needOf 50 = .ok (.i2l, 1) := by decide +kernel
theorem dX12_needOf_51 : decode cX12_needOf 51 = .ok (.aload_n 0, 1) := by decide +kernel
theorem dX12_needOf_52 : decode cX12_needOf 52 = .ok (.getfield 80, 3) := by decide +kernel
theorem dX12_needOf_55 : decode cX12_needOf 55 = .ok (.iload_n 1, 1) := by decide +kernel
theorem dX12_needOf_56 : decode cX12_needOf 56 = .ok (.iaload, 1) := by decide +kernel
theorem dX12_needOf_57 : decode cX12_needOf 57 = .ok (.invokestatic 225, 3) := by decide +kernel
theorem dX12_needOf_60 : decode cX12_needOf 60 = .ok (.i2l, 1) := by decide +kernel
theorem dX12_needOf_61 : decode cX12_needOf 61 = .ok (.lmul, 1) := by decide +kernel
theorem dX12_needOf_62 : decode cX12_needOf 62 = .ok (.ladd, 1) := by decide +kernel
theorem dX12_needOf_63 : decode cX12_needOf 63 = .ok (.ldc2_w 385, 3) := by decide +kernel
theorem dX12_needOf_66 : decode cX12_needOf 66 = .ok (.invokestatic 387, 3) := by decide +kernel
theorem dX12_needOf_69 : decode cX12_needOf 69 = .ok (.istore_n 3, 1) := by decide +kernel
theorem dX12_needOf_70 : decode cX12_needOf 70 = .ok (.aload_n 0, 1) := by decide +kernel
theorem dX12_needOf_71 : decode cX12_needOf 71 = .ok (.getfield 53, 3) := by decide +kernel
theorem dX12_needOf_74 : decode cX12_needOf 74 = .ok (.iload_n 1, 1) := by decide +kernel
theorem dX12_needOf_75 : decode cX12_needOf 75 = .ok (.iaload, 1) := by decide +kernel
theorem dX12_needOf_76 : decode cX12_needOf 76 = .ok (.i2l, 1) := by decide +kernel
theorem dX12_needOf_77 : decode cX12_needOf 77 = .ok (.lneg, 1) := by decide +kernel
theorem dX12_needOf_78 : decode cX12_needOf 78 = .ok (.aload_n 0, 1) := by decide +kernel
theorem dX12_needOf_79 : decode cX12_needOf 79 = .ok (.getfield 126, 3) := by decide +kernel
theorem dX12_needOf_82 : decode cX12_needOf 82 = .ok (.iload_n 3, 1) := by decide +kernel
theorem dX12_needOf_83 : decode cX12_needOf 83 = .ok (.iadd, 1) := by decide +kernel
theorem dX12_needOf_84 : decode cX12_needOf 84 = .ok (.i2l, 1) := by decide +kernel
theorem dX12_needOf_85 : decode cX12_needOf 85 = .ok (.lmul, 1) := by decide +kernel
theorem dX12_needOf_86 : decode cX12_needOf 86 = .ok (.ldc2_w 391, 3) := by decide +kernel
theorem dX12_needOf_89 : decode cX12_needOf 89 = .ok (.invokestatic 387, 3) := by decide +kernel
theorem dX12_needOf_92 : decode cX12_needOf 92 = .ok (.ineg, 1) := by decide +kernel
theorem dX12_needOf_93 : decode cX12_needOf 93 = .ok (.ireturn, 1) := by decide +kernel
theorem dX12_need_0 : decode cX12_need 0 = .ok (.aload_n 0, 1) := by decide +kernel
theorem dX12_need_1 : decode cX12_need 1 = .ok (.iload_n 1, 1) := by decide +kernel
theorem dX12_need_2 : decode cX12_need 2 = .ok (.invokevirtual 379, 3) := by decide +kernel
theorem dX12_need_5 : decode cX12_need 5 = .ok (.ifCond .eq 11, 3) := by decide +kernel
theorem dX12_need_8 : decode cX12_need 8 = .ok (.aload_n 0, 1) := by decide +kernel
theorem dX12_need_9 : decode cX12_need 9 = .ok (.iload_n 1, 1) := by decide +kernel
theorem dX12_need_10 : decode cX12_need 10 = .ok (.invokevirtual 393, 3) := by decide +kernel
theorem dX12_need_13 : decode cX12_need 13 = .ok (.goto 6, 3) := by decide +kernel
theorem dX12_need_16 : decode cX12_need 16 = .ok (.ldc_w 329, 3) := by decide +kernel
theorem dX12_need_19 : decode cX12_need 19 = .ok (.ireturn, 1) := by decide +kernel
theorem dX12_may_0 : decode cX12_may 0 = .ok (.aload_n 0, 1) := by decide +kernel
theorem dX12_may_1 : decode cX12_may 1 = .ok (.iload_n 1, 1) := by decide +kernel
theorem dX12_may_2 : decode cX12_may 2 = .ok (.invokevirtual 257, 3) := by decide +kernel
theorem dX12_may_5 : decode cX12_may 5 = .ok (.ifCond .ne 6, 3) := by decide +kernel
theorem dX12_may_8 : decode cX12_may 8 = .ok (.bipush (-2), 2) := by decide +kernel
theorem dX12_may_10 : decode cX12_may 10 = .ok (.ireturn, 1) := by decide +kernel
theorem dX12_may_11 : decode cX12_may 11 = .ok (.aload_n 0, 1) := by decide +kernel
theorem dX12_may_12 : decode cX12_may 12 = .ok (.getfield 71, 3) := by decide +kernel
theorem dX12_may_15 : decode cX12_may 15 = .ok (.iload_n 1, 1) := by decide +kernel
theorem dX12_may_16 : decode cX12_may 16 = .ok (.baload, 1) := by decide +kernel
theorem dX12_may_17 : decode cX12_may 17 = .ok (.ifCond .ne 6, 3) := by decide +kernel
theorem dX12_may_20 : decode cX12_may 20 = .ok (.bipush (-3), 2) := by decide +kernel
theorem dX12_may_22 : decode cX12_may 22 = .ok (.ireturn, 1) := by decide +kernel
theorem dX12_may_23 : decode cX12_may 23 = .ok (.aload_n 0, 1) := by decide +kernel
theorem dX12_may_24 : decode cX12_may 24 = .ok (.iload_n 1, 1) := by decide +kernel
theorem dX12_may_25 : decode cX12_may 25 = .ok (.invokevirtual 382, 3) := by decide +kernel
theorem dX12_may_28 : decode cX12_may 28 = .ok (.ifCond .le 20, 3) := by decide +kernel
theorem dX12_may_31 : decode cX12_may 31 = .ok (.aload_n 0, 1) := by decide +kernel
theorem dX12_may_32 : decode cX12_may 32 = .ok (.iload_n 1, 1) := by decide +kernel
theorem dX12_may_33 : decode cX12_may 33 = .ok (.invokevirtual 382, 3) := by decide +kernel
theorem dX12_may_36 : decode cX12_may 36 = .ok (.aload_n 0, 1) := by decide +kernel
theorem dX12_may_37 : decode cX12_may 37 = .ok (.iload_n 1, 1) := by decide +kernel
theorem dX12_may_38 : decode cX12_may 38 = .ok (.invokevirtual 393, 3) := by decide +kernel
theorem dX12_may_41 : decode cX12_may 41 = .ok (.if_icmp .lt 7, 3) := by decide +kernel
theorem dX12_may_44 : decode cX12_may 44 = .ok (.iconst 1, 1) := by decide +kernel
theorem dX12_may_45 : decode cX12_may 45 = .ok (.goto 4, 3) := by decide +kernel
theorem dX12_may_48 : decode cX12_may 48 = .ok (.iconst 0, 1) := by decide +kernel
theorem dX12_may_49 : decode cX12_may 49 = .ok (.ireturn, 1) := by decide +kernel
theorem dX12_woods_0 : decode cX12_woods 0 = .ok (.aload_n 0, 1) := by decide +kernel
theorem dX12_woods_1 : decode cX12_woods 1 = .ok (.iload_n 1, 1) := by decide +kernel
theorem dX12_woods_2 : decode cX12_woods 2 = .ok (.invokevirtual 257, 3) := by decide +kernel
theorem dX12_woods_5 : decode cX12_woods 5 = .ok (.ifCond .ne 6, 3) := by decide +kernel
theorem dX12_woods_8 : decode cX12_woods 8 = .ok (.bipush (-2), 2) := by decide +kernel
theorem dX12_woods_10 : decode cX12_woods 10 = .ok (.ireturn, 1) := by decide +kernel
theorem dX12_woods_11 : decode cX12_woods 11 = .ok (.aload_n 0, 1) := by decide +kernel
theorem dX12_woods_12 : decode cX12_woods 12 = .ok (.getfield 71, 3) := by decide +kernel
theorem dX12_woods_15 : decode cX12_woods 15 = .ok (.iload_n 1, 1) := by decide +kernel
theorem dX12_woods_16 : decode cX12_woods 16 = .ok (.baload, 1) := by decide +kernel
theorem dX12_woods_17 : decode cX12_woods 17 = .ok (.ifCond .ne 6, 3) := by decide +kernel
theorem dX12_woods_20 : decode cX12_woods 20 = .ok (.bipush (-3), 2) := by decide +kernel
theorem dX12_woods_22 : decode cX12_woods 22 = .ok (.ireturn, 1) := by decide +kernel
theorem dX12_woods_23 : decode cX12_woods 23 = .ok (.aload_n 0, 1) := by decide +kernel
theorem dX12_woods_24 : decode cX12_woods 24 = .ok (.iload_n 1, 1) := by decide +kernel
theorem dX12_woods_25 : decode cX12_woods 25 = .ok (.invokevirtual 382, 3) := by decide +kernel
theorem dX12_woods_28 : decode cX12_woods 28 = .ok (.ifCond .ge 12, 3) := by decide +kernel
theorem dX12_woods_31 : decode cX12_woods 31 = .ok (.aload_n 0, 1) := by decide +kernel
theorem dX12_woods_32 : decode cX12_woods 32 = .ok (.iload_n 1, 1) := by decide +kernel
theorem dX12_woods_33 : decode cX12_woods 33 = .ok (.invokevirtual 382, 3) := by decide +kernel
theorem dX12_woods_36 : decode cX12_woods 36 = .ok (.ineg, 1) := by decide +kernel
theorem dX12_woods_37 : decode cX12_woods 37 = .ok (.goto 4, 3) := by decide +kernel
theorem dX12_woods_40 : decode cX12_woods 40 = .ok (.iconst 0, 1) := by decide +kernel
theorem dX12_woods_41 : decode cX12_woods 41 = .ok (.istore_n 2, 1) := by decide +kernel
theorem dX12_woods_42 : decode cX12_woods 42 = .ok (.iconst 0, 1) := by decide +kernel
theorem dX12_woods_43 : decode cX12_woods 43 = .ok (.istore_n 3, 1) := by decide +kernel
theorem dX12_woods_44 : decode cX12_woods 44 = .ok (.iload_n 3, 1) := by decide +kernel
theorem dX12_woods_45 : decode cX12_woods 45 = .ok (.bipush 21, 2) := by decide +kernel
theorem dX12_woods_47 : decode cX12_woods 47 = .ok (.if_icmp .ge 51, 3) := by decide +kernel
theorem dX12_woods_50 : decode cX12_woods 50 = .ok (.aload_n 0, 1) := by decide +kernel
theorem dX12_woods_51 : decode cX12_woods 51 = .ok (.iload_n 1, 1) := by decide +kernel
theorem dX12_woods_52 : decode cX12_woods 52 = .ok (.invokevirtual 376, 3) := by decide +kernel
theorem dX12_woods_55 : decode cX12_woods 55 = .ok (.ifCond .eq 14, 3) := by decide +kernel
theorem dX12_woods_58 : decode cX12_woods 58 = .ok (.iload_n 3, 1) := by decide +kernel
theorem dX12_woods_59 : decode cX12_woods 59 = .ok (.aload_n 0, 1) := by decide +kernel
theorem dX12_woods_60 : decode cX12_woods 60 = .ok (.getfield 129, 3) := by decide +kernel
theorem dX12_woods_63 : decode cX12_woods 63 = .ok (.imul, 1) := by decide +kernel
theorem dX12_woods_64 : decode cX12_woods 64 = .ok (.iconst 2, 1) := by decide +kernel
theorem dX12_woods_65 : decode cX12_woods 65 = .ok (.idiv, 1) := by decide +kernel
theorem dX12_woods_66 : decode cX12_woods 66 = .ok (.goto 9, 3) := by decide +kernel
theorem dX12_woods_69 : decode cX12_woods 69 = .ok (.iload_n 3, 1) := by decide +kernel
theorem dX12_woods_70 : decode cX12_woods 70 = .ok (.aload_n 0, 1) := by decide +kernel
theorem dX12_woods_71 : decode cX12_woods 71 = .ok (.getfield 129, 3) := by decide +kernel
theorem dX12_woods_74 : decode cX12_woods 74 = .ok (.imul, 1) := by decide +kernel
theorem dX12_woods_75 : decode cX12_woods 75 = .ok (.istore 4, 2) := by decide +kernel
theorem dX12_woods_77 : decode cX12_woods 77 = .ok (.iload 4, 2) := by decide +kernel
theorem dX12_woods_79 : decode cX12_woods 79 = .ok (.iload_n 2, 1) := by decide +kernel
theorem dX12_woods_80 : decode cX12_woods 80 = .ok (.iadd, 1) := by decide +kernel
theorem dX12_woods_81 : decode cX12_woods 81 = .ok (.aload_n 0, 1) := by decide +kernel
theorem dX12_woods_82 : decode cX12_woods 82 = .ok (.iload_n 1, 1) := by decide +kernel
theorem dX12_woods_83 : decode cX12_woods 83 = .ok (.invokevirtual 393, 3) := by decide +kernel
theorem dX12_woods_86 : decode cX12_woods 86 = .ok (.ineg, 1) := by decide +kernel
theorem dX12_woods_87 : decode cX12_woods 87 = .ok (.if_icmp .lt 5, 3) := by decide +kernel
theorem dX12_woods_90 : decode cX12_woods 90 = .ok (.iload_n 3, 1) := by decide +kernel
theorem dX12_woods_91 : decode cX12_woods 91 = .ok (.ireturn, 1) := by decide +kernel
theorem dX12_woods_92 : decode cX12_woods 92 = .ok (.iinc 3 1, 3) := by decide +kernel
theorem dX12_woods_95 : decode cX12_woods 95 = .ok (.goto (-51), 3) := by decide +kernel
theorem dX12_woods_98 : decode cX12_woods 98 = .ok (.iconst (-1), 1) := by decide +kernel
theorem dX12_woods_99 : decode cX12_woods 99 = .ok (.ireturn, 1) := by decide +kernel
theorem dX12_team_0 : decode cX12_team 0 = .ok (.iload_n 1, 1) := by decide +kernel
theorem dX12_team_1 : decode cX12_team 1 = .ok (.iconst 1, 1) := by decide +kernel
theorem dX12_team_2 : decode cX12_team 2 = .ok (.sipush 300, 3) := by decide +kernel
theorem dX12_team_5 : decode cX12_team 5 = .ok (.invokestatic 217, 3) := by decide +kernel
theorem dX12_team_8 : decode cX12_team 8 = .ok (.ifCond .ne 6, 3) := by decide +kernel
theorem dX12_team_11 : decode cX12_team 11 = .ok (.bipush (-2), 2) := by decide +kernel
theorem dX12_team_13 : decode cX12_team 13 = .ok (.ireturn, 1) := by decide +kernel
theorem dX12_team_14 : decode cX12_team 14 = .ok (.aload_n 0, 1) := by decide +kernel
theorem dX12_team_15 : decode cX12_team 15 = .ok (.getfield 396, 3) := by decide +kernel
theorem dX12_team_18 : decode cX12_team 18 = .ok (.iconst 4, 1) := by decide +kernel
theorem dX12_team_19 : decode cX12_team 19 = .ok (.if_icmp .ne 6, 3) := by decide +kernel
theorem dX12_team_22 : decode cX12_team 22 = .ok (.bipush (-4), 2) := by decide +kernel
theorem dX12_team_24 : decode cX12_team 24 = .ok (.ireturn, 1) := by decide +kernel
theorem dX12_team_25 : decode cX12_team 25 = .ok (.aload_n 0, 1) := by decide +kernel
theorem dX12_team_26 : decode cX12_team 26 = .ok (.getfield 132, 3) := by decide +kernel
theorem dX12_team_29 : decode cX12_team 29 = .ok (.aload_n 0, 1) := by decide +kernel
theorem dX12_team_30 : decode cX12_team 30 = .ok (.getfield 396, 3) := by decide +kernel
theorem dX12_team_33 : decode cX12_team 33 = .ok (.iload_n 1, 1) := by decide +kernel
theorem dX12_team_34 : decode cX12_team 34 = .ok (.iastore, 1) := by decide +kernel
theorem dX12_team_35 : decode cX12_team 35 = .ok (.aload_n 0, 1) := by decide +kernel
theorem dX12_team_36 : decode cX12_team 36 = .ok (.dup, 1) := by decide +kernel
theorem dX12_team_37 : decode cX12_team 37 = .ok (.getfield 396, 3) := by decide +kernel
theorem dX12_team_40 : decode cX12_team 40 = .ok (.iconst 1, 1) := by decide +kernel
theorem dX12_team_41 : decode cX12_team 41 = .ok (.iadd, 1) := by decide +kernel
theorem dX12_team_42 : decode cX12_team 42 = .ok (.putfield 396, 3) := by decide +kernel
theorem dX12_team_45 : decode cX12_team 45 = .ok (.aload_n 0, 1) := by decide +kernel
theorem dX12_team_46 : decode cX12_team 46 = .ok (.getfield 396, 3) := by decide +kernel
theorem dX12_team_49 : decode cX12_team 49 = .ok (.iconst 1, 1) := by decide +kernel
theorem dX12_team_50 : decode cX12_team 50 = .ok (.isub, 1) := by decide +kernel
theorem dX12_team_51 : decode cX12_team 51 = .ok (.ireturn, 1) := by decide +kernel
theorem dX12_stage_0 : decode cX12_stage 0 = .ok (.iload_n 1, 1) := by decide +kernel
theorem dX12_stage_1 : decode cX12_stage 1 = .ok (.iconst 0, 1) := by decide +kernel
theorem dX12_stage_2 : decode cX12_stage 2 = .ok (.sipush 2000, 3) := by decide +kernel
theorem dX12_stage_5 : decode cX12_stage 5 = .ok (.invokestatic 217, 3) := by decide +kernel
theorem dX12_stage_8 : decode cX12_stage 8 = .ok (.ifCond .ne 6, 3) := by decide +kernel
theorem dX12_stage_11 : decode cX12_stage 11 = .ok (.bipush (-2), 2) := by decide +kernel
theorem dX12_stage_13 : decode cX12_stage 13 = .ok (.ireturn, 1) := by decide +kernel
theorem dX12_stage_14 : decode cX12_stage 14 = .ok (.aload_n 0, 1) := by decide +kernel
theorem dX12_stage_15 : decode cX12_stage 15 = .ok (.getfield 399, 3) := by decide +kernel
theorem dX12_stage_18 : decode cX12_stage 18 = .ok (.bipush 6, 2) := by decide +kernel
theorem dX12_stage_20 : decode cX12_stage 20 = .ok (.if_icmp .ne 6, 3) := by decide +kernel
theorem dX12_stage_23 : decode cX12_stage 23 = .ok (.bipush (-4), 2) := by decide +kernel
theorem dX12_stage_25 : decode cX12_stage 25 = .ok (.ireturn, 1) := by decide +kernel
theorem dX12_stage_26 : decode cX12_stage 26 = .ok (.aload_n 0, 1) := by decide +kernel
theorem dX12_stage_27 : decode cX12_stage 27 = .ok (.getfield 135, 3) := by decide +kernel
theorem dX12_stage_30 : decode cX12_stage 30 = .ok (.aload_n 0, 1) := by decide +kernel
theorem dX12_stage_31 : decode cX12_stage 31 = .ok (.getfield 399, 3) := by decide +kernel
theorem dX12_stage_34 : decode cX12_stage 34 = .ok (.iload_n 1, 1) := by decide +kernel
theorem dX12_stage_35 : decode cX12_stage 35 = .ok (.iastore, 1) := by decide +kernel
theorem dX12_stage_36 : decode cX12_stage 36 = .ok (.aload_n 0, 1) := by decide +kernel
theorem dX12_stage_37 : decode cX12_stage 37 = .ok (.dup, 1) := by decide +kernel
theorem dX12_stage_38 : decode cX12_stage 38 = .ok (.getfield 399, 3) := by decide +kernel
theorem dX12_stage_41 : decode cX12_stage 41 = .ok (.iconst 1, 1) := by decide +kernel
theorem dX12_stage_42 : decode cX12_stage 42 = .ok (.iadd, 1) := by decide +kernel
theorem dX12_stage_43 : decode cX12_stage 43 = .ok (.putfield 399, 3) := by decide +kernel
theorem dX12_stage_46 : decode cX12_stage 46 = .ok (.aload_n 0, 1) := by decide +kernel
theorem dX12_stage_47 : decode cX12_stage 47 = .ok (.getfield 399, 3) := by decide +kernel
theorem dX12_stage_50 : decode cX12_stage 50 = .ok (.iconst 1, 1) := by decide +kernel
theorem dX12_stage_51 : decode cX12_stage 51 = .ok (.isub, 1) := by decide +kernel
theorem dX12_stage_52 : decode cX12_stage 52 = .ok (.ireturn, 1) := by decide +kernel
theorem dX12_run_0 : decode cX12_run 0 = .ok (.iload_n 1, 1) := by decide +kernel
theorem dX12_run_1 : decode cX12_run 1 = .ok (.iconst 1, 1) := by decide +kernel
theorem dX12_run_2 : decode cX12_run 2 = .ok (.iconst 3, 1) := by decide +kernel
theorem dX12_run_3 : decode cX12_run 3 = .ok (.invokestatic 217, 3) := by decide +kernel
theorem dX12_run_6 : decode cX12_run 6 = .ok (.ifCond .ne 6, 3) := by decide +kernel
theorem dX12_run_9 : decode cX12_run 9 = .ok (.bipush (-2), 2) := by decide +kernel
theorem dX12_run_11 : decode cX12_run 11 = .ok (.ireturn, 1) := by decide +kernel
theorem dX12_run_12 : decode cX12_run 12 = .ok (.aload_n 0, 1) := by decide +kernel
theorem dX12_run_13 : decode cX12_run 13 = .ok (.getfield 138, 3) := by decide +kernel
theorem dX12_run_16 : decode cX12_run 16 = .ok (.istore_n 2, 1) := by decide +kernel
theorem dX12_run_17 : decode cX12_run 17 = .ok (.aload_n 0, 1) := by decide +kernel
theorem dX12_run_18 : decode cX12_run 18 = .ok (.iload_n 1, 1) := by decide +kernel
theorem dX12_run_19 : decode cX12_run 19 = .ok (.putfield 138, 3) := by decide +kernel
theorem dX12_run_22 : decode cX12_run 22 = .ok (.iload_n 2, 1) := by decide +kernel
theorem dX12_run_23 : decode cX12_run 23 = .ok (.ireturn, 1) := by decide +kernel
theorem dX12_runOf_0 : decode cX12_runOf 0 = .ok (.iload_n 0, 1) := by decide +kernel
theorem dX12_runOf_1 : decode cX12_runOf 1 = .ok (.iconst 2, 1) := by decide +kernel
theorem dX12_runOf_2 : decode cX12_runOf 2 = .ok (.iload_n 1, 1) := by decide +kernel
theorem dX12_runOf_3 : decode cX12_runOf 3 = .ok (.imul, 1) := by decide +kernel
theorem dX12_runOf_4 : decode cX12_runOf 4 = .ok (.ishr, 1) := by decide +kernel
theorem dX12_runOf_5 : decode cX12_runOf 5 = .ok (.iconst 3, 1) := by decide +kernel
theorem dX12_runOf_6 : decode cX12_runOf 6 = .ok (.iand, 1) := by decide +kernel
theorem dX12_runOf_7 : decode cX12_runOf 7 = .ok (.ireturn, 1) := by decide +kernel
theorem dX12_ones_0 : decode cX12_ones 0 = .ok (.iconst 0, 1) := by decide +kernel
theorem dX12_ones_1 : decode cX12_ones 1 = .ok (.istore_n 1, 1) := by decide +kernel
theorem dX12_ones_2 : decode cX12_ones 2 = .ok (.iconst 0, 1) := by decide +kernel
theorem dX12_ones_3 : decode cX12_ones 3 = .ok (.istore_n 2, 1) := by decide +kernel
theorem dX12_ones_4 : decode cX12_ones 4 = .ok (.iload_n 2, 1) := by decide +kernel
theorem dX12_ones_5 : decode cX12_ones 5 = .ok (.iconst 4, 1) := by decide +kernel
theorem dX12_ones_6 : decode cX12_ones 6 = .ok (.if_icmp .ge 17, 3) := by decide +kernel
theorem dX12_ones_9 : decode cX12_ones 9 = .ok (.iload_n 1, 1) := by decide +kernel
theorem dX12_ones_10 : decode cX12_ones 10 = .ok (.iload_n 0, 1) := by decide +kernel
theorem dX12_ones_11 : decode cX12_ones 11 = .ok (.iload_n 2, 1) := by decide +kernel
theorem dX12_ones_12 : decode cX12_ones 12 = .ok (.ishr, 1) := by decide +kernel
theorem dX12_ones_13 : decode cX12_ones 13 = .ok (.iconst 1, 1) := by decide +kernel
theorem dX12_ones_14 : decode cX12_ones 14 = .ok (.iand, 1) := by decide +kernel
theorem dX12_ones_15 : decode cX12_ones 15 = .ok (.iadd, 1) := by decide +kernel
theorem dX12_ones_16 : decode cX12_ones 16 = .ok (.istore_n 1, 1) := by decide +kernel
theorem dX12_ones_17 : decode cX12_ones 17 = .ok (.iinc 2 1, 3) := by decide +kernel
theorem dX12_ones_20 : decode cX12_ones 20 = .ok (.goto (-16), 3) := by decide +kernel
theorem dX12_ones_23 : decode cX12_ones 23 = .ok (.iload_n 1, 1) := by decide +kernel
theorem dX12_ones_24 : decode cX12_ones 24 = .ok (.ireturn, 1) := by decide +kernel
theorem dX12_after_0 : decode cX12_after 0 = .ok (.iconst 0, 1) := by decide +kernel
theorem dX12_after_1 : decode cX12_after 1 = .ok (.istore 4, 2) := by decide +kernel
theorem dX12_after_3 : decode cX12_after 3 = .ok (.iconst 0, 1) := by decide +kernel
theorem dX12_after_4 : decode cX12_after 4 = .ok (.istore 5, 2) := by decide +kernel
theorem dX12_after_6 : decode cX12_after 6 = .ok (.iconst 0, 1) := by decide +kernel
theorem dX12_after_7 : decode cX12_after 7 = .ok (.istore 6, 2) := by decide +kernel
theorem dX12_after_9 : decode cX12_after 9 = .ok (.iload 6, 2) := by decide +kernel
theorem dX12_after_11 : decode cX12_after 11 = .ok (.aload_n 0, 1) := by decide +kernel
theorem dX12_after_12 : decode cX12_after 12 = .ok (.getfield 396, 3) := by decide +kernel
theorem dX12_after_15 : decode cX12_after 15 = .ok (.if_icmp .ge 64, 3) := by decide +kernel
theorem dX12_after_18 : decode cX12_after 18 = .ok (.iload_n 3, 1) := by decide +kernel
theorem dX12_after_19 : decode cX12_after 19 = .ok (.iload 6, 2) := by decide +kernel
theorem dX12_after_21 : decode cX12_after 21 = .ok (.ishr, 1) := by decide +kernel
theorem dX12_after_22 : decode cX12_after 22 = .ok (.iconst 1, 1) := by decide +kernel
theorem dX12_after_23 : decode cX12_after 23 = .ok (.iand, 1) := by decide +kernel
theorem dX12_after_24 : decode cX12_after 24 = .ok (.iconst 1, 1) := by decide +kernel
theorem dX12_after_25 : decode cX12_after 25 = .ok (.if_icmp .ne 48, 3) := by decide +kernel
theorem dX12_after_28 : decode cX12_after 28 = .ok (.iload 4, 2) := by decide +kernel
theorem dX12_after_30 : decode cX12_after 30 = .ok (.aload_n 0, 1) := by decide +kernel
theorem dX12_after_31 : decode cX12_after 31 = .ok (.getfield 132, 3) := by decide +kernel
theorem dX12_after_34 : decode cX12_after 34 = .ok (.iload 6, 2) := by decide +kernel
theorem dX12_after_36 : decode cX12_after 36 = .ok (.iaload, 1) := by decide +kernel
theorem dX12_after_37 : decode cX12_after 37 = .ok (.iadd, 1) := by decide +kernel
theorem dX12_after_38 : decode cX12_after 38 = .ok (.istore 4, 2) := by decide +kernel
theorem dX12_after_40 : decode cX12_after 40 = .ok (.iload_n 2, 1) := by decide +kernel
theorem dX12_after_41 : decode cX12_after 41 = .ok (.iload 6, 2) := by decide +kernel
theorem dX12_after_43 : decode cX12_after 43 = .ok (.invokestatic 402, 3) := by decide +kernel
theorem dX12_after_46 : decode cX12_after 46 = .ok (.aload_n 0, 1) := by decide +kernel
theorem dX12_after_47 : decode cX12_after 47 = .ok (.getfield 138, 3) := by decide +kernel
theorem dX12_after_50 : decode cX12_after 50 = .ok (.if_icmp .lt 5, 3) := by decide +kernel
theorem dX12_after_53 : decode cX12_after 53 = .ok (.iconst (-1), 1) := by decide +kernel
theorem dX12_after_54 : decode cX12_after 54 = .ok (.ireturn, 1) := by decide +kernel
theorem dX12_after_55 : decode cX12_after 55 = .ok (.iload 5, 2) := by decide +kernel
theorem dX12_after_57 : decode cX12_after 57 = .ok (.iload_n 2, 1) := by decide +kernel
theorem dX12_after_58 : decode cX12_after 58 = .ok (.iload 6, 2) := by decide +kernel
theorem dX12_after_60 : decode cX12_after 60 = .ok (.invokestatic 402, 3) := by decide +kernel
theorem dX12_after_63 : decode cX12_after 63 = .ok (.iconst 1, 1) := by decide +kernel
theorem dX12_after_64 : decode cX12_after 64 = .ok (.iadd, 1) := by decide +kernel
theorem dX12_after_65 : decode cX12_after 65 = .ok (.iconst 2, 1) := by decide +kernel
theorem dX12_after_66 : decode cX12_after 66 = .ok (.iload 6, 2) := by decide +kernel
theorem dX12_after_68 : decode cX12_after 68 = .ok (.imul, 1) := by decide +kernel
theorem dX12_after_69 : decode cX12_after 69 = .ok (.ishl, 1) := by decide +kernel
theorem dX12_after_70 : decode cX12_after 70 = .ok (.ior, 1) := by decide +kernel
theorem dX12_after_71 : decode cX12_after 71 = .ok (.istore 5, 2) := by decide +kernel
theorem dX12_after_73 : decode cX12_after 73 = .ok (.iinc 6 1, 3) := by decide +kernel
theorem dX12_after_76 : decode cX12_after 76 = .ok (.goto (-67), 3) := by decide +kernel
theorem dX12_after_79 : decode cX12_after 79 = .ok (.iload 4, 2) := by decide +kernel
theorem dX12_after_81 : decode cX12_after 81 = .ok (.aload_n 0, 1) := by decide +kernel
theorem dX12_after_82 : decode cX12_after 82 = .ok (.getfield 135, 3) := by decide +kernel
theorem dX12_after_85 : decode cX12_after 85 = .ok (.iload_n 1, 1) := by decide +kernel
theorem dX12_after_86 : decode cX12_after 86 = .ok (.iaload, 1) := by decide +kernel
theorem dX12_after_87 : decode cX12_after 87 = .ok (.if_icmp .lt 8, 3) := by decide +kernel
theorem dX12_after_90 : decode cX12_after 90 = .ok (.iload 5, 2) := by decide +kernel
theorem dX12_after_92 : decode cX12_after 92 = .ok (.goto 4, 3) := by decide +kernel
theorem dX12_after_95 : decode cX12_after 95 = .ok (.iconst (-1), 1) := by decide +kernel
theorem dX12_after_96 : decode cX12_after 96 = .ok (.ireturn, 1) := by decide +kernel
theorem dX12_countsFrom_0 : decode cX12_countsFrom 0 = .ok (.aload_n 0, 1) := by decide +kernel
theorem dX12_countsFrom_1 : decode cX12_countsFrom 1 = .ok (.iload_n 1, 1) := by decide +kernel
theorem dX12_countsFrom_2 : decode cX12_countsFrom 2 = .ok (.iload_n 2, 1) := by decide +kernel
theorem dX12_countsFrom_3 : decode cX12_countsFrom 3 = .ok (.iload_n 3, 1) := by decide +kernel
theorem dX12_countsFrom_4 : decode cX12_countsFrom 4 = .ok (.invokevirtual 405, 3) := by decide +kernel
theorem dX12_countsFrom_7 : decode cX12_countsFrom 7 = .ok (.istore 4, 2) := by decide +kernel
theorem dX12_countsFrom_9 : decode cX12_countsFrom 9 = .ok (.iload 4, 2) := by decide +kernel
theorem dX12_countsFrom_11 : decode cX12_countsFrom 11 = .ok (.iconst (-1), 1) := by decide +kernel
theorem dX12_countsFrom_12 : decode cX12_countsFrom 12 = .ok (.if_icmp .eq 22, 3) := by decide +kernel
theorem dX12_countsFrom_15 : decode cX12_countsFrom 15 = .ok (.aload_n 0, 1) := by decide +kernel
theorem dX12_countsFrom_16 : decode cX12_countsFrom 16 = .ok (.getfield 141, 3) := by decide +kernel
theorem dX12_countsFrom_19 : decode cX12_countsFrom 19 = .ok (.sipush 256, 3) := by decide +kernel
theorem dX12_countsFrom_22 : decode cX12_countsFrom 22 = .ok (.iload_n 1, 1) := by decide +kernel
theorem dX12_countsFrom_23 : decode cX12_countsFrom 23 = .ok (.iconst 1, 1) := by decide +kernel
theorem dX12_countsFrom_24 : decode cX12_countsFrom 24 = .ok (.iadd, 1) := by decide +kernel
theorem dX12_countsFrom_25 : decode cX12_countsFrom 25 = .ok (.imul, 1) := by decide +kernel
theorem dX12_countsFrom_26 : decode cX12_countsFrom 26 = .ok (.iload 4, 2) := by decide +kernel
theorem dX12_countsFrom_28 : decode cX12_countsFrom 28 = .ok (.iadd, 1) := by decide +kernel
theorem dX12_countsFrom_29 : decode cX12_countsFrom 29 = .ok (.iaload, 1) := by decide +kernel
theorem dX12_countsFrom_30 : decode cX12_countsFrom 30 = .ok (.iconst (-1), 1) := by decide +kernel
theorem dX12_countsFrom_31 : decode cX12_countsFrom 31 = .ok (.if_icmp .ne 5, 3) := by decide +kernel
theorem dX12_countsFrom_34 : decode cX12_countsFrom 34 = .ok (.iconst (-1), 1) := by decide +kernel
theorem dX12_countsFrom_35 : decode cX12_countsFrom 35 = .ok (.ireturn, 1) := by decide +kernel
theorem dX12_countsFrom_36 : decode cX12_countsFrom 36 = .ok (.iload_n 3, 1) := by decide +kernel
theorem dX12_countsFrom_37 : decode cX12_countsFrom 37 = .ok (.invokestatic 408, 3) := by decide +kernel
theorem dX12_countsFrom_40 : decode cX12_countsFrom 40 = .ok (.aload_n 0, 1) := by decide +kernel
theorem dX12_countsFrom_41 : decode cX12_countsFrom 41 = .ok (.getfield 141, 3) := by decide +kernel
theorem dX12_countsFrom_44 : decode cX12_countsFrom 44 = .ok (.sipush 256, 3) := by decide +kernel
theorem dX12_countsFrom_47 : decode cX12_countsFrom 47 = .ok (.iload_n 1, 1) := by decide +kernel
theorem dX12_countsFrom_48 : decode cX12_countsFrom 48 = .ok (.iconst 1, 1) := by decide +kernel
theorem dX12_countsFrom_49 : decode cX12_countsFrom 49 = .ok (.iadd, 1) := by decide +kernel
theorem dX12_countsFrom_50 : decode cX12_countsFrom 50 = .ok (.imul, 1) := by decide +kernel
theorem dX12_countsFrom_51 : decode cX12_countsFrom 51 = .ok (.iload 4, 2) := by decide +kernel
theorem dX12_countsFrom_53 : decode cX12_countsFrom 53 = .ok (.iadd, 1) := by decide +kernel
theorem dX12_countsFrom_54 : decode cX12_countsFrom 54 = .ok (.iaload, 1) := by decide +kernel
theorem dX12_countsFrom_55 : decode cX12_countsFrom 55 = .ok (.iadd, 1) := by decide +kernel
theorem dX12_countsFrom_56 : decode cX12_countsFrom 56 = .ok (.ireturn, 1) := by decide +kernel
theorem dX12_rosters_0 : decode cX12_rosters 0 = .ok (.iconst 0, 1) := by decide +kernel
theorem dX12_rosters_1 : decode cX12_rosters 1 = .ok (.istore_n 1, 1) := by decide +kernel
theorem dX12_rosters_2 : decode cX12_rosters 2 = .ok (.iload_n 1, 1) := by decide +kernel
theorem dX12_rosters_3 : decode cX12_rosters 3 = .ok (.sipush 256, 3) := by decide +kernel
theorem dX12_rosters_6 : decode cX12_rosters 6 = .ok (.if_icmp .ge 25, 3) := by decide +kernel
theorem dX12_rosters_9 : decode cX12_rosters 9 = .ok (.aload_n 0, 1) := by decide +kernel
theorem dX12_rosters_10 : decode cX12_rosters 10 = .ok (.getfield 141, 3) := by decide +kernel
theorem dX12_rosters_13 : decode cX12_rosters 13 = .ok (.sipush 256, 3) := by decide +kernel
theorem dX12_rosters_16 : decode cX12_rosters 16 = .ok (.aload_n 0, 1) := by decide +kernel
theorem dX12_rosters_17 : decode cX12_rosters 17 = .ok (.getfield 399, 3) := by decide +kernel
theorem dX12_rosters_20 : decode cX12_rosters 20 = .ok (.imul, 1) := by decide +kernel
theorem dX12_rosters_21 : decode cX12_rosters 21 = .ok (.iload_n 1, 1) := by decide +kernel
theorem dX12_rosters_22 : decode cX12_rosters 22 = .ok (.iadd, 1) := by decide +kernel
theorem dX12_rosters_23 : decode cX12_rosters 23 = .ok (.iconst 0, 1) := by decide +kernel
theorem dX12_rosters_24 : decode cX12_rosters 24 = .ok (.iastore, 1) := by decide +kernel
theorem dX12_rosters_25 : decode cX12_rosters 25 = .ok (.iinc 1 1, 3) := by decide +kernel
theorem dX12_rosters_28 : decode cX12_rosters 28 = .ok (.goto (-26), 3) := by decide +kernel
theorem dX12_rosters_31 : decode cX12_rosters 31 = .ok (.aload_n 0, 1) := by decide +kernel
theorem dX12_rosters_32 : decode cX12_rosters 32 = .ok (.getfield 399, 3) := by decide +kernel
theorem dX12_rosters_35 : decode cX12_rosters 35 = .ok (.iconst 1, 1) := by decide +kernel
theorem dX12_rosters_36 : decode cX12_rosters 36 = .ok (.isub, 1) := by decide +kernel
theorem dX12_rosters_37 : decode cX12_rosters 37 = .ok (.istore_n 1, 1) := by decide +kernel
theorem dX12_rosters_38 : decode cX12_rosters 38 = .ok (.iload_n 1, 1) := by decide +kernel
theorem dX12_rosters_39 : decode cX12_rosters 39 = .ok (.ifCond .lt 93, 3) := by decide +kernel
theorem dX12_rosters_42 : decode cX12_rosters 42 = .ok (.iconst 0, 1) := by decide +kernel
theorem dX12_rosters_43 : decode cX12_rosters 43 = .ok (.istore_n 2, 1) := by decide +kernel
theorem dX12_rosters_44 : decode cX12_rosters 44 = .ok (.iload_n 2, 1) := by decide +kernel
theorem dX12_rosters_45 : decode cX12_rosters 45 = .ok (.sipush 256, 3) := by decide +kernel
theorem dX12_rosters_48 : decode cX12_rosters 48 = .ok (.if_icmp .ge 78, 3) := by decide +kernel
theorem dX12_rosters_51 : decode cX12_rosters 51 = .ok (.iconst (-1), 1) := by decide +kernel
theorem dX12_rosters_52 : decode cX12_rosters 52 = .ok (.istore_n 3, 1) := by decide +kernel
theorem dX12_rosters_53 : decode cX12_rosters 53 = .ok (.iconst 0, 1) := by decide +kernel
theorem dX12_rosters_54 : decode cX12_rosters 54 = .ok (.istore 4, 2) := by decide +kernel
theorem dX12_rosters_56 : decode cX12_rosters 56 = .ok (.iload 4, 2) := by decide +kernel
theorem dX12_rosters_58 : decode cX12_rosters 58 = .ok (.iconst 1, 1) := by decide +kernel
theorem dX12_rosters_59 : decode cX12_rosters 59 = .ok (.aload_n 0, 1) := by decide +kernel
theorem dX12_rosters_60 : decode cX12_rosters 60 = .ok (.getfield 396, 3) := by decide +kernel
theorem dX12_rosters_63 : decode cX12_rosters 63 = .ok (.ishl, 1) := by decide +kernel
theorem dX12_rosters_64 : decode cX12_rosters 64 = .ok (.if_icmp .ge 43, 3) := by decide +kernel
theorem dX12_rosters_67 : decode cX12_rosters 67 = .ok (.aload_n 0, 1) := by decide +kernel
theorem dX12_rosters_68 : decode cX12_rosters 68 = .ok (.iload_n 1, 1) := by decide +kernel
theorem dX12_rosters_69 : decode cX12_rosters 69 = .ok (.iload_n 2, 1) := by decide +kernel
theorem dX12_rosters_70 : decode cX12_rosters 70 = .ok (.iload 4, 2) := by decide +kernel
theorem dX12_rosters_72 : decode cX12_rosters 72 = .ok (.invokevirtual 411, 3) := by decide +kernel
theorem dX12_rosters_75 : decode cX12_rosters 75 = .ok (.istore 5, 2) := by decide +kernel
theorem dX12_rosters_77 : decode cX12_rosters 77 = .ok (.iload 5, 2) := by decide +kernel
theorem dX12_rosters_79 : decode cX12_rosters 79 = .ok (.iconst (-1), 1) := by decide +kernel
theorem dX12_rosters_80 : decode cX12_rosters 80 = .ok (.if_icmp .eq 19, 3) := by decide +kernel
theorem dX12_rosters_83 : decode cX12_rosters 83 = .ok (.iload_n 3, 1) := by decide +kernel
theorem dX12_rosters_84 : decode cX12_rosters 84 = .ok (.iconst (-1), 1) := by decide +kernel
theorem dX12_rosters_85 : decode cX12_rosters 85 = .ok (.if_icmp .eq 9, 3) := by decide +kernel
theorem dX12_rosters_88 : decode cX12_rosters 88 = .ok (.iload 5, 2) := by decide +kernel
theorem dX12_rosters_90 : decode cX12_rosters 90 = .ok (.iload_n 3, 1) := by decide +kernel
theorem dX12_rosters_91 : decode cX12_rosters 91 = .ok (.if_icmp .ge 8, 3) := by decide +kernel
theorem dX12_rosters_94 : decode cX12_rosters 94 = .ok (.iload 5, 2) := by decide +kernel
theorem dX12_rosters_96 : decode cX12_rosters 96 = .ok (.goto 4, 3) := by decide +kernel
theorem dX12_rosters_99 : decode cX12_rosters 99 = .ok (.iload_n 3, 1) := by decide +kernel
theorem dX12_rosters_100 : decode cX12_rosters 100 = .ok (.istore_n 3, 1) := by decide +kernel
theorem dX12_rosters_101 : decode cX12_rosters 101 = .ok (.iinc 4 1, 3) := by decide +kernel
theorem dX12_rosters_104 : decode cX12_rosters 104 = .ok (.goto (-48), 3) := by decide +kernel
theorem dX12_rosters_107 : decode cX12_rosters 107 = .ok (.aload_n 0, 1) := by decide +kernel
theorem dX12_rosters_108 : decode cX12_rosters 108 = .ok (.getfield 141, 3) := by decide +kernel
theorem dX12_rosters_111 : decode cX12_rosters 111 = .ok (.sipush 256, 3) := by decide +kernel
theorem dX12_rosters_114 : decode cX12_rosters 114 = .ok (.iload_n 1, 1) := by decide +kernel
theorem dX12_rosters_115 : decode cX12_rosters 115 = .ok (.imul, 1) := by decide +kernel
theorem dX12_rosters_116 : decode cX12_rosters 116 = .ok (.iload_n 2, 1) := by decide +kernel
theorem dX12_rosters_117 : decode cX12_rosters 117 = .ok (.iadd, 1) := by decide +kernel
theorem dX12_rosters_118 : decode cX12_rosters 118 = .ok (.iload_n 3, 1) := by decide +kernel
theorem dX12_rosters_119 : decode cX12_rosters 119 = .ok (.iastore, 1) := by decide +kernel
theorem dX12_rosters_120 : decode cX12_rosters 120 = .ok (.iinc 2 1, 3) := by decide +kernel
theorem dX12_rosters_123 : decode cX12_rosters 123 = .ok (.goto (-79), 3) := by decide +kernel
theorem dX12_rosters_126 : decode cX12_rosters 126 = .ok (.iinc 1 (-1), 3) := by decide +kernel
theorem dX12_rosters_129 : decode cX12_rosters 129 = .ok (.goto (-91), 3) := by decide +kernel
theorem dX12_rosters_132 : decode cX12_rosters 132 = .ok (.aload_n 0, 1) := by decide +kernel
theorem dX12_rosters_133 : decode cX12_rosters 133 = .ok (.getfield 141, 3) := by decide +kernel
theorem dX12_rosters_136 : decode cX12_rosters 136 = .ok (.iconst 0, 1) := by decide +kernel
theorem dX12_rosters_137 : decode cX12_rosters 137 = .ok (.iaload, 1) := by decide +kernel
theorem dX12_rosters_138 : decode cX12_rosters 138 = .ok (.iconst (-1), 1) := by decide +kernel
theorem dX12_rosters_139 : decode cX12_rosters 139 = .ok (.if_icmp .ne 5, 3) := by decide +kernel
theorem dX12_rosters_142 : decode cX12_rosters 142 = .ok (.iconst (-1), 1) := by decide +kernel
theorem dX12_rosters_143 : decode cX12_rosters 143 = .ok (.ireturn, 1) := by decide +kernel
theorem dX12_rosters_144 : decode cX12_rosters 144 = .ok (.iconst 0, 1) := by decide +kernel
theorem dX12_rosters_145 : decode cX12_rosters 145 = .ok (.istore_n 1, 1) := by decide +kernel
theorem dX12_rosters_146 : decode cX12_rosters 146 = .ok (.iconst 0, 1) := by decide +kernel
theorem dX12_rosters_147 : decode cX12_rosters 147 = .ok (.istore_n 2, 1) := by decide +kernel
theorem dX12_rosters_148 : decode cX12_rosters 148 = .ok (.iload_n 2, 1) := by decide +kernel
theorem dX12_rosters_149 : decode cX12_rosters 149 = .ok (.aload_n 0, 1) := by decide +kernel
theorem dX12_rosters_150 : decode cX12_rosters 150 = .ok (.getfield 399, 3) := by decide +kernel
theorem dX12_rosters_153 : decode cX12_rosters 153 = .ok (.if_icmp .ge 54, 3) := by decide +kernel
theorem dX12_rosters_156 : decode cX12_rosters 156 = .ok (.iconst 0, 1) := by decide +kernel
theorem dX12_rosters_157 : decode cX12_rosters 157 = .ok (.istore_n 3, 1) := by decide +kernel
theorem dX12_rosters_158 : decode cX12_rosters 158 = .ok (.aload_n 0, 1) := by decide +kernel
theorem dX12_rosters_159 : decode cX12_rosters 159 = .ok (.iload_n 2, 1) := by decide +kernel
theorem dX12_rosters_160 : decode cX12_rosters 160 = .ok (.iload_n 1, 1) := by decide +kernel
theorem dX12_rosters_161 : decode cX12_rosters 161 = .ok (.iload_n 3, 1) := by decide +kernel
theorem dX12_rosters_162 : decode cX12_rosters 162 = .ok (.invokevirtual 411, 3) := by decide +kernel
theorem dX12_rosters_165 : decode cX12_rosters 165 = .ok (.aload_n 0, 1) := by decide +kernel
theorem dX12_rosters_166 : decode cX12_rosters 166 = .ok (.getfield 141, 3) := by decide +kernel
theorem dX12_rosters_169 : decode cX12_rosters 169 = .ok (.sipush 256, 3) := by decide +kernel
theorem dX12_rosters_172 : decode cX12_rosters 172 = .ok (.iload_n 2, 1) := by decide +kernel
theorem dX12_rosters_173 : decode cX12_rosters 173 = .ok (.imul, 1) := by decide +kernel
theorem dX12_rosters_174 : decode cX12_rosters 174 = .ok (.iload_n 1, 1) := by decide +kernel
theorem dX12_rosters_175 : decode cX12_rosters 175 = .ok (.iadd, 1) := by decide +kernel
theorem dX12_rosters_176 : decode cX12_rosters 176 = .ok (.iaload, 1) := by decide +kernel
theorem dX12_rosters_177 : decode cX12_rosters 177 = .ok (.if_icmp .eq 9, 3) := by decide +kernel
theorem dX12_rosters_180 : decode cX12_rosters 180 = .ok (.iinc 3 1, 3) := by decide +kernel
theorem dX12_rosters_183 : decode cX12_rosters 183 = .ok (.goto (-25), 3) := by decide +kernel
theorem dX12_rosters_186 : decode cX12_rosters 186 = .ok (.aload_n 0, 1) := by decide +kernel
theorem dX12_rosters_187 : decode cX12_rosters 187 = .ok (.getfield 144, 3) := by decide +kernel
theorem dX12_rosters_190 : decode cX12_rosters 190 = .ok (.iload_n 2, 1) := by decide +kernel
theorem dX12_rosters_191 : decode cX12_rosters 191 = .ok (.iload_n 3, 1) := by decide +kernel
theorem dX12_rosters_192 : decode cX12_rosters 192 = .ok (.iastore, 1) := by decide +kernel
theorem dX12_rosters_193 : decode cX12_rosters 193 = .ok (.aload_n 0, 1) := by decide +kernel
theorem dX12_rosters_194 : decode cX12_rosters 194 = .ok (.iload_n 2, 1) := by decide +kernel
theorem dX12_rosters_195 : decode cX12_rosters 195 = .ok (.iload_n 1, 1) := by decide +kernel
theorem dX12_rosters_196 : decode cX12_rosters 196 = .ok (.iload_n 3, 1) := by decide +kernel
theorem dX12_rosters_197 : decode cX12_rosters 197 = .ok (.invokevirtual 405, 3) := by decide +kernel
theorem dX12_rosters_200 : decode cX12_rosters 200 = .ok (.istore_n 1, 1) := by decide +kernel
theorem dX12_rosters_201 : decode cX12_rosters 201 = .ok (.iinc 2 1, 3) := by decide +kernel
theorem dX12_rosters_204 : decode cX12_rosters 204 = .ok (.goto (-56), 3) := by decide +kernel
theorem dX12_rosters_207 : decode cX12_rosters 207 = .ok (.aload_n 0, 1) := by decide +kernel
theorem dX12_rosters_208 : decode cX12_rosters 208 = .ok (.getfield 141, 3) := by decide +kernel
theorem dX12_rosters_211 : decode cX12_rosters 211 = .ok (.iconst 0, 1) := by decide +kernel
theorem dX12_rosters_212 : decode cX12_rosters 212 = .ok (.iaload, 1) := by decide +kernel
theorem dX12_rosters_213 : decode cX12_rosters 213 = .ok (.ireturn, 1) := by decide +kernel
theorem dX12_rosterOrNot_0 : decode cX12_rosterOrNot 0 = .ok (.aload_n 0, 1) := by decide +kernel
theorem dX12_rosterOrNot_1 : decode cX12_rosterOrNot 1 = .ok (.invokevirtual 414, 3) := by decide +kernel
theorem dX12_rosterOrNot_4 : decode cX12_rosterOrNot 4 = .ok (.istore_n 1, 1) := by decide +kernel
theorem dX12_rosterOrNot_5 : decode cX12_rosterOrNot 5 = .ok (.iload_n 1, 1) := by decide +kernel
theorem dX12_rosterOrNot_6 : decode cX12_rosterOrNot 6 = .ok (.iconst (-1), 1) := by decide +kernel
theorem dX12_rosterOrNot_7 : decode cX12_rosterOrNot 7 = .ok (.if_icmp .ne 8, 3) := by decide +kernel
theorem dX12_rosterOrNot_10 : decode cX12_rosterOrNot 10 = .ok (.bipush (-3), 2) := by decide +kernel
theorem dX12_rosterOrNot_12 : decode cX12_rosterOrNot 12 = .ok (.goto 4, 3) := by decide +kernel
theorem dX12_rosterOrNot_15 : decode cX12_rosterOrNot 15 = .ok (.iload_n 1, 1) := by decide +kernel
theorem dX12_rosterOrNot_16 : decode cX12_rosterOrNot 16 = .ok (.ireturn, 1) := by decide +kernel
theorem dX12_roster_0 : decode cX12_roster 0 = .ok (.aload_n 0, 1) := by decide +kernel
theorem dX12_roster_1 : decode cX12_roster 1 = .ok (.invokevirtual 417, 3) := by decide +kernel
theorem dX12_roster_4 : decode cX12_roster 4 = .ok (.ireturn, 1) := by decide +kernel
theorem dX12_pulls_0 : decode cX12_pulls 0 = .ok (.iload_n 1, 1) := by decide +kernel
theorem dX12_pulls_1 : decode cX12_pulls 1 = .ok (.iconst 0, 1) := by decide +kernel
theorem dX12_pulls_2 : decode cX12_pulls 2 = .ok (.aload_n 0, 1) := by decide +kernel
theorem dX12_pulls_3 : decode cX12_pulls 3 = .ok (.getfield 399, 3) := by decide +kernel
theorem dX12_pulls_6 : decode cX12_pulls 6 = .ok (.iconst 1, 1) := by decide +kernel
theorem dX12_pulls_7 : decode cX12_pulls 7 = .ok (.isub, 1) := by decide +kernel
theorem dX12_pulls_8 : decode cX12_pulls 8 = .ok (.invokestatic 217, 3) := by decide +kernel
theorem dX12_pulls_11 : decode cX12_pulls 11 = .ok (.ifCond .ne 6, 3) := by decide +kernel
theorem dX12_pulls_14 : decode cX12_pulls 14 = .ok (.bipush (-2), 2) := by decide +kernel
theorem dX12_pulls_16 : decode cX12_pulls 16 = .ok (.ireturn, 1) := by decide +kernel
theorem dX12_pulls_17 : decode cX12_pulls 17 = .ok (.aload_n 0, 1) := by decide +kernel
theorem dX12_pulls_18 : decode cX12_pulls 18 = .ok (.invokevirtual 414, 3) := by decide +kernel
theorem dX12_pulls_21 : decode cX12_pulls 21 = .ok (.iconst (-1), 1) := by decide +kernel
theorem dX12_pulls_22 : decode cX12_pulls 22 = .ok (.if_icmp .ne 8, 3) := by decide +kernel
theorem dX12_pulls_25 : decode cX12_pulls 25 = .ok (.bipush (-3), 2) := by decide +kernel
theorem dX12_pulls_27 : decode cX12_pulls 27 = .ok (.goto 9, 3) := by decide +kernel
theorem dX12_pulls_30 : decode cX12_pulls 30 = .ok (.aload_n 0, 1) := by decide +kernel
theorem dX12_pulls_31 : decode cX12_pulls 31 = .ok (.getfield 144, 3) := by decide +kernel
theorem dX12_pulls_34 : decode cX12_pulls 34 = .ok (.iload_n 1, 1) := by decide +kernel
theorem dX12_pulls_35 : decode cX12_pulls 35 = .ok (.iaload, 1) := by decide +kernel
theorem dX12_pulls_36 : decode cX12_pulls 36 = .ok (.ireturn, 1) := by decide +kernel
theorem dX12_block_0 : decode cX12_block 0 = .ok (.iload_n 1, 1) := by decide +kernel
theorem dX12_block_1 : decode cX12_block 1 = .ok (.iconst 0, 1) := by decide +kernel
theorem dX12_block_2 : decode cX12_block 2 = .ok (.bipush 19, 2) := by decide +kernel
theorem dX12_block_4 : decode cX12_block 4 = .ok (.invokestatic 217, 3) := by decide +kernel
theorem dX12_block_7 : decode cX12_block 7 = .ok (.ifCond .eq 13, 3) := by decide +kernel
theorem dX12_block_10 : decode cX12_block 10 = .ok (.iload_n 2, 1) := by decide +kernel
theorem dX12_block_11 : decode cX12_block 11 = .ok (.iconst 1, 1) := by decide +kernel
theorem dX12_block_12 : decode cX12_block 12 = .ok (.bipush 60, 2) := by decide +kernel
theorem dX12_block_14 : decode cX12_block 14 = .ok (.invokestatic 217, 3) := by decide +kernel
theorem dX12_block_17 : decode cX12_block 17 = .ok (.ifCond .ne 6, 3) := by decide +kernel
theorem dX12_block_20 : decode cX12_block 20 = .ok (.bipush (-2), 2) := by decide +kernel
theorem dX12_block_22 : decode cX12_block 22 = .ok (.ireturn, 1) := by decide +kernel
theorem dX12_block_23 : decode cX12_block 23 = .ok (.aload_n 0, 1) := by decide +kernel
theorem dX12_block_24 : decode cX12_block 24 = .ok (.getfield 147, 3) := by decide +kernel
theorem dX12_block_27 : decode cX12_block 27 = .ok (.iload_n 1, 1) := by decide +kernel
theorem dX12_block_28 : decode cX12_block 28 = .ok (.iload_n 2, 1) := by decide +kernel
theorem dX12_block_29 : decode cX12_block 29 = .ok (.iastore, 1) := by decide +kernel
theorem dX12_block_30 : decode cX12_block 30 = .ok (.aload_n 0, 1) := by decide +kernel
theorem dX12_block_31 : decode cX12_block 31 = .ok (.getfield 150, 3) := by decide +kernel
theorem dX12_block_34 : decode cX12_block 34 = .ok (.iload_n 1, 1) := by decide +kernel
theorem dX12_block_35 : decode cX12_block 35 = .ok (.iload_n 3, 1) := by decide +kernel
theorem dX12_block_36 : decode cX12_block 36 = .ok (.bastore, 1) := by decide +kernel
theorem dX12_block_37 : decode cX12_block 37 = .ok (.iconst 1, 1) := by decide +kernel
theorem dX12_block_38 : decode cX12_block 38 = .ok (.ireturn, 1) := by decide +kernel
theorem dX12_enter_0 : decode cX12_enter 0 = .ok (.iload_n 1, 1) := by decide +kernel
theorem dX12_enter_1 : decode cX12_enter 1 = .ok (.iconst 0, 1) := by decide +kernel
theorem dX12_enter_2 : decode cX12_enter 2 = .ok (.bipush 19, 2) := by decide +kernel
theorem dX12_enter_4 : decode cX12_enter 4 = .ok (.invokestatic 217, 3) := by decide +kernel
theorem dX12_enter_7 : decode cX12_enter 7 = .ok (.ifCond .eq 29, 3) := by decide +kernel
theorem dX12_enter_10 : decode cX12_enter 10 = .ok (.iload_n 2, 1) := by decide +kernel
theorem dX12_enter_11 : decode cX12_enter 11 = .ok (.iconst 0, 1) := by decide +kernel
theorem dX12_enter_12 : decode cX12_enter 12 = .ok (.bipush 19, 2) := by decide +kernel
theorem dX12_enter_14 : decode cX12_enter 14 = .ok (.invokestatic 217, 3) := by decide +kernel
theorem dX12_enter_17 : decode cX12_enter 17 = .ok (.ifCond .eq 19, 3) := by decide +kernel
theorem dX12_enter_20 : decode cX12_enter 20 = .ok (.iload_n 1, 1) := by decide +kernel
theorem dX12_enter_21 : decode cX12_enter 21 = .ok (.iload_n 2, 1) := by decide +kernel
theorem dX12_enter_22 : decode cX12_enter 22 = .ok (.if_icmp .eq 14, 3) := by decide +kernel
theorem dX12_enter_25 : decode cX12_enter 25 = .ok (.iload_n 3, 1) := by decide +kernel
theorem dX12_enter_26 : decode cX12_enter 26 = .ok (.iconst 0, 1) := by decide +kernel
theorem dX12_enter_27 : decode cX12_enter 27 = .ok (.sipush 999, 3) := by decide +kernel
theorem dX12_enter_30 : decode cX12_enter 30 = .ok (.invokestatic 217, 3) := by decide +kernel
theorem dX12_enter_33 : decode cX12_enter 33 = .ok (.ifCond .ne 6, 3) := by decide +kernel
theorem dX12_enter_36 : decode cX12_enter 36 = .ok (.bipush (-2), 2) := by decide +kernel
theorem dX12_enter_38 : decode cX12_enter 38 = .ok (.ireturn, 1) := by decide +kernel
theorem dX12_enter_39 : decode cX12_enter 39 = .ok (.aload_n 0, 1) := by decide +kernel
theorem dX12_enter_40 : decode cX12_enter 40 = .ok (.getfield 420, 3) := by decide +kernel
theorem dX12_enter_43 : decode cX12_enter 43 = .ok (.iconst 4, 1) := by decide +kernel
theorem dX12_enter_44 : decode cX12_enter 44 = .ok (.if_icmp .ne 6, 3) := by decide +kernel
theorem dX12_enter_47 : decode cX12_enter 47 = .ok (.bipush (-4), 2) := by decide +kernel
theorem dX12_enter_49 : decode cX12_enter 49 = .ok (.ireturn, 1) := by decide +kernel
theorem dX12_enter_50 : decode cX12_enter 50 = .ok (.aload_n 0, 1) := by decide +kernel
theorem dX12_enter_51 : decode cX12_enter 51 = .ok (.getfield 153, 3) := by decide +kernel
theorem dX12_enter_54 : decode cX12_enter 54 = .ok (.aload_n 0, 1) := by decide +kernel
theorem dX12_enter_55 : decode cX12_enter 55 = .ok (.getfield 420, 3) := by decide +kernel
theorem dX12_enter_58 : decode cX12_enter 58 = .ok (.iload_n 1, 1) := by decide +kernel
theorem dX12_enter_59 : decode cX12_enter 59 = .ok (.iastore, 1) := by decide +kernel
theorem dX12_enter_60 : decode cX12_enter 60 = .ok (.aload_n 0, 1) := by decide +kernel
theorem dX12_enter_61 : decode cX12_enter 61 = .ok (.getfield 156, 3) := by decide +kernel
theorem dX12_enter_64 : decode cX12_enter 64 = .ok (.aload_n 0, 1) := by decide +kernel
theorem dX12_enter_65 : decode cX12_enter 65 = .ok (.getfield 420, 3) := by decide +kernel
theorem dX12_enter_68 : decode cX12_enter 68 = .ok (.iload_n 2, 1) := by decide +kernel
theorem dX12_enter_69 : decode cX12_enter 69 = .ok (.iastore, 1) := by decide +kernel
theorem dX12_enter_70 : decode cX12_enter 70 = .ok (.aload_n 0, 1) := by decide +kernel
theorem dX12_enter_71 : decode cX12_enter 71 = .ok (.getfield 159, 3) := by decide +kernel
theorem dX12_enter_74 : decode cX12_enter 74 = .ok (.aload_n 0, 1) := by decide +kernel
theorem dX12_enter_75 : decode cX12_enter 75 = .ok (.getfield 420, 3) := by decide +kernel
theorem dX12_enter_78 : decode cX12_enter 78 = .ok (.iload_n 3, 1) := by decide +kernel
theorem dX12_enter_79 : decode cX12_enter 79 = .ok (.iastore, 1) := by decide +kernel
theorem dX12_enter_80 : decode cX12_enter 80 = .ok (.aload_n 0, 1) := by decide +kernel
theorem dX12_enter_81 : decode cX12_enter 81 = .ok (.getfield 162, 3) := by decide +kernel
theorem dX12_enter_84 : decode cX12_enter 84 = .ok (.aload_n 0, 1) := by decide +kernel
theorem dX12_enter_85 : decode cX12_enter 85 = .ok (.getfield 420, 3) := by decide +kernel
theorem dX12_enter_88 : decode cX12_enter 88 = .ok (.iconst 0, 1) := by decide +kernel
theorem dX12_enter_89 : decode cX12_enter 89 = .ok (.iastore, 1) := by decide +kernel
theorem dX12_enter_90 : decode cX12_enter 90 = .ok (.aload_n 0, 1) := by decide +kernel
theorem dX12_enter_91 : decode cX12_enter 91 = .ok (.getfield 165, 3) := by decide +kernel
theorem dX12_enter_94 : decode cX12_enter 94 = .ok (.aload_n 0, 1) := by decide +kernel
theorem dX12_enter_95 : decode cX12_enter 95 = .ok (.getfield 420, 3) := by decide +kernel
theorem dX12_enter_98 : decode cX12_enter 98 = .ok (.iconst 0, 1) := by decide +kernel
theorem dX12_enter_99 : decode cX12_enter 99 = .ok (.iastore, 1) := by decide +kernel
theorem dX12_enter_100 : decode cX12_enter 100 = .ok (.aload_n 0, 1) := by decide +kernel
theorem dX12_enter_101 : decode cX12_enter 101 = .ok (.dup, 1) := by decide +kernel
theorem dX12_enter_102 : decode cX12_enter 102 = .ok (.getfield 420, 3) := by decide +kernel
theorem dX12_enter_105 : decode cX12_enter 105 = .ok (.iconst 1, 1) := by decide +kernel
theorem dX12_enter_106 : decode cX12_enter 106 = .ok (.iadd, 1) := by decide +kernel
theorem dX12_enter_107 : decode cX12_enter 107 = .ok (.putfield 420, 3) := by decide +kernel
theorem dX12_enter_110 : decode cX12_enter 110 = .ok (.aload_n 0, 1) := by decide +kernel
theorem dX12_enter_111 : decode cX12_enter 111 = .ok (.getfield 420, 3) := by decide +kernel
theorem dX12_enter_114 : decode cX12_enter 114 = .ok (.iconst 1, 1) := by decide +kernel
theorem dX12_enter_115 : decode cX12_enter 115 = .ok (.isub, 1) := by decide +kernel
theorem dX12_enter_116 : decode cX12_enter 116 = .ok (.ireturn, 1) := by decide +kernel
theorem dX12_stuck_0 : decode cX12_stuck 0 = .ok (.iload_n 1, 1) := by decide +kernel
theorem dX12_stuck_1 : decode cX12_stuck 1 = .ok (.iconst 0, 1) := by decide +kernel
theorem dX12_stuck_2 : decode cX12_stuck 2 = .ok (.aload_n 0, 1) := by decide +kernel
theorem dX12_stuck_3 : decode cX12_stuck 3 = .ok (.getfield 420, 3) := by decide +kernel
theorem dX12_stuck_6 : decode cX12_stuck 6 = .ok (.iconst 1, 1) := by decide +kernel
theorem dX12_stuck_7 : decode cX12_stuck 7 = .ok (.isub, 1) := by decide +kernel
theorem dX12_stuck_8 : decode cX12_stuck 8 = .ok (.invokestatic 217, 3) := by decide +kernel
theorem dX12_stuck_11 : decode cX12_stuck 11 = .ok (.ifCond .eq 27, 3) := by decide +kernel
theorem dX12_stuck_14 : decode cX12_stuck 14 = .ok (.iload_n 2, 1) := by decide +kernel
theorem dX12_stuck_15 : decode cX12_stuck 15 = .ok (.iconst 0, 1) := by decide +kernel
theorem dX12_stuck_16 : decode cX12_stuck 16 = .ok (.sipush 2000, 3) := by decide +kernel
theorem dX12_stuck_19 : decode cX12_stuck 19 = .ok (.invokestatic 217, 3) := by decide +kernel
theorem dX12_stuck_22 : decode cX12_stuck 22 = .ok (.ifCond .eq 16, 3) := by decide +kernel
theorem dX12_stuck_25 : decode cX12_stuck 25 = .ok (.iload_n 3, 1) := by decide +kernel
theorem dX12_stuck_26 : decode cX12_stuck 26 = .ok (.iload_n 2, 1) := by decide +kernel
theorem dX12_stuck_27 : decode cX12_stuck 27 = .ok (.iconst 1, 1) := by decide +kernel
theorem dX12_stuck_28 : decode cX12_stuck 28 = .ok (.iadd, 1) := by decide +kernel
theorem dX12_stuck_29 : decode cX12_stuck 29 = .ok (.sipush 2000, 3) := by decide +kernel
theorem dX12_stuck_32 : decode cX12_stuck 32 = .ok (.invokestatic 217, 3) := by decide +kernel
theorem dX12_stuck_35 : decode cX12_stuck 35 = .ok (.ifCond .ne 6, 3) := by decide +kernel
theorem dX12_stuck_38 : decode cX12_stuck 38 = .ok (.bipush (-2), 2) := by decide +kernel
theorem dX12_stuck_40 : decode cX12_stuck 40 = .ok (.ireturn, 1) := by decide +kernel
theorem dX12_stuck_41 : decode cX12_stuck 41 = .ok (.aload_n 0, 1) := by decide +kernel
theorem dX12_stuck_42 : decode cX12_stuck 42 = .ok (.getfield 162, 3) := by decide +kernel
theorem dX12_stuck_45 : decode cX12_stuck 45 = .ok (.iload_n 1, 1) := by decide +kernel
theorem dX12_stuck_46 : decode cX12_stuck 46 = .ok (.iload_n 2, 1) := by decide +kernel
theorem dX12_stuck_47 : decode cX12_stuck 47 = .ok (.iastore, 1) := by decide +kernel
theorem dX12_stuck_48 : decode cX12_stuck 48 = .ok (.aload_n 0, 1) := by decide +kernel
theorem dX12_stuck_49 : decode cX12_stuck 49 = .ok (.getfield 165, 3) := by decide +kernel
theorem dX12_stuck_52 : decode cX12_stuck 52 = .ok (.iload_n 1, 1) := by decide +kernel
theorem dX12_stuck_53 : decode cX12_stuck 53 = .ok (.iload_n 3, 1) := by decide +kernel
theorem dX12_stuck_54 : decode cX12_stuck 54 = .ok (.iastore, 1) := by decide +kernel
theorem dX12_stuck_55 : decode cX12_stuck 55 = .ok (.iconst 1, 1) := by decide +kernel
theorem dX12_stuck_56 : decode cX12_stuck 56 = .ok (.ireturn, 1) := by decide +kernel
theorem dX12_home_0 : decode cX12_home 0 = .ok (.aload_n 0, 1) := by decide +kernel
theorem dX12_home_1 : decode cX12_home 1 = .ok (.getfield 420, 3) := by decide +kernel
theorem dX12_home_4 : decode cX12_home 4 = .ok (.istore_n 1, 1) := by decide +kernel
theorem dX12_home_5 : decode cX12_home 5 = .ok (.aload_n 0, 1) := by decide +kernel
theorem dX12_home_6 : decode cX12_home 6 = .ok (.iconst 0, 1) := by decide +kernel
theorem dX12_home_7 : decode cX12_home 7 = .ok (.putfield 420, 3) := by decide +kernel
theorem dX12_home_10 : decode cX12_home 10 = .ok (.iload_n 1, 1) := by decide +kernel
theorem dX12_home_11 : decode cX12_home 11 = .ok (.ireturn, 1) := by decide +kernel
theorem dX12_hasRoom_0 : decode cX12_hasRoom 0 = .ok (.iconst 0, 1) := by decide +kernel
theorem dX12_hasRoom_1 : decode cX12_hasRoom 1 = .ok (.istore_n 2, 1) := by decide +kernel
theorem dX12_hasRoom_2 : decode cX12_hasRoom 2 = .ok (.iconst 0, 1) := by decide +kernel
theorem dX12_hasRoom_3 : decode cX12_hasRoom 3 = .ok (.istore_n 3, 1) := by decide +kernel
theorem dX12_hasRoom_4 : decode cX12_hasRoom 4 = .ok (.iload_n 3, 1) := by decide +kernel
theorem dX12_hasRoom_5 : decode cX12_hasRoom 5 = .ok (.aload_n 0, 1) := by decide +kernel
theorem dX12_hasRoom_6 : decode cX12_hasRoom 6 = .ok (.getfield 420, 3) := by decide +kernel
theorem dX12_hasRoom_9 : decode cX12_hasRoom 9 = .ok (.if_icmp .ge 27, 3) := by decide +kernel
theorem dX12_hasRoom_12 : decode cX12_hasRoom 12 = .ok (.iload_n 2, 1) := by decide +kernel
theorem dX12_hasRoom_13 : decode cX12_hasRoom 13 = .ok (.aload_n 0, 1) := by decide +kernel
theorem dX12_hasRoom_14 : decode cX12_hasRoom 14 = .ok (.getfield 168, 3) := by decide +kernel
theorem dX12_hasRoom_17 : decode cX12_hasRoom 17 = .ok (.iload_n 3, 1) := by decide +kernel
theorem dX12_hasRoom_18 : decode cX12_hasRoom 18 = .ok (.iaload, 1) := by decide +kernel
theorem dX12_hasRoom_19 : decode cX12_hasRoom 19 = .ok (.iload_n 1, 1) := by decide +kernel
theorem dX12_hasRoom_20 : decode cX12_hasRoom 20 = .ok (.if_icmp .ne 7, 3) := by decide +kernel
theorem dX12_hasRoom_23 : decode cX12_hasRoom 23 = .ok (.iconst 1, 1) := by decide +kernel
theorem dX12_hasRoom_24 : decode cX12_hasRoom 24 = .ok (.goto 4, 3) := by decide +kernel
theorem dX12_hasRoom_27 : decode cX12_hasRoom 27 = .ok (.iconst 0, 1) := by decide +kernel
theorem dX12_hasRoom_28 : decode cX12_hasRoom 28 = .ok (.iadd, 1) := by decide +kernel
theorem dX12_hasRoom_29 : decode cX12_hasRoom 29 = .ok (.istore_n 2, 1) := by decide +kernel
theorem dX12_hasRoom_30 : decode cX12_hasRoom 30 = .ok (.iinc 3 1, 3) := by decide +kernel
theorem dX12_hasRoom_33 : decode cX12_hasRoom 33 = .ok (.goto (-29), 3) := by decide +kernel
theorem dX12_hasRoom_36 : decode cX12_hasRoom 36 = .ok (.iload_n 2, 1) := by decide +kernel
theorem dX12_hasRoom_37 : decode cX12_hasRoom 37 = .ok (.aload_n 0, 1) := by decide +kernel
theorem dX12_hasRoom_38 : decode cX12_hasRoom 38 = .ok (.getfield 150, 3) := by decide +kernel
theorem dX12_hasRoom_41 : decode cX12_hasRoom 41 = .ok (.iload_n 1, 1) := by decide +kernel
theorem dX12_hasRoom_42 : decode cX12_hasRoom 42 = .ok (.baload, 1) := by decide +kernel
theorem dX12_hasRoom_43 : decode cX12_hasRoom 43 = .ok (.ifCond .eq 7, 3) := by decide +kernel
theorem dX12_hasRoom_46 : decode cX12_hasRoom 46 = .ok (.iconst 2, 1) := by decide +kernel
theorem dX12_hasRoom_47 : decode cX12_hasRoom 47 = .ok (.goto 4, 3) := by decide +kernel
theorem dX12_hasRoom_50 : decode cX12_hasRoom 50 = .ok (.iconst 1, 1) := by decide +kernel
theorem dX12_hasRoom_51 : decode cX12_hasRoom 51 = .ok (.if_icmp .ge 7, 3) := by decide +kernel
theorem dX12_hasRoom_54 : decode cX12_hasRoom 54 = .ok (.iconst 1, 1) := by decide +kernel
theorem dX12_hasRoom_55 : decode cX12_hasRoom 55 = .ok (.goto 4, 3) := by decide +kernel
theorem dX12_hasRoom_58 : decode cX12_hasRoom 58 = .ok (.iconst 0, 1) := by decide +kernel
theorem dX12_hasRoom_59 : decode cX12_hasRoom 59 = .ok (.ireturn, 1) := by decide +kernel
theorem dX12_comes_0 : decode cX12_comes 0 = .ok (.aload_n 0, 1) := by decide +kernel
theorem dX12_comes_1 : decode cX12_comes 1 = .ok (.iload_n 2, 1) := by decide +kernel
theorem dX12_comes_2 : decode cX12_comes 2 = .ok (.invokevirtual 423, 3) := by decide +kernel
theorem dX12_comes_5 : decode cX12_comes 5 = .ok (.ifCond .eq 17, 3) := by decide +kernel
theorem dX12_comes_8 : decode cX12_comes 8 = .ok (.aload_n 0, 1) := by decide +kernel
theorem dX12_comes_9 : decode cX12_comes 9 = .ok (.getfield 168, 3) := by decide +kernel
theorem dX12_comes_12 : decode cX12_comes 12 = .ok (.iload_n 1, 1) := by decide +kernel
theorem dX12_comes_13 : decode cX12_comes 13 = .ok (.iload_n 2, 1) := by decide +kernel
theorem dX12_comes_14 : decode cX12_comes 14 = .ok (.iastore, 1) := by decide +kernel
theorem dX12_comes_15 : decode cX12_comes 15 = .ok (.aload_n 0, 1) := by decide +kernel
theorem dX12_comes_16 : decode cX12_comes 16 = .ok (.getfield 171, 3) := by decide +kernel
theorem dX12_comes_19 : decode cX12_comes 19 = .ok (.iload_n 1, 1) := by decide +kernel
theorem dX12_comes_20 : decode cX12_comes 20 = .ok (.iload_n 3, 1) := by decide +kernel
theorem dX12_comes_21 : decode cX12_comes 21 = .ok (.iastore, 1) := by decide +kernel
theorem dX12_comes_22 : decode cX12_comes 22 = .ok (.return_, 1) := by decide +kernel
theorem dX12_turns_0 : decode cX12_turns 0 = .ok (.aload_n 0, 1) := by decide +kernel
theorem dX12_turns_1 : decode cX12_turns 1 = .ok (.getfield 168, 3) := by decide +kernel
theorem dX12_turns_4 : decode cX12_turns 4 = .ok (.iload_n 1, 1) := by decide +kernel
theorem dX12_turns_5 : decode cX12_turns 5 = .ok (.iaload, 1) := by decide +kernel
theorem dX12_turns_6 : decode cX12_turns 6 = .ok (.istore_n 3, 1) := by decide +kernel
theorem dX12_turns_7 : decode cX12_turns 7 = .ok (.iload_n 2, 1) := by decide +kernel
theorem dX12_turns_8 : decode cX12_turns 8 = .ok (.aload_n 0, 1) := by decide +kernel
theorem dX12_turns_9 : decode cX12_turns 9 = .ok (.getfield 162, 3) := by decide +kernel
theorem dX12_turns_12 : decode cX12_turns 12 = .ok (.iload_n 1, 1) := by decide +kernel
theorem dX12_turns_13 : decode cX12_turns 13 = .ok (.iaload, 1) := by decide +kernel
theorem dX12_turns_14 : decode cX12_turns 14 = .ok (.if_icmp .lt 13, 3) := by decide +kernel
theorem dX12_turns_17 : decode cX12_turns 17 = .ok (.iload_n 2, 1) := by decide +kernel
theorem dX12_turns_18 : decode cX12_turns 18 = .ok (.aload_n 0, 1) := by decide +kernel
theorem dX12_turns_19 : decode cX12_turns 19 = .ok (.getfield 165, 3) := by decide +kernel
theorem dX12_turns_22 : decode cX12_turns 22 = .ok (.iload_n 1, 1) := by decide +kernel
theorem dX12_turns_23 : decode cX12_turns 23 = .ok (.iaload, 1) := by decide +kernel
theorem dX12_turns_24 : decode cX12_turns 24 = .ok (.if_icmp .lt 9, 3) := by decide +kernel
theorem dX12_turns_27 : decode cX12_turns 27 = .ok (.iload_n 3, 1) := by decide +kernel
theorem dX12_turns_28 : decode cX12_turns 28 = .ok (.bipush 101, 2) := by decide +kernel
theorem dX12_turns_30 : decode cX12_turns 30 = .ok (.if_icmp .ne 4, 3) := by decide +kernel
theorem dX12_turns_33 : decode cX12_turns 33 = .ok (.return_, 1) := by decide +kernel
theorem dX12_turns_34 : decode cX12_turns 34 = .ok (.iload_n 3, 1) := by decide +kernel
theorem dX12_turns_35 : decode cX12_turns 35 = .ok (.bipush 100, 2) := by decide +kernel
theorem dX12_turns_37 : decode cX12_turns 37 = .ok (.if_icmp .ne 28, 3) := by decide +kernel
theorem dX12_turns_40 : decode cX12_turns 40 = .ok (.iload_n 2, 1) := by decide +kernel
theorem dX12_turns_41 : decode cX12_turns 41 = .ok (.aload_n 0, 1) := by decide +kernel
theorem dX12_turns_42 : decode cX12_turns 42 = .ok (.getfield 159, 3) := by decide +kernel
theorem dX12_turns_45 : decode cX12_turns 45 = .ok (.iload_n 1, 1) := by decide +kernel
theorem dX12_turns_46 : decode cX12_turns 46 = .ok (.iaload, 1) := by decide +kernel
theorem dX12_turns_47 : decode cX12_turns 47 = .ok (.if_icmp .lt 88, 3) := by decide +kernel
theorem dX12_turns_50 : decode cX12_turns 50 = .ok (.aload_n 0, 1) := by decide +kernel
theorem dX12_turns_51 : decode cX12_turns 51 = .ok (.iload_n 1, 1) := by decide +kernel
theorem dX12_turns_52 : decode cX12_turns 52 = .ok (.aload_n 0, 1) := by decide +kernel
theorem dX12_turns_53 : decode cX12_turns 53 = .ok (.getfield 153, 3) := by decide +kernel
theorem dX12_turns_56 : decode cX12_turns 56 = .ok (.iload_n 1, 1) := by decide +kernel
theorem dX12_turns_57 : decode cX12_turns 57 = .ok (.iaload, 1) := by decide +kernel
theorem dX12_turns_58 : decode cX12_turns 58 = .ok (.iload_n 2, 1) := by decide +kernel
theorem dX12_turns_59 : decode cX12_turns 59 = .ok (.invokevirtual 426, 3) := by decide +kernel
theorem dX12_turns_62 : decode cX12_turns 62 = .ok (.goto 73, 3) := by decide +kernel
theorem dX12_turns_65 : decode cX12_turns 65 = .ok (.iload_n 2, 1) := by decide +kernel
theorem dX12_turns_66 : decode cX12_turns 66 = .ok (.aload_n 0, 1) := by decide +kernel
theorem dX12_turns_67 : decode cX12_turns 67 = .ok (.getfield 171, 3) := by decide +kernel
theorem dX12_turns_70 : decode cX12_turns 70 = .ok (.iload_n 1, 1) := by decide +kernel
theorem dX12_turns_71 : decode cX12_turns 71 = .ok (.iaload, 1) := by decide +kernel
theorem dX12_turns_72 : decode cX12_turns 72 = .ok (.isub, 1) := by decide +kernel
theorem dX12_turns_73 : decode cX12_turns 73 = .ok (.aload_n 0, 1) := by decide +kernel
theorem dX12_turns_74 : decode cX12_turns 74 = .ok (.getfield 147, 3) := by decide +kernel
theorem dX12_turns_77 : decode cX12_turns 77 = .ok (.iload_n 3, 1) := by decide +kernel
theorem dX12_turns_78 : decode cX12_turns 78 = .ok (.iaload, 1) := by decide +kernel
theorem dX12_turns_79 : decode cX12_turns 79 = .ok (.if_icmp .lt 56, 3) := by decide +kernel
theorem dX12_turns_82 : decode cX12_turns 82 = .ok (.iload_n 3, 1) := by decide +kernel
theorem dX12_turns_83 : decode cX12_turns 83 = .ok (.aload_n 0, 1) := by decide +kernel
theorem dX12_turns_84 : decode cX12_turns 84 = .ok (.getfield 156, 3) := by decide +kernel
theorem dX12_turns_87 : decode cX12_turns 87 = .ok (.iload_n 1, 1) := by decide +kernel
theorem dX12_turns_88 : decode cX12_turns 88 = .ok (.iaload, 1) := by decide +kernel
theorem dX12_turns_89 : decode cX12_turns 89 = .ok (.if_icmp .ne 21, 3) := by decide +kernel
theorem dX12_turns_92 : decode cX12_turns 92 = .ok (.aload_n 0, 1) := by decide +kernel
theorem dX12_turns_93 : decode cX12_turns 93 = .ok (.getfield 168, 3) := by decide +kernel
theorem dX12_turns_96 : decode cX12_turns 96 = .ok (.iload_n 1, 1) := by decide +kernel
theorem dX12_turns_97 : decode cX12_turns 97 = .ok (.bipush 101, 2) := by decide +kernel
theorem dX12_turns_99 : decode cX12_turns 99 = .ok (.iastore, 1) := by decide +kernel
theorem dX12_turns_100 : decode cX12_turns 100 = .ok (.aload_n 0, 1) := by decide +kernel
theorem dX12_turns_101 : decode cX12_turns 101 = .ok (.getfield 174, 3) := by decide +kernel
theorem dX12_turns_104 : decode cX12_turns 104 = .ok (.iload_n 1, 1) := by decide +kernel
theorem dX12_turns_105 : decode cX12_turns 105 = .ok (.iload_n 2, 1) := by decide +kernel
theorem dX12_turns_106 : decode cX12_turns 106 = .ok (.iastore, 1) := by decide +kernel
theorem dX12_turns_107 : decode cX12_turns 107 = .ok (.goto 28, 3) := by decide +kernel
theorem dX12_turns_110 : decode cX12_turns 110 = .ok (.aload_n 0, 1) := by decide +kernel
theorem dX12_turns_111 : decode cX12_turns 111 = .ok (.iload_n 1, 1) := by decide +kernel
theorem dX12_turns_112 : decode cX12_turns 112 = .ok (.iload_n 3, 1) := by decide +kernel
theorem dX12_turns_113 : decode cX12_turns 113 = .ok (.aload_n 0, 1) := by decide +kernel
theorem dX12_turns_114 : decode cX12_turns 114 = .ok (.getfield 156, 3) := by decide +kernel
theorem dX12_turns_117 : decode cX12_turns 117 = .ok (.iload_n 1, 1) := by decide +kernel
theorem dX12_turns_118 : decode cX12_turns 118 = .ok (.iaload, 1) := by decide +kernel
theorem dX12_turns_119 : decode cX12_turns 119 = .ok (.if_icmp .ge 9, 3) := by decide +kernel
theorem dX12_turns_122 : decode cX12_turns 122 = .ok (.iload_n 3, 1) := by decide +kernel
theorem dX12_turns_123 : decode cX12_turns 123 = .ok (.iconst 1, 1) := by decide +kernel
theorem dX12_turns_124 : decode cX12_turns 124 = .ok (.iadd, 1) := by decide +kernel
theorem dX12_turns_125 : decode cX12_turns 125 = .ok (.goto 6, 3) := by decide +kernel
theorem dX12_turns_128 : decode cX12_turns 128 = .ok (.iload_n 3, 1) := by decide +kernel
theorem dX12_turns_129 : decode cX12_turns 129 = .ok (.iconst 1, 1) := by decide +kernel
theorem dX12_turns_130 : decode cX12_turns 130 = .ok (.isub, 1) := by decide +kernel
theorem dX12_turns_131 : decode cX12_turns 131 = .ok (.iload_n 2, 1) := by decide +kernel
theorem dX12_turns_132 : decode cX12_turns 132 = .ok (.invokevirtual 426, 3) := by decide +kernel
theorem dX12_turns_135 : decode cX12_turns 135 = .ok (.return_, 1) := by decide +kernel
theorem dX12_days_0 : decode cX12_days 0 = .ok (.iconst 0, 1) := by decide +kernel
theorem dX12_days_1 : decode cX12_days 1 = .ok (.istore_n 2, 1) := by decide +kernel
theorem dX12_days_2 : decode cX12_days 2 = .ok (.iload_n 2, 1) := by decide +kernel
theorem dX12_days_3 : decode cX12_days 3 = .ok (.iconst 4, 1) := by decide +kernel
theorem dX12_days_4 : decode cX12_days 4 = .ok (.if_icmp .ge 24, 3) := by decide +kernel
theorem dX12_days_7 : decode cX12_days 7 = .ok (.aload_n 0, 1) := by decide +kernel
theorem dX12_days_8 : decode cX12_days 8 = .ok (.getfield 168, 3) := by decide +kernel
theorem dX12_days_11 : decode cX12_days 11 = .ok (.iload_n 2, 1) := by decide +kernel
theorem dX12_days_12 : decode cX12_days 12 = .ok (.bipush 100, 2) := by decide +kernel
theorem dX12_days_14 : decode cX12_days 14 = .ok (.iastore, 1) := by decide +kernel
theorem dX12_days_15 : decode cX12_days 15 = .ok (.aload_n 0, 1) := by decide +kernel
theorem dX12_days_16 : decode cX12_days 16 = .ok (.getfield 174, 3) := by decide +kernel
theorem dX12_days_19 : decode cX12_days 19 = .ok (.iload_n 2, 1) := by decide +kernel
theorem dX12_days_20 : decode cX12_days 20 = .ok (.iconst (-1), 1) := by decide +kernel
theorem dX12_days_21 : decode cX12_days 21 = .ok (.iastore, 1) := by decide +kernel
theorem dX12_days_22 : decode cX12_days 22 = .ok (.iinc 2 1, 3) := by decide +kernel
theorem dX12_days_25 : decode cX12_days 25 = .ok (.goto (-23), 3) := by decide +kernel
theorem dX12_days_28 : decode cX12_days 28 = .ok (.iconst 0, 1) := by decide +kernel
theorem dX12_days_29 : decode cX12_days 29 = .ok (.istore_n 2, 1) := by decide +kernel
theorem dX12_days_30 : decode cX12_days 30 = .ok (.iload_n 2, 1) := by decide +kernel
theorem dX12_days_31 : decode cX12_days 31 = .ok (.iload_n 1, 1) := by decide +kernel
theorem dX12_days_32 : decode cX12_days 32 = .ok (.if_icmp .gt 31, 3) := by decide +kernel
theorem dX12_days_35 : decode cX12_days 35 = .ok (.iconst 0, 1) := by decide +kernel
theorem dX12_days_36 : decode cX12_days 36 = .ok (.istore_n 3, 1) := by decide +kernel
theorem dX12_days_37 : decode cX12_days 37 = .ok (.iload_n 3, 1) := by decide +kernel
theorem dX12_days_38 : decode cX12_days 38 = .ok (.aload_n 0, 1) := by decide +kernel
theorem dX12_days_39 : decode cX12_days 39 = .ok (.getfield 420, 3) := by decide +kernel
theorem dX12_days_42 : decode cX12_days 42 = .ok (.if_icmp .ge 15, 3) := by decide +kernel
theorem dX12_days_45 : decode cX12_days 45 = .ok (.aload_n 0, 1) := by decide +kernel
theorem dX12_days_46 : decode cX12_days 46 = .ok (.iload_n 3, 1) := by decide +kernel
theorem dX12_days_47 : decode cX12_days 47 = .ok (.iload_n 2, 1) := by decide +kernel
theorem dX12_days_48 : decode cX12_days 48 = .ok (.invokevirtual 430, 3) := by decide +kernel
theorem dX12_days_51 : decode cX12_days 51 = .ok (.iinc 3 1, 3) := by decide +kernel
theorem dX12_days_54 : decode cX12_days 54 = .ok (.goto (-17), 3) := by decide +kernel
theorem dX12_days_57 : decode cX12_days 57 = .ok (.iinc 2 1, 3) := by decide +kernel
theorem dX12_days_60 : decode cX12_days 60 = .ok (.goto (-30), 3) := by decide +kernel
theorem dX12_days_63 : decode cX12_days 63 = .ok (.return_, 1) := by decide +kernel
def f_X12_goesThrough (w : Wd) (a1 : Int32) (a2 : Int32) (a3 : Int32) (a4 : Int32) (a5 : Int32) : Option Int32 :=
q_ld w 64 80 ((4 : Int32) * a1) (fun v_9 =>
q_lt ((65 : Int32) * v_9) (fun v_11 =>
q_ld w 64 80 (((4 : Int32) * a1) + (1 : Int32)) (fun v_24 =>
q_lt ((65 : Int32) * v_24) (fun v_26 =>
q_ld w 64 80 (((4 : Int32) * a1) + (2 : Int32)) (fun v_39 =>
q_lt ((65 : Int32) * v_39) (fun v_41 =>
q_ld w 64 80 (((4 : Int32) * a1) + (3 : Int32)) (fun v_54 =>
q_lt ((65 : Int32) * v_54) (fun v_56 =>
q_jn (fun (s0_71 : Int32) =>
q_jn (fun (s0_86 : Int32) =>
q_jn (fun (s0_101 : Int32) =>
q_jn (fun (s0_116 : Int32) =>
if s0_86 ≤ v_11 then
some (0 : Int32)
else
if v_41 ≤ s0_71 then
some (0 : Int32)
else
if s0_116 ≤ v_26 then
some (0 : Int32)
else
if s0_101 < v_56 then
q_lt (f_X12_cross a4.toInt64 a5.toInt64 ((v_11 - a2).toInt64) ((v_26 - a3).toInt64)) (fun v_167 =>
q_lt (f_X12_cross a4.toInt64 a5.toInt64 ((v_41 - a2).toInt64) ((v_26 - a3).toInt64)) (fun v_188 =>
q_lt (f_X12_cross a4.toInt64 a5.toInt64 ((v_11 - a2).toInt64) ((v_56 - a3).toInt64)) (fun v_209 =>
q_lt (f_X12_cross a4.toInt64 a5.toInt64 ((v_41 - a2).toInt64) ((v_56 - a3).toInt64)) (fun v_230 =>
q_jn (fun (s0_265 : Int32) =>
q_jn (fun (s0_300 : Int32) =>
if s0_265 = 0 then
some (0 : Int32)
else
if s0_300 = 0 then
some (0 : Int32)
else
some (1 : Int32)) (fun j_300 =>
q_jn (j_300 (1 : Int32)) (fun j_295 =>
if (lg_cmp v_167 (0 : Int64)) < 0 then
j_295
else
if (lg_cmp v_188 (0 : Int64)) < 0 then
j_295
else
if (lg_cmp v_209 (0 : Int64)) < 0 then
j_295
else
if 0 ≤ (lg_cmp v_230 (0 : Int64)) then
j_300 (0 : Int32)
else
j_295))) (fun j_265 =>
q_jn (j_265 (1 : Int32)) (fun j_260 =>
if 0 < (lg_cmp v_167 (0 : Int64)) then
j_260
else
if 0 < (lg_cmp v_188 (0 : Int64)) then
j_260
else
if 0 < (lg_cmp v_209 (0 : Int64)) then
j_260
else
if (lg_cmp v_230 (0 : Int64)) ≤ 0 then
j_265 (0 : Int32)
else
j_260))))))
else
some (0 : Int32)) (fun j_116 =>
if 0 ≤ a5 then
j_116 (a3 + a5)
else
j_116 a3)) (fun j_101 =>
if 0 ≤ a5 then
j_101 a3
else
j_101 (a3 + a5))) (fun j_86 =>
if 0 ≤ a4 then
j_86 (a2 + a4)
else
j_86 a2)) (fun j_71 =>
if 0 ≤ a4 then
j_71 a2
else
j_71 (a2 + a4))))))))))
set_option maxRecDepth 100000 in
set_option maxHeartbeats 4000000 in
theorem c_X12_goesThrough (l : Launch) (D : va_G) (cT : Nat → ClassId) (lo : Nat) (w : Wd) (ad : Nat → Nat) (a1 : Int32) (a2 : Int32) (a3 : Int32) (a4 : Int32) (a5 : Int32) (r : Int32) (h : f_X12_goesThrough w a1 a2 a3 a4 a5 = some r) : Met l yX12_goesThrough (.code yX12_goesThrough cX12_goesThrough 24 (some .boolean) :: TW) { frames := 1, cells := 0, slots := 0, locals := 27 } (mPc D cT lo NB w ad [.ref (ad 63), .int a1, .int a2, .int a3, .int a4, .int a5]) (mQz D cT lo NB w w ad r) 0 0 (fun q => lo ≤ q) := by
  unfold f_X12_goesThrough at h
  refine x_met (lv := [(0, .ref (ad 63)), (1, .int a1), (2, .int a2), (3, .int a3), (4, .int a4), (5, .int a5)]) (by decide +kernel) (Nat.le_of_ble_eq_true rfl) rfl ?_
  intro p e s m args below meth c ls F hr hlk hP hin hl
  have hx := F.1
  have hb := F.2.1
  have hS : va_S (fun q => lo ≤ q) s.heap s.heap [] := va_S.rf
  refine lv_bipush (v := 65) hx hb dX12_goesThrough_0 ib_65 ?_
  refine lv_aload_n hx hb dX12_goesThrough_2 rfl (lv_at hl 0 rfl) ?_
  refine x_getr F hP k_63 (hP.al 63 rfl) fl_X12_7 rfl r_63_1 dX12_goesThrough_3 ?_
  refine lv_iconst (v := 4) hx hb dX12_goesThrough_6 ic_4 ?_
  refine lv_iload_n hx hb dX12_goesThrough_7 rfl (lv_at hl 1 rfl) ?_
  refine lv_imul hx hb dX12_goesThrough_8 ?_
  refine y_iald h F hP k_64 (n2 (hP.al 64 rfl)) dX12_goesThrough_9 (fun v_9 h => ?_)
  refine lv_imul hx hb dX12_goesThrough_10 ?_
  refine y_let h (fun v_11 h => ?_)
  refine lv_istore (lv' := [(6, .int v_11), (0, .ref (ad 63)), (1, .int a1), (2, .int a2), (3, .int a3), (4, .int a4), (5, .int a5)]) hx hb dX12_goesThrough_11 hl (Nat.le_of_ble_eq_true rfl) rfl (fun ls hl => ?_)
  refine lv_bipush (v := 65) hx hb dX12_goesThrough_13 ib_65 ?_
  refine lv_aload_n hx hb dX12_goesThrough_15 rfl (lv_at hl 1 rfl) ?_
  refine x_getr F hP k_63 (hP.al 63 rfl) fl_X12_7 rfl r_63_1 dX12_goesThrough_16 ?_
  refine lv_iconst (v := 4) hx hb dX12_goesThrough_19 ic_4 ?_
  refine lv_iload_n hx hb dX12_goesThrough_20 rfl (lv_at hl 2 rfl) ?_
  refine lv_imul hx hb dX12_goesThrough_21 ?_
  refine lv_iconst (v := 1) hx hb dX12_goesThrough_22 ic_1 ?_
  refine lv_iadd hx hb dX12_goesThrough_23 ?_
  refine y_iald h F hP k_64 (n2 (hP.al 64 rfl)) dX12_goesThrough_24 (fun v_24 h => ?_)
  refine lv_imul hx hb dX12_goesThrough_25 ?_
  refine y_let h (fun v_26 h => ?_)
  refine lv_istore (lv' := [(7, .int v_26), (6, .int v_11), (0, .ref (ad 63)), (1, .int a1), (2, .int a2), (3, .int a3), (4, .int a4), (5, .int a5)]) hx hb dX12_goesThrough_26 hl (Nat.le_of_ble_eq_true rfl) rfl (fun ls hl => ?_)
  refine lv_bipush (v := 65) hx hb dX12_goesThrough_28 ib_65 ?_
  refine lv_aload_n hx hb dX12_goesThrough_30 rfl (lv_at hl 2 rfl) ?_
  refine x_getr F hP k_63 (hP.al 63 rfl) fl_X12_7 rfl r_63_1 dX12_goesThrough_31 ?_
  refine lv_iconst (v := 4) hx hb dX12_goesThrough_34 ic_4 ?_
  refine lv_iload_n hx hb dX12_goesThrough_35 rfl (lv_at hl 3 rfl) ?_
  refine lv_imul hx hb dX12_goesThrough_36 ?_
  refine lv_iconst (v := 2) hx hb dX12_goesThrough_37 ic_2 ?_
  refine lv_iadd hx hb dX12_goesThrough_38 ?_
  refine y_iald h F hP k_64 (n2 (hP.al 64 rfl)) dX12_goesThrough_39 (fun v_39 h => ?_)
  refine lv_imul hx hb dX12_goesThrough_40 ?_
  refine y_let h (fun v_41 h => ?_)
  refine lv_istore (lv' := [(8, .int v_41), (7, .int v_26), (6, .int v_11), (0, .ref (ad 63)), (1, .int a1), (2, .int a2), (3, .int a3), (4, .int a4), (5, .int a5)]) hx hb dX12_goesThrough_41 hl (Nat.le_of_ble_eq_true rfl) rfl (fun ls hl => ?_)
  refine lv_bipush (v := 65) hx hb dX12_goesThrough_43 ib_65 ?_
  refine lv_aload_n hx hb dX12_goesThrough_45 rfl (lv_at hl 3 rfl) ?_
  refine x_getr F hP k_63 (hP.al 63 rfl) fl_X12_7 rfl r_63_1 dX12_goesThrough_46 ?_
  refine lv_iconst (v := 4) hx hb dX12_goesThrough_49 ic_4 ?_
  refine lv_iload_n hx hb dX12_goesThrough_50 rfl (lv_at hl 4 rfl) ?_
  refine lv_imul hx hb dX12_goesThrough_51 ?_
  refine lv_iconst (v := 3) hx hb dX12_goesThrough_52 ic_3 ?_
  refine lv_iadd hx hb dX12_goesThrough_53 ?_
  refine y_iald h F hP k_64 (n2 (hP.al 64 rfl)) dX12_goesThrough_54 (fun v_54 h => ?_)
  refine lv_imul hx hb dX12_goesThrough_55 ?_
  refine y_let h (fun v_56 h => ?_)
  refine lv_istore (lv' := [(9, .int v_56), (8, .int v_41), (7, .int v_26), (6, .int v_11), (0, .ref (ad 63)), (1, .int a1), (2, .int a2), (3, .int a3), (4, .int a4), (5, .int a5)]) hx hb dX12_goesThrough_56 hl (Nat.le_of_ble_eq_true rfl) rfl (fun ls hl => ?_)
  refine lv_iload hx hb dX12_goesThrough_58 (lv_at hl 8 rfl) ?_
  refine jn_use (fun (j_71 : Int32 → Option Int32) => ∀ (s0_71 : Int32), j_71 s0_71 = some r → GG p l e { frames := 1, cells := 0, slots := 0, locals := 27 } s m args below meth c 0 0 (MQ below (mQz D cT lo NB w w ad r) args s 0 0 (fun q => lo ≤ q)) D cT lo NB 24 ad w 71 [(9, .int v_56), (8, .int v_41), (7, .int v_26), (6, .int v_11), (2, .int a2), (3, .int a3), (4, .int a4), (5, .int a5)] [.int s0_71]) h (fun s0_71 h H locs ls hP hS hl => ?_) (fun j_71 J_71 h => ?_)
  · refine lv_istore (lv' := [(10, .int s0_71), (9, .int v_56), (8, .int v_41), (7, .int v_26), (6, .int v_11), (2, .int a2), (3, .int a3), (4, .int a4), (5, .int a5)]) hx hb dX12_goesThrough_71 hl (Nat.le_of_ble_eq_true rfl) rfl (fun ls hl => ?_)
    refine lv_iload hx hb dX12_goesThrough_73 (lv_at hl 7 rfl) ?_
    refine jn_use (fun (j_86 : Int32 → Option Int32) => ∀ (s0_86 : Int32), j_86 s0_86 = some r → GG p l e { frames := 1, cells := 0, slots := 0, locals := 27 } s m args below meth c 0 0 (MQ below (mQz D cT lo NB w w ad r) args s 0 0 (fun q => lo ≤ q)) D cT lo NB 24 ad w 86 [(10, .int s0_71), (9, .int v_56), (8, .int v_41), (7, .int v_26), (6, .int v_11), (2, .int a2), (3, .int a3), (4, .int a4), (5, .int a5)] [.int s0_86]) h (fun s0_86 h H locs ls hP hS hl => ?_) (fun j_86 J_86 h => ?_)
    · refine lv_istore (lv' := [(11, .int s0_86), (10, .int s0_71), (9, .int v_56), (8, .int v_41), (7, .int v_26), (6, .int v_11), (2, .int a2), (3, .int a3), (4, .int a4), (5, .int a5)]) hx hb dX12_goesThrough_86 hl (Nat.le_of_ble_eq_true rfl) rfl (fun ls hl => ?_)
      refine lv_iload hx hb dX12_goesThrough_88 (lv_at hl 9 rfl) ?_
      refine jn_use (fun (j_101 : Int32 → Option Int32) => ∀ (s0_101 : Int32), j_101 s0_101 = some r → GG p l e { frames := 1, cells := 0, slots := 0, locals := 27 } s m args below meth c 0 0 (MQ below (mQz D cT lo NB w w ad r) args s 0 0 (fun q => lo ≤ q)) D cT lo NB 24 ad w 101 [(11, .int s0_86), (10, .int s0_71), (9, .int v_56), (8, .int v_41), (7, .int v_26), (6, .int v_11), (2, .int a2), (3, .int a3), (4, .int a4), (5, .int a5)] [.int s0_101]) h (fun s0_101 h H locs ls hP hS hl => ?_) (fun j_101 J_101 h => ?_)
      · refine lv_istore (lv' := [(12, .int s0_101), (11, .int s0_86), (10, .int s0_71), (9, .int v_56), (8, .int v_41), (7, .int v_26), (6, .int v_11), (2, .int a2), (3, .int a3), (4, .int a4), (5, .int a5)]) hx hb dX12_goesThrough_101 hl (Nat.le_of_ble_eq_true rfl) rfl (fun ls hl => ?_)
        refine lv_iload hx hb dX12_goesThrough_103 (lv_at hl 10 rfl) ?_
        refine jn_use (fun (j_116 : Int32 → Option Int32) => ∀ (s0_116 : Int32), j_116 s0_116 = some r → GG p l e { frames := 1, cells := 0, slots := 0, locals := 27 } s m args below meth c 0 0 (MQ below (mQz D cT lo NB w w ad r) args s 0 0 (fun q => lo ≤ q)) D cT lo NB 24 ad w 116 [(12, .int s0_101), (11, .int s0_86), (10, .int s0_71), (9, .int v_56), (8, .int v_41), (7, .int v_26), (6, .int v_11), (2, .int a2), (3, .int a3), (4, .int a4), (5, .int a5)] [.int s0_116]) h (fun s0_116 h H locs ls hP hS hl => ?_) (fun j_116 J_116 h => ?_)
        · refine lv_istore (lv' := [(13, .int s0_116), (12, .int s0_101), (11, .int s0_86), (10, .int s0_71), (9, .int v_56), (8, .int v_41), (7, .int v_26), (6, .int v_11), (2, .int a2), (3, .int a3), (4, .int a4), (5, .int a5)]) hx hb dX12_goesThrough_116 hl (Nat.le_of_ble_eq_true rfl) rfl (fun ls hl => ?_)
          refine lv_iload hx hb dX12_goesThrough_118 (lv_at hl 2 rfl) ?_
          refine lv_iload hx hb dX12_goesThrough_120 (lv_at hl 7 rfl) ?_
          refine lv_icmp_le (tgt := 146) hx hb dX12_goesThrough_122 (by decide) (fun hc => ?_) (fun hc => ?_)
          · have h := if_t _ hc h
            refine lv_iconst (v := 0) hx hb dX12_goesThrough_146 ic_0 ?_
            exact y_zretO h F hr hP hS hlk rfl dX12_goesThrough_147
          · have h := if_f _ hc h
            refine lv_iload hx hb dX12_goesThrough_125 (lv_at hl 3 rfl) ?_
            refine lv_iload hx hb dX12_goesThrough_127 (lv_at hl 5 rfl) ?_
            refine lv_icmp_ge (tgt := 146) hx hb dX12_goesThrough_129 (by decide) (fun hc => ?_) (fun hc => ?_)
            · have h := if_t _ hc h
              refine lv_iconst (v := 0) hx hb dX12_goesThrough_146 ic_0 ?_
              exact y_zretO h F hr hP hS hlk rfl dX12_goesThrough_147
            · have h := if_f _ hc h
              refine lv_iload hx hb dX12_goesThrough_132 (lv_at hl 0 rfl) ?_
              refine lv_iload hx hb dX12_goesThrough_134 (lv_at hl 6 rfl) ?_
              refine lv_icmp_le (tgt := 146) hx hb dX12_goesThrough_136 (by decide) (fun hc => ?_) (fun hc => ?_)
              · have h := if_t _ hc h
                refine lv_iconst (v := 0) hx hb dX12_goesThrough_146 ic_0 ?_
                exact y_zretO h F hr hP hS hlk rfl dX12_goesThrough_147
              · have h := if_f _ hc h
                refine lv_iload hx hb dX12_goesThrough_139 (lv_at hl 1 rfl) ?_
                refine lv_iload hx hb dX12_goesThrough_141 (lv_at hl 4 rfl) ?_
                refine lv_icmp_lt (tgt := 148) hx hb dX12_goesThrough_143 (by decide) (fun hc => ?_) (fun hc => ?_)
                · have h := if_t _ hc h
                  refine lv_iload hx hb dX12_goesThrough_148 (lv_at hl 10 rfl) ?_
                  refine lv_i2l hx hb dX12_goesThrough_150 rfl ?_
                  refine lv_iload hx hb dX12_goesThrough_151 (lv_at hl 11 rfl) ?_
                  refine lv_i2l hx hb dX12_goesThrough_153 rfl ?_
                  refine lv_iload hx hb dX12_goesThrough_154 (lv_at hl 7 rfl) ?_
                  refine lv_iload_n hx hb dX12_goesThrough_156 rfl (lv_at hl 8 rfl) ?_
                  refine lv_isub hx hb dX12_goesThrough_157 ?_
                  refine lv_i2l hx hb dX12_goesThrough_158 rfl ?_
                  refine lv_iload hx hb dX12_goesThrough_159 (lv_at hl 6 rfl) ?_
                  refine lv_iload_n hx hb dX12_goesThrough_161 rfl (lv_at hl 9 rfl) ?_
                  refine lv_isub hx hb dX12_goesThrough_162 ?_
                  refine lv_i2l hx hb dX12_goesThrough_163 rfl ?_
                  refine x_goes (x_runS (As := [.long a4.toInt64, .long a5.toInt64, .long ((v_11 - a2).toInt64), .long ((v_26 - a3).toInt64)]) (rest := []) F hP hS (c_X12_cross l D cT lo NB w ad a4.toInt64 a5.toInt64 ((v_11 - a2).toInt64) ((v_26 - a3).toInt64)) cw_X12_cross lk_X12_362 st_X12_cross ⟨rfl, rfl, Nat.le_of_ble_eq_true rfl, Nat.le_of_ble_eq_true rfl⟩ hl.1 rfl (Nat.le_of_ble_eq_true rfl) dX12_goesThrough_164 ⟨Nat.zero_le _, Nat.zero_le _⟩) hS (fun H locs hP hS _ => ?_)
                  refine y_letl h (fun v_167 h => ?_)
                  refine lv_lstore (lv' := [(14, .long v_167), (13, .int s0_116), (12, .int s0_101), (11, .int s0_86), (10, .int s0_71), (9, .int v_56), (8, .int v_41), (7, .int v_26), (6, .int v_11), (2, .int a2), (3, .int a3), (4, .int a4), (5, .int a5)]) hx hb dX12_goesThrough_167 hl (Nat.le_of_ble_eq_true rfl) rfl (fun ls hl => ?_)
                  refine lv_iload hx hb dX12_goesThrough_169 (lv_at hl 11 rfl) ?_
                  refine lv_i2l hx hb dX12_goesThrough_171 rfl ?_
                  refine lv_iload hx hb dX12_goesThrough_172 (lv_at hl 12 rfl) ?_
                  refine lv_i2l hx hb dX12_goesThrough_174 rfl ?_
                  refine lv_iload hx hb dX12_goesThrough_175 (lv_at hl 6 rfl) ?_
                  refine lv_iload_n hx hb dX12_goesThrough_177 rfl (lv_at hl 9 rfl) ?_
                  refine lv_isub hx hb dX12_goesThrough_178 ?_
                  refine lv_i2l hx hb dX12_goesThrough_179 rfl ?_
                  refine lv_iload hx hb dX12_goesThrough_180 (lv_at hl 7 rfl) ?_
                  refine lv_iload_n hx hb dX12_goesThrough_182 rfl (lv_at hl 10 rfl) ?_
                  refine lv_isub hx hb dX12_goesThrough_183 ?_
                  refine lv_i2l hx hb dX12_goesThrough_184 rfl ?_
                  refine x_goes (x_runS (As := [.long a4.toInt64, .long a5.toInt64, .long ((v_41 - a2).toInt64), .long ((v_26 - a3).toInt64)]) (rest := []) F hP hS (c_X12_cross l D cT lo NB w ad a4.toInt64 a5.toInt64 ((v_41 - a2).toInt64) ((v_26 - a3).toInt64)) cw_X12_cross lk_X12_362 st_X12_cross ⟨rfl, rfl, Nat.le_of_ble_eq_true rfl, Nat.le_of_ble_eq_true rfl⟩ hl.1 rfl (Nat.le_of_ble_eq_true rfl) dX12_goesThrough_185 ⟨Nat.zero_le _, Nat.zero_le _⟩) hS (fun H locs hP hS _ => ?_)
                  refine y_letl h (fun v_188 h => ?_)
                  refine lv_lstore (lv' := [(16, .long v_188), (14, .long v_167), (13, .int s0_116), (12, .int s0_101), (11, .int s0_86), (10, .int s0_71), (9, .int v_56), (8, .int v_41), (7, .int v_26), (6, .int v_11), (2, .int a2), (3, .int a3), (4, .int a4), (5, .int a5)]) hx hb dX12_goesThrough_188 hl (Nat.le_of_ble_eq_true rfl) rfl (fun ls hl => ?_)
                  refine lv_iload hx hb dX12_goesThrough_190 (lv_at hl 12 rfl) ?_
                  refine lv_i2l hx hb dX12_goesThrough_192 rfl ?_
                  refine lv_iload hx hb dX12_goesThrough_193 (lv_at hl 13 rfl) ?_
                  refine lv_i2l hx hb dX12_goesThrough_195 rfl ?_
                  refine lv_iload hx hb dX12_goesThrough_196 (lv_at hl 9 rfl) ?_
                  refine lv_iload_n hx hb dX12_goesThrough_198 rfl (lv_at hl 10 rfl) ?_
                  refine lv_isub hx hb dX12_goesThrough_199 ?_
                  refine lv_i2l hx hb dX12_goesThrough_200 rfl ?_
                  refine lv_iload hx hb dX12_goesThrough_201 (lv_at hl 6 rfl) ?_
                  refine lv_iload_n hx hb dX12_goesThrough_203 rfl (lv_at hl 11 rfl) ?_
                  refine lv_isub hx hb dX12_goesThrough_204 ?_
                  refine lv_i2l hx hb dX12_goesThrough_205 rfl ?_
                  refine x_goes (x_runS (As := [.long a4.toInt64, .long a5.toInt64, .long ((v_11 - a2).toInt64), .long ((v_56 - a3).toInt64)]) (rest := []) F hP hS (c_X12_cross l D cT lo NB w ad a4.toInt64 a5.toInt64 ((v_11 - a2).toInt64) ((v_56 - a3).toInt64)) cw_X12_cross lk_X12_362 st_X12_cross ⟨rfl, rfl, Nat.le_of_ble_eq_true rfl, Nat.le_of_ble_eq_true rfl⟩ hl.1 rfl (Nat.le_of_ble_eq_true rfl) dX12_goesThrough_206 ⟨Nat.zero_le _, Nat.zero_le _⟩) hS (fun H locs hP hS _ => ?_)
                  refine y_letl h (fun v_209 h => ?_)
                  refine lv_lstore (lv' := [(18, .long v_209), (16, .long v_188), (14, .long v_167), (13, .int s0_116), (12, .int s0_101), (11, .int s0_86), (10, .int s0_71), (9, .int v_56), (8, .int v_41), (7, .int v_26), (6, .int v_11), (2, .int a2), (3, .int a3), (4, .int a4), (5, .int a5)]) hx hb dX12_goesThrough_209 hl (Nat.le_of_ble_eq_true rfl) rfl (fun ls hl => ?_)
                  refine lv_iload hx hb dX12_goesThrough_211 (lv_at hl 13 rfl) ?_
                  refine lv_i2l hx hb dX12_goesThrough_213 rfl ?_
                  refine lv_iload hx hb dX12_goesThrough_214 (lv_at hl 14 rfl) ?_
                  refine lv_i2l hx hb dX12_goesThrough_216 rfl ?_
                  refine lv_iload hx hb dX12_goesThrough_217 (lv_at hl 8 rfl) ?_
                  refine lv_iload_n hx hb dX12_goesThrough_219 rfl (lv_at hl 11 rfl) ?_
                  refine lv_isub hx hb dX12_goesThrough_220 ?_
                  refine lv_i2l hx hb dX12_goesThrough_221 rfl ?_
                  refine lv_iload hx hb dX12_goesThrough_222 (lv_at hl 7 rfl) ?_
                  refine lv_iload_n hx hb dX12_goesThrough_224 rfl (lv_at hl 12 rfl) ?_
                  refine lv_isub hx hb dX12_goesThrough_225 ?_
                  refine lv_i2l hx hb dX12_goesThrough_226 rfl ?_
                  refine x_goes (x_runS (As := [.long a4.toInt64, .long a5.toInt64, .long ((v_41 - a2).toInt64), .long ((v_56 - a3).toInt64)]) (rest := []) F hP hS (c_X12_cross l D cT lo NB w ad a4.toInt64 a5.toInt64 ((v_41 - a2).toInt64) ((v_56 - a3).toInt64)) cw_X12_cross lk_X12_362 st_X12_cross ⟨rfl, rfl, Nat.le_of_ble_eq_true rfl, Nat.le_of_ble_eq_true rfl⟩ hl.1 rfl (Nat.le_of_ble_eq_true rfl) dX12_goesThrough_227 ⟨Nat.zero_le _, Nat.zero_le _⟩) hS (fun H locs hP hS _ => ?_)
                  refine y_letl h (fun v_230 h => ?_)
                  refine lv_lstore (lv' := [(20, .long v_230), (18, .long v_209), (16, .long v_188), (14, .long v_167), (13, .int s0_116), (12, .int s0_101), (11, .int s0_86), (10, .int s0_71), (9, .int v_56), (8, .int v_41), (7, .int v_26), (6, .int v_11), (2, .int a2), (3, .int a3), (4, .int a4), (5, .int a5)]) hx hb dX12_goesThrough_230 hl (Nat.le_of_ble_eq_true rfl) rfl (fun ls hl => ?_)
                  refine lv_lload hx hb dX12_goesThrough_232 (lv_at hl 3 rfl) ?_
                  refine lv_lconst (v := 0) hx hb dX12_goesThrough_234 (by decide) ?_
                  refine W.lcmp hx hb dX12_goesThrough_235 ?_
                  refine jn_use (fun (j_265 : Int32 → Option Int32) => ∀ (s0_265 : Int32), j_265 s0_265 = some r → GG p l e { frames := 1, cells := 0, slots := 0, locals := 27 } s m args below meth c 0 0 (MQ below (mQz D cT lo NB w w ad r) args s 0 0 (fun q => lo ≤ q)) D cT lo NB 24 ad w 265 [(20, .long v_230), (18, .long v_209), (16, .long v_188), (14, .long v_167)] [.int s0_265]) h (fun s0_265 h H locs ls hP hS hl => ?_) (fun j_265 J_265 h => ?_)
                  · refine lv_istore (lv' := [(22, .int s0_265), (20, .long v_230), (18, .long v_209), (16, .long v_188), (14, .long v_167)]) hx hb dX12_goesThrough_265 hl (Nat.le_of_ble_eq_true rfl) rfl (fun ls hl => ?_)
                    refine lv_lload hx hb dX12_goesThrough_267 (lv_at hl 4 rfl) ?_
                    refine lv_lconst (v := 0) hx hb dX12_goesThrough_269 (by decide) ?_
                    refine W.lcmp hx hb dX12_goesThrough_270 ?_
                    refine jn_use (fun (j_300 : Int32 → Option Int32) => ∀ (s0_300 : Int32), j_300 s0_300 = some r → GG p l e { frames := 1, cells := 0, slots := 0, locals := 27 } s m args below meth c 0 0 (MQ below (mQz D cT lo NB w w ad r) args s 0 0 (fun q => lo ≤ q)) D cT lo NB 24 ad w 300 [(22, .int s0_265)] [.int s0_300]) h (fun s0_300 h H locs ls hP hS hl => ?_) (fun j_300 J_300 h => ?_)
                    · refine lv_istore (lv' := [(23, .int s0_300), (22, .int s0_265)]) hx hb dX12_goesThrough_300 hl (Nat.le_of_ble_eq_true rfl) rfl (fun ls hl => ?_)
                      refine lv_iload hx hb dX12_goesThrough_302 (lv_at hl 1 rfl) ?_
                      refine lv_if_eq (tgt := 316) hx hb dX12_goesThrough_304 (by decide) (fun hc => ?_) (fun hc => ?_)
                      · have h := if_t _ hc h
                        refine lv_iconst (v := 0) hx hb dX12_goesThrough_316 ic_0 ?_
                        exact y_zretO h F hr hP hS hlk rfl dX12_goesThrough_317
                      · have h := if_f _ hc h
                        refine lv_iload hx hb dX12_goesThrough_307 (lv_at hl 0 rfl) ?_
                        refine lv_if_eq (tgt := 316) hx hb dX12_goesThrough_309 (by decide) (fun hc => ?_) (fun hc => ?_)
                        · have h := if_t _ hc h
                          refine lv_iconst (v := 0) hx hb dX12_goesThrough_316 ic_0 ?_
                          exact y_zretO h F hr hP hS hlk rfl dX12_goesThrough_317
                        · have h := if_f _ hc h
                          refine lv_iconst (v := 1) hx hb dX12_goesThrough_312 ic_1 ?_
                          refine lv_goto (tgt := 317) hx hb dX12_goesThrough_313 (by decide) ?_
                          exact y_zretO h F hr hP hS hlk rfl dX12_goesThrough_317
                    · refine jn_use (fun (j_295 : Option Int32) => j_295 = some r → GG p l e { frames := 1, cells := 0, slots := 0, locals := 27 } s m args below meth c 0 0 (MQ below (mQz D cT lo NB w w ad r) args s 0 0 (fun q => lo ≤ q)) D cT lo NB 24 ad w 295 [(22, .int s0_265)] []) h (fun h H locs ls hP hS hl => ?_) (fun j_295 J_295 h => ?_)
                      · refine lv_iconst (v := 1) hx hb dX12_goesThrough_295 ic_1 ?_
                        refine lv_goto (tgt := 300) hx hb dX12_goesThrough_296 (by decide) ?_
                        exact J_300 (1 : Int32) h _ _ _ hP hS (lv_sub hl [0] rfl)
                      · refine lv_if_lt (tgt := 295) hx hb dX12_goesThrough_271 (by decide) (fun hc => ?_) (fun hc => ?_)
                        · have h := if_t _ hc h
                          exact J_295  h _ _ _ hP hS (lv_sub hl [0] rfl)
                        · have h := if_f _ hc h
                          refine lv_lload hx hb dX12_goesThrough_274 (lv_at hl 3 rfl) ?_
                          refine lv_lconst (v := 0) hx hb dX12_goesThrough_276 (by decide) ?_
                          refine W.lcmp hx hb dX12_goesThrough_277 ?_
                          refine lv_if_lt (tgt := 295) hx hb dX12_goesThrough_278 (by decide) (fun hc => ?_) (fun hc => ?_)
                          · have h := if_t _ hc h
                            exact J_295  h _ _ _ hP hS (lv_sub hl [0] rfl)
                          · have h := if_f _ hc h
                            refine lv_lload hx hb dX12_goesThrough_281 (lv_at hl 2 rfl) ?_
                            refine lv_lconst (v := 0) hx hb dX12_goesThrough_283 (by decide) ?_
                            refine W.lcmp hx hb dX12_goesThrough_284 ?_
                            refine lv_if_lt (tgt := 295) hx hb dX12_goesThrough_285 (by decide) (fun hc => ?_) (fun hc => ?_)
                            · have h := if_t _ hc h
                              exact J_295  h _ _ _ hP hS (lv_sub hl [0] rfl)
                            · have h := if_f _ hc h
                              refine lv_lload hx hb dX12_goesThrough_288 (lv_at hl 1 rfl) ?_
                              refine lv_lconst (v := 0) hx hb dX12_goesThrough_290 (by decide) ?_
                              refine W.lcmp hx hb dX12_goesThrough_291 ?_
                              refine lv_if_ge (tgt := 299) hx hb dX12_goesThrough_292 (by decide) (fun hc => ?_) (fun hc => ?_)
                              · have h := if_t _ hc h
                                refine lv_iconst (v := 0) hx hb dX12_goesThrough_299 ic_0 ?_
                                exact J_300 (0 : Int32) h _ _ _ hP hS (lv_sub hl [0] rfl)
                              · have h := if_f _ hc h
                                exact J_295  h _ _ _ hP hS (lv_sub hl [0] rfl)
                  · refine jn_use (fun (j_260 : Option Int32) => j_260 = some r → GG p l e { frames := 1, cells := 0, slots := 0, locals := 27 } s m args below meth c 0 0 (MQ below (mQz D cT lo NB w w ad r) args s 0 0 (fun q => lo ≤ q)) D cT lo NB 24 ad w 260 [(20, .long v_230), (18, .long v_209), (16, .long v_188), (14, .long v_167)] []) h (fun h H locs ls hP hS hl => ?_) (fun j_260 J_260 h => ?_)
                    · refine lv_iconst (v := 1) hx hb dX12_goesThrough_260 ic_1 ?_
                      refine lv_goto (tgt := 265) hx hb dX12_goesThrough_261 (by decide) ?_
                      exact J_265 (1 : Int32) h _ _ _ hP hS (lv_sub hl [0, 1, 2, 3] rfl)
                    · refine lv_if_gt (tgt := 260) hx hb dX12_goesThrough_236 (by decide) (fun hc => ?_) (fun hc => ?_)
                      · have h := if_t _ hc h
                        exact J_260  h _ _ _ hP hS (lv_sub hl [0, 1, 2, 3] rfl)
                      · have h := if_f _ hc h
                        refine lv_lload hx hb dX12_goesThrough_239 (lv_at hl 2 rfl) ?_
                        refine lv_lconst (v := 0) hx hb dX12_goesThrough_241 (by decide) ?_
                        refine W.lcmp hx hb dX12_goesThrough_242 ?_
                        refine lv_if_gt (tgt := 260) hx hb dX12_goesThrough_243 (by decide) (fun hc => ?_) (fun hc => ?_)
                        · have h := if_t _ hc h
                          exact J_260  h _ _ _ hP hS (lv_sub hl [0, 1, 2, 3] rfl)
                        · have h := if_f _ hc h
                          refine lv_lload hx hb dX12_goesThrough_246 (lv_at hl 1 rfl) ?_
                          refine lv_lconst (v := 0) hx hb dX12_goesThrough_248 (by decide) ?_
                          refine W.lcmp hx hb dX12_goesThrough_249 ?_
                          refine lv_if_gt (tgt := 260) hx hb dX12_goesThrough_250 (by decide) (fun hc => ?_) (fun hc => ?_)
                          · have h := if_t _ hc h
                            exact J_260  h _ _ _ hP hS (lv_sub hl [0, 1, 2, 3] rfl)
                          · have h := if_f _ hc h
                            refine lv_lload hx hb dX12_goesThrough_253 (lv_at hl 0 rfl) ?_
                            refine lv_lconst (v := 0) hx hb dX12_goesThrough_255 (by decide) ?_
                            refine W.lcmp hx hb dX12_goesThrough_256 ?_
                            refine lv_if_le (tgt := 264) hx hb dX12_goesThrough_257 (by decide) (fun hc => ?_) (fun hc => ?_)
                            · have h := if_t _ hc h
                              refine lv_iconst (v := 0) hx hb dX12_goesThrough_264 ic_0 ?_
                              exact J_265 (0 : Int32) h _ _ _ hP hS (lv_sub hl [0, 1, 2, 3] rfl)
                            · have h := if_f _ hc h
                              exact J_260  h _ _ _ hP hS (lv_sub hl [0, 1, 2, 3] rfl)
                · have h := if_f _ hc h
                  refine lv_iconst (v := 0) hx hb dX12_goesThrough_146 ic_0 ?_
                  exact y_zretO h F hr hP hS hlk rfl dX12_goesThrough_147
        · refine lv_if_ge (tgt := 112) hx hb dX12_goesThrough_105 (by decide) (fun hc => ?_) (fun hc => ?_)
          · have h := if_t _ hc h
            refine lv_iload_n hx hb dX12_goesThrough_112 rfl (lv_at hl 8 rfl) ?_
            refine lv_iload hx hb dX12_goesThrough_113 (lv_at hl 10 rfl) ?_
            refine lv_iadd hx hb dX12_goesThrough_115 ?_
            exact J_116 (a3 + a5) h _ _ _ hP hS (lv_sub hl [0, 1, 2, 3, 4, 5, 6, 7, 8, 9, 10] rfl)
          · have h := if_f _ hc h
            refine lv_iload_n hx hb dX12_goesThrough_108 rfl (lv_at hl 8 rfl) ?_
            refine lv_goto (tgt := 116) hx hb dX12_goesThrough_109 (by decide) ?_
            exact J_116 a3 h _ _ _ hP hS (lv_sub hl [0, 1, 2, 3, 4, 5, 6, 7, 8, 9, 10] rfl)
      · refine lv_if_ge (tgt := 100) hx hb dX12_goesThrough_90 (by decide) (fun hc => ?_) (fun hc => ?_)
        · have h := if_t _ hc h
          refine lv_iload_n hx hb dX12_goesThrough_100 rfl (lv_at hl 7 rfl) ?_
          exact J_101 a3 h _ _ _ hP hS (lv_sub hl [0, 1, 2, 3, 4, 5, 6, 7, 8, 9] rfl)
        · have h := if_f _ hc h
          refine lv_iload_n hx hb dX12_goesThrough_93 rfl (lv_at hl 7 rfl) ?_
          refine lv_iload hx hb dX12_goesThrough_94 (lv_at hl 9 rfl) ?_
          refine lv_iadd hx hb dX12_goesThrough_96 ?_
          refine lv_goto (tgt := 101) hx hb dX12_goesThrough_97 (by decide) ?_
          exact J_101 (a3 + a5) h _ _ _ hP hS (lv_sub hl [0, 1, 2, 3, 4, 5, 6, 7, 8, 9] rfl)
    · refine lv_if_ge (tgt := 82) hx hb dX12_goesThrough_75 (by decide) (fun hc => ?_) (fun hc => ?_)
      · have h := if_t _ hc h
        refine lv_iload_n hx hb dX12_goesThrough_82 rfl (lv_at hl 5 rfl) ?_
        refine lv_iload hx hb dX12_goesThrough_83 (lv_at hl 7 rfl) ?_
        refine lv_iadd hx hb dX12_goesThrough_85 ?_
        exact J_86 (a2 + a4) h _ _ _ hP hS (lv_sub hl [0, 1, 2, 3, 4, 5, 6, 7, 8] rfl)
      · have h := if_f _ hc h
        refine lv_iload_n hx hb dX12_goesThrough_78 rfl (lv_at hl 5 rfl) ?_
        refine lv_goto (tgt := 86) hx hb dX12_goesThrough_79 (by decide) ?_
        exact J_86 a2 h _ _ _ hP hS (lv_sub hl [0, 1, 2, 3, 4, 5, 6, 7, 8] rfl)
  · refine lv_if_ge (tgt := 70) hx hb dX12_goesThrough_60 (by decide) (fun hc => ?_) (fun hc => ?_)
    · have h := if_t _ hc h
      refine lv_iload_n hx hb dX12_goesThrough_70 rfl (lv_at hl 6 rfl) ?_
      exact J_71 a2 h _ _ _ hP hS (lv_sub hl [0, 1, 2, 3, 6, 7, 8, 9] rfl)
    · have h := if_f _ hc h
      refine lv_iload_n hx hb dX12_goesThrough_63 rfl (lv_at hl 6 rfl) ?_
      refine lv_iload hx hb dX12_goesThrough_64 (lv_at hl 8 rfl) ?_
      refine lv_iadd hx hb dX12_goesThrough_66 ?_
      refine lv_goto (tgt := 71) hx hb dX12_goesThrough_67 (by decide) ?_
      exact J_71 (a2 + a4) h _ _ _ hP hS (lv_sub hl [0, 1, 2, 3, 6, 7, 8, 9] rfl)
def l_X12_ropeIs_50 (a1 : Int32) (a2 : Int32) (w : Wd) (v_3 : Int32) (v_22 : Int32) (v_42 : Int32) (j_114 : Option Int32) (j_102 : Int32 → Option Int32) : Nat → Int32 → Option Int32
  | 0, _ => none
  | n_50 + 1, x6_50l =>
    q_gt w 63 0 (fun v_53 =>
    if v_53 ≤ x6_50l then
    j_114
    else
    q_ld w 98 16 (((4 : Int32) * a1) + a2) (fun v_75 =>
    q_ld w 98 16 (((4 : Int32) * a1) + a2) (fun v_90 =>
    q_bo (f_X12_goesThrough w x6_50l v_22 v_42 (v_75 * (f_X12_along v_3)) (v_90 * (f_X12_across v_3))) (fun v_96 =>
    if v_96 = 0 then
    q_lt (x6_50l + (1 : Int32)) (fun v_108 =>
    l_X12_ropeIs_50 a1 a2 w v_3 v_22 v_42 j_114 j_102 n_50 v_108)
    else
    j_102 x6_50l))))
def f_X12_ropeIs (w : Wd) (a1 : Int32) (a2 : Int32) : Option Int32 :=
q_bo (f_X12_ropeHeading w a1 a2) (fun v_3 =>
q_ld w 85 4 a1 (fun v_15 =>
q_ld w 87 4 a1 (fun v_21 =>
q_bo (f_X12_wheelX w a1 a2 v_15 v_21) (fun v_22 =>
q_ld w 86 4 a1 (fun v_35 =>
q_ld w 87 4 a1 (fun v_41 =>
q_bo (f_X12_wheelY w a1 a2 v_35 v_41) (fun v_42 =>
q_jn (q_ld w 97 16 (((4 : Int32) * a1) + a2) (fun v_123 =>
if (10 : Int32) ≤ v_123 then
some (0 : Int32)
else
some (1 : Int32))) (fun j_114 =>
q_jn (fun (x6_102 : Int32) =>
some ((100 : Int32) + x6_102)) (fun j_102 =>
l_X12_ropeIs_50 a1 a2 w v_3 v_22 v_42 j_114 j_102 FU (0 : Int32))))))))))
set_option maxRecDepth 100000 in
set_option maxHeartbeats 4000000 in
theorem c_X12_ropeIs (l : Launch) (D : va_G) (cT : Nat → ClassId) (lo : Nat) (w : Wd) (ad : Nat → Nat) (a1 : Int32) (a2 : Int32) (r : Int32) (h : f_X12_ropeIs w a1 a2 = some r) : Met l yX12_ropeIs (.code yX12_ropeIs cX12_ropeIs 7 (some .int) :: TW) { frames := 4, cells := 0, slots := 0, locals := 86 } (mPc D cT lo NB w ad [.ref (ad 63), .int a1, .int a2]) (mQ D cT lo NB w w ad (some (.int r))) 0 0 (fun q => lo ≤ q) := by
  unfold f_X12_ropeIs at h
  refine x_met (lv := [(0, .ref (ad 63)), (1, .int a1), (2, .int a2)]) (by decide +kernel) (Nat.le_of_ble_eq_true rfl) rfl ?_
  intro p e s m args below meth c ls F hr hlk hP hin hl
  have hx := F.1
  have hb := F.2.1
  have hS : va_S (fun q => lo ≤ q) s.heap s.heap [] := va_S.rf
  refine lv_aload_n hx hb dX12_ropeIs_0 rfl (lv_at hl 0 rfl) ?_
  refine lv_iload_n hx hb dX12_ropeIs_1 rfl (lv_at hl 1 rfl) ?_
  refine lv_iload_n hx hb dX12_ropeIs_2 rfl (lv_at hl 2 rfl) ?_
  obtain ⟨v_3, hc_3, h⟩ := bo_s h
  refine x_goes (x_runV (As := [.int a1, .int a2]) (rest := []) F hP hS (c_X12_ropeHeading l D cT lo w ad a1 a2 v_3 hc_3) cw_X12_ropeHeading lk_X12_366 vi_X12_ropeHeading k_63 (n2 (hP.al 63 rfl)) rfl ⟨rfl, rfl, Nat.le_of_ble_eq_true rfl, Nat.le_of_ble_eq_true rfl⟩ hl.1 rfl (Nat.le_of_ble_eq_true rfl) dX12_ropeIs_3 ⟨Nat.zero_le _, Nat.zero_le _⟩) hS (fun H locs hP hS _ => ?_)
  refine lv_istore_n (lv' := [(3, .int v_3), (0, .ref (ad 63)), (1, .int a1), (2, .int a2)]) hx hb dX12_ropeIs_6 rfl hl (Nat.le_of_ble_eq_true rfl) rfl (fun ls hl => ?_)
  refine lv_aload_n hx hb dX12_ropeIs_7 rfl (lv_at hl 1 rfl) ?_
  refine lv_iload_n hx hb dX12_ropeIs_8 rfl (lv_at hl 2 rfl) ?_
  refine lv_iload_n hx hb dX12_ropeIs_9 rfl (lv_at hl 3 rfl) ?_
  refine lv_aload_n hx hb dX12_ropeIs_10 rfl (lv_at hl 1 rfl) ?_
  refine x_getr F hP k_63 (hP.al 63 rfl) fl_X12_74 rfl r_63_26 dX12_ropeIs_11 ?_
  refine lv_iload_n hx hb dX12_ropeIs_14 rfl (lv_at hl 2 rfl) ?_
  refine y_iald h F hP k_85 (n2 (hP.al 85 rfl)) dX12_ropeIs_15 (fun v_15 h => ?_)
  refine lv_aload_n hx hb dX12_ropeIs_16 rfl (lv_at hl 1 rfl) ?_
  refine x_getr F hP k_63 (hP.al 63 rfl) fl_X12_80 rfl r_63_28 dX12_ropeIs_17 ?_
  refine lv_iload_n hx hb dX12_ropeIs_20 rfl (lv_at hl 2 rfl) ?_
  refine y_iald h F hP k_87 (n2 (hP.al 87 rfl)) dX12_ropeIs_21 (fun v_21 h => ?_)
  obtain ⟨v_22, hc_22, h⟩ := bo_s h
  refine x_goes (x_runV (As := [.int a1, .int a2, .int v_15, .int v_21]) (rest := []) F hP hS (c_X12_wheelX l D cT lo w ad a1 a2 v_15 v_21 v_22 hc_22) cw_X12_wheelX lk_X12_299 vi_X12_wheelX k_63 (n2 (hP.al 63 rfl)) rfl ⟨rfl, rfl, Nat.le_of_ble_eq_true rfl, Nat.le_of_ble_eq_true rfl⟩ hl.1 rfl (Nat.le_of_ble_eq_true rfl) dX12_ropeIs_22 ⟨Nat.zero_le _, Nat.zero_le _⟩) hS (fun H locs hP hS _ => ?_)
  refine lv_istore (lv' := [(4, .int v_22), (3, .int v_3), (0, .ref (ad 63)), (1, .int a1), (2, .int a2)]) hx hb dX12_ropeIs_25 hl (Nat.le_of_ble_eq_true rfl) rfl (fun ls hl => ?_)
  refine lv_aload_n hx hb dX12_ropeIs_27 rfl (lv_at hl 2 rfl) ?_
  refine lv_iload_n hx hb dX12_ropeIs_28 rfl (lv_at hl 3 rfl) ?_
  refine lv_iload_n hx hb dX12_ropeIs_29 rfl (lv_at hl 4 rfl) ?_
  refine lv_aload_n hx hb dX12_ropeIs_30 rfl (lv_at hl 2 rfl) ?_
  refine x_getr F hP k_63 (hP.al 63 rfl) fl_X12_77 rfl r_63_27 dX12_ropeIs_31 ?_
  refine lv_iload_n hx hb dX12_ropeIs_34 rfl (lv_at hl 3 rfl) ?_
  refine y_iald h F hP k_86 (n2 (hP.al 86 rfl)) dX12_ropeIs_35 (fun v_35 h => ?_)
  refine lv_aload_n hx hb dX12_ropeIs_36 rfl (lv_at hl 2 rfl) ?_
  refine x_getr F hP k_63 (hP.al 63 rfl) fl_X12_80 rfl r_63_28 dX12_ropeIs_37 ?_
  refine lv_iload_n hx hb dX12_ropeIs_40 rfl (lv_at hl 3 rfl) ?_
  refine y_iald h F hP k_87 (n2 (hP.al 87 rfl)) dX12_ropeIs_41 (fun v_41 h => ?_)
  obtain ⟨v_42, hc_42, h⟩ := bo_s h
  refine x_goes (x_runV (As := [.int a1, .int a2, .int v_35, .int v_41]) (rest := []) F hP hS (c_X12_wheelY l D cT lo w ad a1 a2 v_35 v_41 v_42 hc_42) cw_X12_wheelY lk_X12_303 vi_X12_wheelY k_63 (n2 (hP.al 63 rfl)) rfl ⟨rfl, rfl, Nat.le_of_ble_eq_true rfl, Nat.le_of_ble_eq_true rfl⟩ hl.1 rfl (Nat.le_of_ble_eq_true rfl) dX12_ropeIs_42 ⟨Nat.zero_le _, Nat.zero_le _⟩) hS (fun H locs hP hS _ => ?_)
  refine lv_istore (lv' := [(5, .int v_42), (4, .int v_22), (3, .int v_3), (0, .ref (ad 63)), (1, .int a1), (2, .int a2)]) hx hb dX12_ropeIs_45 hl (Nat.le_of_ble_eq_true rfl) rfl (fun ls hl => ?_)
  refine lv_iconst (v := 0) hx hb dX12_ropeIs_47 ic_0 ?_
  refine lv_istore (lv' := [(6, .int (0 : Int32)), (5, .int v_42), (4, .int v_22), (3, .int v_3), (0, .ref (ad 63)), (1, .int a1), (2, .int a2)]) hx hb dX12_ropeIs_48 hl (Nat.le_of_ble_eq_true rfl) rfl (fun ls hl => ?_)
  refine jn_use (fun (j_114 : Option Int32) => j_114 = some r → GG p l e { frames := 4, cells := 0, slots := 0, locals := 86 } s m args below meth c 0 0 (MQ below (mQ D cT lo NB w w ad (some (.int r))) args s 0 0 (fun q => lo ≤ q)) D cT lo NB 7 ad w 114 [(0, .ref (ad 63)), (1, .int a1), (2, .int a2)] []) h (fun h H locs ls hP hS hl => ?_) (fun j_114 J_114 h => ?_)
  · refine lv_aload_n hx hb dX12_ropeIs_114 rfl (lv_at hl 0 rfl) ?_
    refine x_getr F hP k_63 (hP.al 63 rfl) fl_X12_114 rfl r_63_44 dX12_ropeIs_115 ?_
    refine lv_iconst (v := 4) hx hb dX12_ropeIs_118 ic_4 ?_
    refine lv_iload_n hx hb dX12_ropeIs_119 rfl (lv_at hl 1 rfl) ?_
    refine lv_imul hx hb dX12_ropeIs_120 ?_
    refine lv_iload_n hx hb dX12_ropeIs_121 rfl (lv_at hl 2 rfl) ?_
    refine lv_iadd hx hb dX12_ropeIs_122 ?_
    refine y_iald h F hP k_97 (n2 (hP.al 97 rfl)) dX12_ropeIs_123 (fun v_123 h => ?_)
    refine lv_bipush (v := 10) hx hb dX12_ropeIs_124 ib_10 ?_
    refine lv_icmp_ge (tgt := 133) hx hb dX12_ropeIs_126 (by decide) (fun hc => ?_) (fun hc => ?_)
    · have h := if_t _ hc h
      refine lv_iconst (v := 0) hx hb dX12_ropeIs_133 ic_0 ?_
      exact y_iretO h F hr hP hS hlk dX12_ropeIs_134
    · have h := if_f _ hc h
      refine lv_iconst (v := 1) hx hb dX12_ropeIs_129 ic_1 ?_
      refine lv_goto (tgt := 134) hx hb dX12_ropeIs_130 (by decide) ?_
      exact y_iretO h F hr hP hS hlk dX12_ropeIs_134
  · refine jn_use (fun (j_102 : Int32 → Option Int32) => ∀ (x6_102 : Int32), j_102 x6_102 = some r → GG p l e { frames := 4, cells := 0, slots := 0, locals := 86 } s m args below meth c 0 0 (MQ below (mQ D cT lo NB w w ad (some (.int r))) args s 0 0 (fun q => lo ≤ q)) D cT lo NB 7 ad w 102 [(6, .int x6_102)] []) h (fun x6_102 h H locs ls hP hS hl => ?_) (fun j_102 J_102 h => ?_)
    · refine lv_bipush (v := 100) hx hb dX12_ropeIs_102 ib_100 ?_
      refine lv_iload hx hb dX12_ropeIs_104 (lv_at hl 0 rfl) ?_
      refine lv_iadd hx hb dX12_ropeIs_106 ?_
      exact y_iretO h F hr hP hS hlk dX12_ropeIs_107
    · have L_50 : ∀ (n_50 : Nat) (x6_50l : Int32), l_X12_ropeIs_50 a1 a2 w v_3 v_22 v_42 j_114 j_102 n_50 x6_50l = some r → GG p l e { frames := 4, cells := 0, slots := 0, locals := 86 } s m args below meth c 0 0 (MQ below (mQ D cT lo NB w w ad (some (.int r))) args s 0 0 (fun q => lo ≤ q)) D cT lo NB 7 ad w 50 [(6, .int x6_50l), (5, .int v_42), (4, .int v_22), (3, .int v_3), (0, .ref (ad 63)), (1, .int a1), (2, .int a2)] [] := by
        intro n_50
        induction n_50 with
        | zero =>
          intro x6_50l h
          exact absurd h (by unfold l_X12_ropeIs_50; exact fun z => by cases z)
        | succ n_50 ih_50 =>
          intro x6_50l h H locs ls hP hS hl
          unfold l_X12_ropeIs_50 at h
          refine lv_iload hx hb dX12_ropeIs_50 (lv_at hl 0 rfl) ?_
          refine lv_aload_n hx hb dX12_ropeIs_52 rfl (lv_at hl 4 rfl) ?_
          refine y_geti h F hP k_63 (n2 (hP.al 63 rfl)) fl_X12_232 rfl dX12_ropeIs_53 (fun v_53 h => ?_)
          refine lv_icmp_ge (tgt := 114) hx hb dX12_ropeIs_56 (by decide) (fun hc => ?_) (fun hc => ?_)
          · have h := if_t _ hc h
            exact J_114  h _ _ _ hP hS (lv_sub hl [4, 5, 6] rfl)
          · have h := if_f _ hc h
            refine lv_aload_n hx hb dX12_ropeIs_59 rfl (lv_at hl 4 rfl) ?_
            refine lv_iload hx hb dX12_ropeIs_60 (lv_at hl 0 rfl) ?_
            refine lv_iload hx hb dX12_ropeIs_62 (lv_at hl 2 rfl) ?_
            refine lv_iload hx hb dX12_ropeIs_64 (lv_at hl 1 rfl) ?_
            refine lv_aload_n hx hb dX12_ropeIs_66 rfl (lv_at hl 4 rfl) ?_
            refine x_getr F hP k_63 (hP.al 63 rfl) fl_X12_117 rfl r_63_45 dX12_ropeIs_67 ?_
            refine lv_iconst (v := 4) hx hb dX12_ropeIs_70 ic_4 ?_
            refine lv_iload_n hx hb dX12_ropeIs_71 rfl (lv_at hl 5 rfl) ?_
            refine lv_imul hx hb dX12_ropeIs_72 ?_
            refine lv_iload_n hx hb dX12_ropeIs_73 rfl (lv_at hl 6 rfl) ?_
            refine lv_iadd hx hb dX12_ropeIs_74 ?_
            refine y_iald h F hP k_98 (n2 (hP.al 98 rfl)) dX12_ropeIs_75 (fun v_75 h => ?_)
            refine lv_iload_n hx hb dX12_ropeIs_76 rfl (lv_at hl 3 rfl) ?_
            refine x_goes (x_runS (As := [.int v_3]) (rest := [.int v_75, .int v_42, .int v_22, .int x6_50l, .ref (ad 63)]) F hP hS (c_X12_along l D cT lo NB w ad v_3) cw_X12_along lk_X12_214 st_X12_along ⟨rfl, rfl, Nat.le_of_ble_eq_true rfl, Nat.le_of_ble_eq_true rfl⟩ hl.1 rfl (Nat.le_of_ble_eq_true rfl) dX12_ropeIs_77 ⟨Nat.zero_le _, Nat.zero_le _⟩) hS (fun H locs hP hS _ => ?_)
            refine lv_imul hx hb dX12_ropeIs_80 ?_
            refine lv_aload_n hx hb dX12_ropeIs_81 rfl (lv_at hl 4 rfl) ?_
            refine x_getr F hP k_63 (hP.al 63 rfl) fl_X12_117 rfl r_63_45 dX12_ropeIs_82 ?_
            refine lv_iconst (v := 4) hx hb dX12_ropeIs_85 ic_4 ?_
            refine lv_iload_n hx hb dX12_ropeIs_86 rfl (lv_at hl 5 rfl) ?_
            refine lv_imul hx hb dX12_ropeIs_87 ?_
            refine lv_iload_n hx hb dX12_ropeIs_88 rfl (lv_at hl 6 rfl) ?_
            refine lv_iadd hx hb dX12_ropeIs_89 ?_
            refine y_iald h F hP k_98 (n2 (hP.al 98 rfl)) dX12_ropeIs_90 (fun v_90 h => ?_)
            refine lv_iload_n hx hb dX12_ropeIs_91 rfl (lv_at hl 3 rfl) ?_
            refine x_goes (x_runS (As := [.int v_3]) (rest := [.int v_90, .int (v_75 * (f_X12_along v_3)), .int v_42, .int v_22, .int x6_50l, .ref (ad 63)]) F hP hS (c_X12_across l D cT lo NB w ad v_3) cw_X12_across lk_X12_225 st_X12_across ⟨rfl, rfl, Nat.le_of_ble_eq_true rfl, Nat.le_of_ble_eq_true rfl⟩ hl.1 rfl (Nat.le_of_ble_eq_true rfl) dX12_ropeIs_92 ⟨Nat.zero_le _, Nat.zero_le _⟩) hS (fun H locs hP hS _ => ?_)
            refine lv_imul hx hb dX12_ropeIs_95 ?_
            obtain ⟨v_96, hc_96, h⟩ := bo_s h
            refine x_goesZ (x_runV (As := [.int x6_50l, .int v_22, .int v_42, .int (v_75 * (f_X12_along v_3)), .int (v_90 * (f_X12_across v_3))]) (rest := []) F hP hS (c_X12_goesThrough l D cT lo w ad x6_50l v_22 v_42 (v_75 * (f_X12_along v_3)) (v_90 * (f_X12_across v_3)) v_96 hc_96) cw_X12_goesThrough lk_X12_369 vi_X12_goesThrough k_63 (n2 (hP.al 63 rfl)) rfl ⟨rfl, rfl, Nat.le_of_ble_eq_true rfl, Nat.le_of_ble_eq_true rfl⟩ hl.1 rfl (Nat.le_of_ble_eq_true rfl) dX12_ropeIs_96 ⟨Nat.zero_le _, Nat.zero_le _⟩) hS (fun H locs hz_96 hP hS _ => ?_)
            refine lv_if_eq (tgt := 108) hx hb dX12_ropeIs_99 (by decide) (fun hc => ?_) (fun hc => ?_)
            · have h := if_t _ hc h
              refine y_iinc (lv' := fun (v_108 : Int32) => [(6, .int v_108), (5, .int v_42), (4, .int v_22), (3, .int v_3), (0, .ref (ad 63)), (1, .int a1), (2, .int a2)]) h F ic_1 dX12_ropeIs_108 hl (kq := 0) rfl (Nat.le_of_ble_eq_true rfl) (fun _ => rfl) (fun v_108 ls hl h => ?_)
              refine lv_goto (tgt := 50) hx hb dX12_ropeIs_111 (by decide) ?_
              exact ih_50 v_108 h _ _ _ hP hS (lv_sub hl [0, 1, 2, 3, 4, 5, 6] rfl)
            · have h := if_f _ hc h
              exact J_102 x6_50l h _ _ _ hP hS (lv_sub hl [0] rfl)
      exact L_50 FU (0 : Int32) h _ _ _ hP hS (lv_sub hl [0, 1, 2, 3, 4, 5, 6] rfl)
def f_X12_tight (w : Wd) (a1 : Int32) (a2 : Int32) : Option Int32 :=
if (f_X12_isCar w a1) = 0 then
some (-2 : Int32)
else
if (f_X12_in a2 (0 : Int32) (3 : Int32)) = 0 then
some (-2 : Int32)
else
q_ld w 84 4 a1 (fun v_25 =>
if v_25 = 0 then
some (-3 : Int32)
else
q_bo (f_X12_ropeIs w a1 a2) (fun v_32 =>
some v_32))
set_option maxRecDepth 100000 in
set_option maxHeartbeats 4000000 in
theorem c_X12_tight (l : Launch) (D : va_G) (cT : Nat → ClassId) (lo : Nat) (w : Wd) (ad : Nat → Nat) (a1 : Int32) (a2 : Int32) (r : Int32) (h : f_X12_tight w a1 a2 = some r) : Met l yX12_tight (.code yX12_tight cX12_tight 3 (some .int) :: TW) { frames := 5, cells := 0, slots := 0, locals := 112 } (mPc D cT lo NB w ad [.ref (ad 63), .int a1, .int a2]) (mQ D cT lo NB w w ad (some (.int r))) 0 0 (fun q => lo ≤ q) := by
  unfold f_X12_tight at h
  refine x_met (lv := [(0, .ref (ad 63)), (1, .int a1), (2, .int a2)]) (by decide +kernel) (Nat.le_of_ble_eq_true rfl) rfl ?_
  intro p e s m args below meth c ls F hr hlk hP hin hl
  have hx := F.1
  have hb := F.2.1
  have hS : va_S (fun q => lo ≤ q) s.heap s.heap [] := va_S.rf
  refine lv_aload_n hx hb dX12_tight_0 rfl (lv_at hl 0 rfl) ?_
  refine lv_iload_n hx hb dX12_tight_1 rfl (lv_at hl 1 rfl) ?_
  refine x_goesZ (x_runV (As := [.int a1]) (rest := []) F hP hS (c_X12_isCar l D cT lo w ad a1) cw_X12_isCar lk_X12_257 vi_X12_isCar k_63 (n2 (hP.al 63 rfl)) rfl ⟨rfl, rfl, Nat.le_of_ble_eq_true rfl, Nat.le_of_ble_eq_true rfl⟩ hl.1 rfl (Nat.le_of_ble_eq_true rfl) dX12_tight_2 ⟨Nat.zero_le _, Nat.zero_le _⟩) hS (fun H locs hz_2 hP hS _ => ?_)
  refine lv_if_eq (tgt := 17) hx hb dX12_tight_5 (by decide) (fun hc => ?_) (fun hc => ?_)
  · have h := if_t _ hc h
    refine lv_bipush (v := -2) hx hb dX12_tight_17 ib_m2 ?_
    exact y_iretO h F hr hP hS hlk dX12_tight_19
  · have h := if_f _ hc h
    refine lv_iload_n hx hb dX12_tight_8 rfl (lv_at hl 2 rfl) ?_
    refine lv_iconst (v := 0) hx hb dX12_tight_9 ic_0 ?_
    refine lv_iconst (v := 3) hx hb dX12_tight_10 ic_3 ?_
    refine x_goesZ (x_runS (As := [.int a2, .int (0 : Int32), .int (3 : Int32)]) (rest := []) F hP hS (c_X12_in l D cT lo NB w ad a2 (0 : Int32) (3 : Int32)) cw_X12_in lk_X12_217 st_X12_in ⟨rfl, rfl, Nat.le_of_ble_eq_true rfl, Nat.le_of_ble_eq_true rfl⟩ hl.1 rfl (Nat.le_of_ble_eq_true rfl) dX12_tight_11 ⟨Nat.zero_le _, Nat.zero_le _⟩) hS (fun H locs hz_11 hP hS _ => ?_)
    refine lv_if_ne (tgt := 20) hx hb dX12_tight_14 (by decide) (fun hc => ?_) (fun hc => ?_)
    · have h := if_f _ hc h
      refine lv_aload_n hx hb dX12_tight_20 rfl (lv_at hl 0 rfl) ?_
      refine x_getr F hP k_63 (hP.al 63 rfl) fl_X12_71 rfl r_63_25 dX12_tight_21 ?_
      refine lv_iload_n hx hb dX12_tight_24 rfl (lv_at hl 1 rfl) ?_
      refine y_zald h F hP k_84 (n2 (hP.al 84 rfl)) dX12_tight_25 (fun v_25 h => ?_)
      refine lv_if_eq (tgt := 38) hx hb dX12_tight_26 (by decide) (fun hc => ?_) (fun hc => ?_)
      · have h := if_t _ hc h
        refine lv_bipush (v := -3) hx hb dX12_tight_38 ib_m3 ?_
        exact y_iretO h F hr hP hS hlk dX12_tight_40
      · have h := if_f _ hc h
        refine lv_aload_n hx hb dX12_tight_29 rfl (lv_at hl 0 rfl) ?_
        refine lv_iload_n hx hb dX12_tight_30 rfl (lv_at hl 1 rfl) ?_
        refine lv_iload_n hx hb dX12_tight_31 rfl (lv_at hl 2 rfl) ?_
        obtain ⟨v_32, hc_32, h⟩ := bo_s h
        refine x_goes (x_runV (As := [.int a1, .int a2]) (rest := []) F hP hS (c_X12_ropeIs l D cT lo w ad a1 a2 v_32 hc_32) cw_X12_ropeIs lk_X12_373 vi_X12_ropeIs k_63 (n2 (hP.al 63 rfl)) rfl ⟨rfl, rfl, Nat.le_of_ble_eq_true rfl, Nat.le_of_ble_eq_true rfl⟩ hl.1 rfl (Nat.le_of_ble_eq_true rfl) dX12_tight_32 ⟨Nat.zero_le _, Nat.zero_le _⟩) hS (fun H locs hP hS _ => ?_)
        refine lv_goto (tgt := 40) hx hb dX12_tight_35 (by decide) ?_
        exact y_iretO h F hr hP hS hlk dX12_tight_40
    · have h := if_t _ hc h
      refine lv_bipush (v := -2) hx hb dX12_tight_17 ib_m2 ?_
      exact y_iretO h F hr hP hS hlk dX12_tight_19
def f_X12_isOnWet (w : Wd) (a1 : Int32) : Option Int32 :=
q_ld w 85 4 a1 (fun v_6 =>
q_ld w 86 4 a1 (fun v_12 =>
q_bo (f_X12_slopeAt w v_6 v_12) (fun v_13 =>
if v_13 = (-1 : Int32) then
some (0 : Int32)
else
q_ld w 75 10 v_13 (fun v_27 =>
if v_27 = 0 then
some (0 : Int32)
else
some (1 : Int32)))))
set_option maxRecDepth 100000 in
set_option maxHeartbeats 4000000 in
theorem c_X12_isOnWet (l : Launch) (D : va_G) (cT : Nat → ClassId) (lo : Nat) (w : Wd) (ad : Nat → Nat) (a1 : Int32) (r : Int32) (h : f_X12_isOnWet w a1 = some r) : Met l yX12_isOnWet (.code yX12_isOnWet cX12_isOnWet 3 (some .boolean) :: TW) { frames := 2, cells := 0, slots := 0, locals := 46 } (mPc D cT lo NB w ad [.ref (ad 63), .int a1]) (mQz D cT lo NB w w ad r) 0 0 (fun q => lo ≤ q) := by
  unfold f_X12_isOnWet at h
  refine x_met (lv := [(0, .ref (ad 63)), (1, .int a1)]) (by decide +kernel) (Nat.le_of_ble_eq_true rfl) rfl ?_
  intro p e s m args below meth c ls F hr hlk hP hin hl
  have hx := F.1
  have hb := F.2.1
  have hS : va_S (fun q => lo ≤ q) s.heap s.heap [] := va_S.rf
  refine lv_aload_n hx hb dX12_isOnWet_0 rfl (lv_at hl 0 rfl) ?_
  refine lv_aload_n hx hb dX12_isOnWet_1 rfl (lv_at hl 0 rfl) ?_
  refine x_getr F hP k_63 (hP.al 63 rfl) fl_X12_74 rfl r_63_26 dX12_isOnWet_2 ?_
  refine lv_iload_n hx hb dX12_isOnWet_5 rfl (lv_at hl 1 rfl) ?_
  refine y_iald h F hP k_85 (n2 (hP.al 85 rfl)) dX12_isOnWet_6 (fun v_6 h => ?_)
  refine lv_aload_n hx hb dX12_isOnWet_7 rfl (lv_at hl 0 rfl) ?_
  refine x_getr F hP k_63 (hP.al 63 rfl) fl_X12_77 rfl r_63_27 dX12_isOnWet_8 ?_
  refine lv_iload_n hx hb dX12_isOnWet_11 rfl (lv_at hl 1 rfl) ?_
  refine y_iald h F hP k_86 (n2 (hP.al 86 rfl)) dX12_isOnWet_12 (fun v_12 h => ?_)
  obtain ⟨v_13, hc_13, h⟩ := bo_s h
  refine x_goes (x_runV (As := [.int v_6, .int v_12]) (rest := []) F hP hS (c_X12_slopeAt l D cT lo w ad v_6 v_12 v_13 hc_13) cw_X12_slopeAt lk_X12_250 vi_X12_slopeAt k_63 (n2 (hP.al 63 rfl)) rfl ⟨rfl, rfl, Nat.le_of_ble_eq_true rfl, Nat.le_of_ble_eq_true rfl⟩ hl.1 rfl (Nat.le_of_ble_eq_true rfl) dX12_isOnWet_13 ⟨Nat.zero_le _, Nat.zero_le _⟩) hS (fun H locs hP hS _ => ?_)
  refine lv_istore_n (lv' := [(2, .int v_13), (0, .ref (ad 63)), (1, .int a1)]) hx hb dX12_isOnWet_16 rfl hl (Nat.le_of_ble_eq_true rfl) rfl (fun ls hl => ?_)
  refine lv_iload_n hx hb dX12_isOnWet_17 rfl (lv_at hl 0 rfl) ?_
  refine lv_iconst (v := -1) hx hb dX12_isOnWet_18 ic_m1 ?_
  refine lv_icmp_eq (tgt := 35) hx hb dX12_isOnWet_19 (by decide) (fun hc => ?_) (fun hc => ?_)
  · have h := if_t _ hc h
    refine lv_iconst (v := 0) hx hb dX12_isOnWet_35 ic_0 ?_
    exact y_zretO h F hr hP hS hlk rfl dX12_isOnWet_36
  · have h := if_f _ hc h
    refine lv_aload_n hx hb dX12_isOnWet_22 rfl (lv_at hl 1 rfl) ?_
    refine x_getr F hP k_63 (hP.al 63 rfl) fl_X12_44 rfl r_63_15 dX12_isOnWet_23 ?_
    refine lv_iload_n hx hb dX12_isOnWet_26 rfl (lv_at hl 0 rfl) ?_
    refine y_zald h F hP k_75 (n2 (hP.al 75 rfl)) dX12_isOnWet_27 (fun v_27 h => ?_)
    refine lv_if_eq (tgt := 35) hx hb dX12_isOnWet_28 (by decide) (fun hc => ?_) (fun hc => ?_)
    · have h := if_t _ hc h
      refine lv_iconst (v := 0) hx hb dX12_isOnWet_35 ic_0 ?_
      exact y_zretO h F hr hP hS hlk rfl dX12_isOnWet_36
    · have h := if_f _ hc h
      refine lv_iconst (v := 1) hx hb dX12_isOnWet_31 ic_1 ?_
      refine lv_goto (tgt := 36) hx hb dX12_isOnWet_32 (by decide) ?_
      exact y_zretO h F hr hP hS hlk rfl dX12_isOnWet_36
def l_X12_pullOf_4 (a1 : Int32) (w : Wd) : Nat → Int32 → Int32 → Option Int32
  | 0, _, _ => none
  | n_4 + 1, x3_4l, x2_4l =>
    if (4 : Int32) ≤ x3_4l then
    some x2_4l
    else
    q_bo (f_X12_ropeIs w a1 x3_4l) (fun v_12 =>
    q_jn (fun (x2_77 : Int32) =>
    q_lt (x3_4l + (1 : Int32)) (fun v_77 =>
    l_X12_pullOf_4 a1 w n_4 v_77 x2_77)) (fun j_77 =>
    if v_12 = 0 then
    q_ld w 97 16 (((4 : Int32) * a1) + x3_4l) (fun v_27 =>
    q_gt w 63 47 (fun v_29 =>
    q_bo (f_X12_ropeHeading w a1 x3_4l) (fun v_36 =>
    q_ld w 87 4 a1 (fun v_44 =>
    q_lt (((v_27 * v_29) * (f_X12_along (v_36 - v_44))) / (65 : Int32)) (fun v_53 =>
    q_bo (f_X12_isOnWet w a1) (fun v_58 =>
    q_jn (fun (s0_75 : Int32) =>
    q_lt (x2_4l + s0_75) (fun v_76 =>
    j_77 v_76)) (fun j_75 =>
    if v_58 = 0 then
    j_75 v_53
    else
    j_75 (((3 : Int32) * v_53) / (4 : Int32)))))))))
    else
    j_77 x2_4l))
def f_X12_pullOf (w : Wd) (a1 : Int32) : Option Int32 :=
l_X12_pullOf_4 a1 w FU (0 : Int32) (0 : Int32)
set_option maxRecDepth 100000 in
set_option maxHeartbeats 4000000 in
theorem c_X12_pullOf (l : Launch) (D : va_G) (cT : Nat → ClassId) (lo : Nat) (w : Wd) (ad : Nat → Nat) (a1 : Int32) (r : Int32) (h : f_X12_pullOf w a1 = some r) : Met l yX12_pullOf (.code yX12_pullOf cX12_pullOf 5 (some .int) :: TW) { frames := 5, cells := 0, slots := 0, locals := 112 } (mPc D cT lo NB w ad [.ref (ad 63), .int a1]) (mQ D cT lo NB w w ad (some (.int r))) 0 0 (fun q => lo ≤ q) := by
  unfold f_X12_pullOf at h
  refine x_met (lv := [(0, .ref (ad 63)), (1, .int a1)]) (by decide +kernel) (Nat.le_of_ble_eq_true rfl) rfl ?_
  intro p e s m args below meth c ls F hr hlk hP hin hl
  have hx := F.1
  have hb := F.2.1
  have hS : va_S (fun q => lo ≤ q) s.heap s.heap [] := va_S.rf
  refine lv_iconst (v := 0) hx hb dX12_pullOf_0 ic_0 ?_
  refine lv_istore_n (lv' := [(2, .int (0 : Int32)), (0, .ref (ad 63)), (1, .int a1)]) hx hb dX12_pullOf_1 rfl hl (Nat.le_of_ble_eq_true rfl) rfl (fun ls hl => ?_)
  refine lv_iconst (v := 0) hx hb dX12_pullOf_2 ic_0 ?_
  refine lv_istore_n (lv' := [(3, .int (0 : Int32)), (2, .int (0 : Int32)), (0, .ref (ad 63)), (1, .int a1)]) hx hb dX12_pullOf_3 rfl hl (Nat.le_of_ble_eq_true rfl) rfl (fun ls hl => ?_)
  have L_4 : ∀ (n_4 : Nat) (x3_4l : Int32) (x2_4l : Int32), l_X12_pullOf_4 a1 w n_4 x3_4l x2_4l = some r → GG p l e { frames := 5, cells := 0, slots := 0, locals := 112 } s m args below meth c 0 0 (MQ below (mQ D cT lo NB w w ad (some (.int r))) args s 0 0 (fun q => lo ≤ q)) D cT lo NB 5 ad w 4 [(3, .int x3_4l), (2, .int x2_4l), (0, .ref (ad 63)), (1, .int a1)] [] := by
    intro n_4
    induction n_4 with
    | zero =>
      intro x3_4l x2_4l h
      exact absurd h (by unfold l_X12_pullOf_4; exact fun z => by cases z)
    | succ n_4 ih_4 =>
      intro x3_4l x2_4l h H locs ls hP hS hl
      unfold l_X12_pullOf_4 at h
      refine lv_iload_n hx hb dX12_pullOf_4 rfl (lv_at hl 0 rfl) ?_
      refine lv_iconst (v := 4) hx hb dX12_pullOf_5 ic_4 ?_
      refine lv_icmp_ge (tgt := 83) hx hb dX12_pullOf_6 (by decide) (fun hc => ?_) (fun hc => ?_)
      · have h := if_t _ hc h
        refine lv_iload_n hx hb dX12_pullOf_83 rfl (lv_at hl 1 rfl) ?_
        exact y_iretO h F hr hP hS hlk dX12_pullOf_84
      · have h := if_f _ hc h
        refine lv_aload_n hx hb dX12_pullOf_9 rfl (lv_at hl 2 rfl) ?_
        refine lv_iload_n hx hb dX12_pullOf_10 rfl (lv_at hl 3 rfl) ?_
        refine lv_iload_n hx hb dX12_pullOf_11 rfl (lv_at hl 0 rfl) ?_
        obtain ⟨v_12, hc_12, h⟩ := bo_s h
        refine x_goes (x_runV (As := [.int a1, .int x3_4l]) (rest := []) F hP hS (c_X12_ropeIs l D cT lo w ad a1 x3_4l v_12 hc_12) cw_X12_ropeIs lk_X12_373 vi_X12_ropeIs k_63 (n2 (hP.al 63 rfl)) rfl ⟨rfl, rfl, Nat.le_of_ble_eq_true rfl, Nat.le_of_ble_eq_true rfl⟩ hl.1 rfl (Nat.le_of_ble_eq_true rfl) dX12_pullOf_12 ⟨Nat.zero_le _, Nat.zero_le _⟩) hS (fun H locs hP hS _ => ?_)
        refine jn_use (fun (j_77 : Int32 → Option Int32) => ∀ (x2_77 : Int32), j_77 x2_77 = some r → GG p l e { frames := 5, cells := 0, slots := 0, locals := 112 } s m args below meth c 0 0 (MQ below (mQ D cT lo NB w w ad (some (.int r))) args s 0 0 (fun q => lo ≤ q)) D cT lo NB 5 ad w 77 [(3, .int x3_4l), (2, .int x2_77), (0, .ref (ad 63)), (1, .int a1)] []) h (fun x2_77 h H locs ls hP hS hl => ?_) (fun j_77 J_77 h => ?_)
        · refine y_iinc (lv' := fun (v_77 : Int32) => [(3, .int v_77), (2, .int x2_77), (0, .ref (ad 63)), (1, .int a1)]) h F ic_1 dX12_pullOf_77 hl (kq := 0) rfl (Nat.le_of_ble_eq_true rfl) (fun _ => rfl) (fun v_77 ls hl h => ?_)
          refine lv_goto (tgt := 4) hx hb dX12_pullOf_80 (by decide) ?_
          exact ih_4 v_77 x2_77 h _ _ _ hP hS (lv_sub hl [0, 1, 2, 3] rfl)
        · refine lv_if_ne (tgt := 77) hx hb dX12_pullOf_15 (by decide) (fun hc => ?_) (fun hc => ?_)
          · have h := if_f _ hc h
            exact J_77 x2_4l h _ _ _ hP hS (lv_sub hl [0, 1, 2, 3] rfl)
          · have h := if_t _ hc h
            refine lv_aload_n hx hb dX12_pullOf_18 rfl (lv_at hl 2 rfl) ?_
            refine x_getr F hP k_63 (hP.al 63 rfl) fl_X12_114 rfl r_63_44 dX12_pullOf_19 ?_
            refine lv_iconst (v := 4) hx hb dX12_pullOf_22 ic_4 ?_
            refine lv_iload_n hx hb dX12_pullOf_23 rfl (lv_at hl 3 rfl) ?_
            refine lv_imul hx hb dX12_pullOf_24 ?_
            refine lv_iload_n hx hb dX12_pullOf_25 rfl (lv_at hl 0 rfl) ?_
            refine lv_iadd hx hb dX12_pullOf_26 ?_
            refine y_iald h F hP k_97 (n2 (hP.al 97 rfl)) dX12_pullOf_27 (fun v_27 h => ?_)
            refine lv_aload_n hx hb dX12_pullOf_28 rfl (lv_at hl 2 rfl) ?_
            refine y_geti h F hP k_63 (n2 (hP.al 63 rfl)) fl_X12_123 rfl dX12_pullOf_29 (fun v_29 h => ?_)
            refine lv_imul hx hb dX12_pullOf_32 ?_
            refine lv_aload_n hx hb dX12_pullOf_33 rfl (lv_at hl 2 rfl) ?_
            refine lv_iload_n hx hb dX12_pullOf_34 rfl (lv_at hl 3 rfl) ?_
            refine lv_iload_n hx hb dX12_pullOf_35 rfl (lv_at hl 0 rfl) ?_
            obtain ⟨v_36, hc_36, h⟩ := bo_s h
            refine x_goes (x_runV (As := [.int a1, .int x3_4l]) (rest := [.int (v_27 * v_29)]) F hP hS (c_X12_ropeHeading l D cT lo w ad a1 x3_4l v_36 hc_36) cw_X12_ropeHeading lk_X12_366 vi_X12_ropeHeading k_63 (n2 (hP.al 63 rfl)) rfl ⟨rfl, rfl, Nat.le_of_ble_eq_true rfl, Nat.le_of_ble_eq_true rfl⟩ hl.1 rfl (Nat.le_of_ble_eq_true rfl) dX12_pullOf_36 ⟨Nat.zero_le _, Nat.zero_le _⟩) hS (fun H locs hP hS _ => ?_)
            refine lv_aload_n hx hb dX12_pullOf_39 rfl (lv_at hl 2 rfl) ?_
            refine x_getr F hP k_63 (hP.al 63 rfl) fl_X12_80 rfl r_63_28 dX12_pullOf_40 ?_
            refine lv_iload_n hx hb dX12_pullOf_43 rfl (lv_at hl 3 rfl) ?_
            refine y_iald h F hP k_87 (n2 (hP.al 87 rfl)) dX12_pullOf_44 (fun v_44 h => ?_)
            refine lv_isub hx hb dX12_pullOf_45 ?_
            refine x_goes (x_runS (As := [.int (v_36 - v_44)]) (rest := [.int (v_27 * v_29)]) F hP hS (c_X12_along l D cT lo NB w ad (v_36 - v_44)) cw_X12_along lk_X12_214 st_X12_along ⟨rfl, rfl, Nat.le_of_ble_eq_true rfl, Nat.le_of_ble_eq_true rfl⟩ hl.1 rfl (Nat.le_of_ble_eq_true rfl) dX12_pullOf_46 ⟨Nat.zero_le _, Nat.zero_le _⟩) hS (fun H locs hP hS _ => ?_)
            refine lv_imul hx hb dX12_pullOf_49 ?_
            refine lv_bipush (v := 65) hx hb dX12_pullOf_50 ib_65 ?_
            refine lv_idiv hx hb dX12_pullOf_52 (by decide) ?_
            refine y_let h (fun v_53 h => ?_)
            refine lv_istore (lv' := [(4, .int v_53), (3, .int x3_4l), (2, .int x2_4l), (0, .ref (ad 63)), (1, .int a1)]) hx hb dX12_pullOf_53 hl (Nat.le_of_ble_eq_true rfl) rfl (fun ls hl => ?_)
            refine lv_iload_n hx hb dX12_pullOf_55 rfl (lv_at hl 2 rfl) ?_
            refine lv_aload_n hx hb dX12_pullOf_56 rfl (lv_at hl 3 rfl) ?_
            refine lv_iload_n hx hb dX12_pullOf_57 rfl (lv_at hl 4 rfl) ?_
            obtain ⟨v_58, hc_58, h⟩ := bo_s h
            refine x_goesZ (x_runV (As := [.int a1]) (rest := [.int x2_4l]) F hP hS (c_X12_isOnWet l D cT lo w ad a1 v_58 hc_58) cw_X12_isOnWet lk_X12_376 vi_X12_isOnWet k_63 (n2 (hP.al 63 rfl)) rfl ⟨rfl, rfl, Nat.le_of_ble_eq_true rfl, Nat.le_of_ble_eq_true rfl⟩ hl.1 rfl (Nat.le_of_ble_eq_true rfl) dX12_pullOf_58 ⟨Nat.zero_le _, Nat.zero_le _⟩) hS (fun H locs hz_58 hP hS _ => ?_)
            refine jn_use (fun (j_75 : Int32 → Option Int32) => ∀ (s0_75 : Int32), j_75 s0_75 = some r → GG p l e { frames := 5, cells := 0, slots := 0, locals := 112 } s m args below meth c 0 0 (MQ below (mQ D cT lo NB w w ad (some (.int r))) args s 0 0 (fun q => lo ≤ q)) D cT lo NB 5 ad w 75 [(3, .int x3_4l), (0, .ref (ad 63)), (1, .int a1)] [.int s0_75, .int x2_4l]) h (fun s0_75 h H locs ls hP hS hl => ?_) (fun j_75 J_75 h => ?_)
            · refine lv_iadd hx hb dX12_pullOf_75 ?_
              refine y_let h (fun v_76 h => ?_)
              refine lv_istore_n (lv' := [(2, .int v_76), (3, .int x3_4l), (0, .ref (ad 63)), (1, .int a1)]) hx hb dX12_pullOf_76 rfl hl (Nat.le_of_ble_eq_true rfl) rfl (fun ls hl => ?_)
              exact J_77 v_76 h _ _ _ hP hS (lv_sub hl [1, 0, 2, 3] rfl)
            · refine lv_if_eq (tgt := 73) hx hb dX12_pullOf_61 (by decide) (fun hc => ?_) (fun hc => ?_)
              · have h := if_t _ hc h
                refine lv_iload hx hb dX12_pullOf_73 (lv_at hl 0 rfl) ?_
                exact J_75 v_53 h _ _ _ hP hS (lv_sub hl [1, 3, 4] rfl)
              · have h := if_f _ hc h
                refine lv_iconst (v := 3) hx hb dX12_pullOf_64 ic_3 ?_
                refine lv_iload hx hb dX12_pullOf_65 (lv_at hl 0 rfl) ?_
                refine lv_imul hx hb dX12_pullOf_67 ?_
                refine lv_iconst (v := 4) hx hb dX12_pullOf_68 ic_4 ?_
                refine lv_idiv hx hb dX12_pullOf_69 (by decide) ?_
                refine lv_goto (tgt := 75) hx hb dX12_pullOf_70 (by decide) ?_
                exact J_75 (((3 : Int32) * v_53) / (4 : Int32)) h _ _ _ hP hS (lv_sub hl [1, 3, 4] rfl)
  exact L_4 FU (0 : Int32) (0 : Int32) h _ _ _ hP hS (lv_sub hl [0, 1, 2, 3] rfl)
def f_X12_standsNow (w : Wd) (a1 : Int32) : Option Int32 :=
if (f_X12_isCar w a1) = 0 then
some (0 : Int32)
else
q_ld w 84 4 a1 (fun v_13 =>
if v_13 = 0 then
some (0 : Int32)
else
some (1 : Int32))
set_option maxRecDepth 100000 in
set_option maxHeartbeats 4000000 in
theorem c_X12_standsNow (l : Launch) (D : va_G) (cT : Nat → ClassId) (lo : Nat) (w : Wd) (ad : Nat → Nat) (a1 : Int32) (r : Int32) (h : f_X12_standsNow w a1 = some r) : Met l yX12_standsNow (.code yX12_standsNow cX12_standsNow 2 (some .boolean) :: TW) { frames := 2, cells := 0, slots := 0, locals := 43 } (mPc D cT lo NB w ad [.ref (ad 63), .int a1]) (mQz D cT lo NB w w ad r) 0 0 (fun q => lo ≤ q) := by
  unfold f_X12_standsNow at h
  refine x_met (lv := [(0, .ref (ad 63)), (1, .int a1)]) (by decide +kernel) (Nat.le_of_ble_eq_true rfl) rfl ?_
  intro p e s m args below meth c ls F hr hlk hP hin hl
  have hx := F.1
  have hb := F.2.1
  have hS : va_S (fun q => lo ≤ q) s.heap s.heap [] := va_S.rf
  refine lv_aload_n hx hb dX12_standsNow_0 rfl (lv_at hl 0 rfl) ?_
  refine lv_iload_n hx hb dX12_standsNow_1 rfl (lv_at hl 1 rfl) ?_
  refine x_goesZ (x_runV (As := [.int a1]) (rest := []) F hP hS (c_X12_isCar l D cT lo w ad a1) cw_X12_isCar lk_X12_257 vi_X12_isCar k_63 (n2 (hP.al 63 rfl)) rfl ⟨rfl, rfl, Nat.le_of_ble_eq_true rfl, Nat.le_of_ble_eq_true rfl⟩ hl.1 rfl (Nat.le_of_ble_eq_true rfl) dX12_standsNow_2 ⟨Nat.zero_le _, Nat.zero_le _⟩) hS (fun H locs hz_2 hP hS _ => ?_)
  refine lv_if_eq (tgt := 21) hx hb dX12_standsNow_5 (by decide) (fun hc => ?_) (fun hc => ?_)
  · have h := if_t _ hc h
    refine lv_iconst (v := 0) hx hb dX12_standsNow_21 ic_0 ?_
    exact y_zretO h F hr hP hS hlk rfl dX12_standsNow_22
  · have h := if_f _ hc h
    refine lv_aload_n hx hb dX12_standsNow_8 rfl (lv_at hl 0 rfl) ?_
    refine x_getr F hP k_63 (hP.al 63 rfl) fl_X12_71 rfl r_63_25 dX12_standsNow_9 ?_
    refine lv_iload_n hx hb dX12_standsNow_12 rfl (lv_at hl 1 rfl) ?_
    refine y_zald h F hP k_84 (n2 (hP.al 84 rfl)) dX12_standsNow_13 (fun v_13 h => ?_)
    refine lv_if_eq (tgt := 21) hx hb dX12_standsNow_14 (by decide) (fun hc => ?_) (fun hc => ?_)
    · have h := if_t _ hc h
      refine lv_iconst (v := 0) hx hb dX12_standsNow_21 ic_0 ?_
      exact y_zretO h F hr hP hS hlk rfl dX12_standsNow_22
    · have h := if_f _ hc h
      refine lv_iconst (v := 1) hx hb dX12_standsNow_17 ic_1 ?_
      refine lv_goto (tgt := 22) hx hb dX12_standsNow_18 (by decide) ?_
      exact y_zretO h F hr hP hS hlk rfl dX12_standsNow_22
def f_X12_pull (w : Wd) (a1 : Int32) : Option Int32 :=
q_bo (f_X12_standsNow w a1) (fun v_2 =>
if v_2 = 0 then
some (-2147483648 : Int32)
else
q_bo (f_X12_pullOf w a1) (fun v_10 =>
some v_10))
set_option maxRecDepth 100000 in
set_option maxHeartbeats 4000000 in
theorem c_X12_pull (l : Launch) (D : va_G) (cT : Nat → ClassId) (lo : Nat) (w : Wd) (ad : Nat → Nat) (a1 : Int32) (r : Int32) (h : f_X12_pull w a1 = some r) : Met l yX12_pull (.code yX12_pull cX12_pull 2 (some .int) :: TW) { frames := 6, cells := 0, slots := 0, locals := 136 } (mPc D cT lo NB w ad [.ref (ad 63), .int a1]) (mQ D cT lo NB w w ad (some (.int r))) 0 0 (fun q => lo ≤ q) := by
  unfold f_X12_pull at h
  refine x_met (lv := [(0, .ref (ad 63)), (1, .int a1)]) (by decide +kernel) (Nat.le_of_ble_eq_true rfl) rfl ?_
  intro p e s m args below meth c ls F hr hlk hP hin hl
  have hx := F.1
  have hb := F.2.1
  have hS : va_S (fun q => lo ≤ q) s.heap s.heap [] := va_S.rf
  refine lv_aload_n hx hb dX12_pull_0 rfl (lv_at hl 0 rfl) ?_
  refine lv_iload_n hx hb dX12_pull_1 rfl (lv_at hl 1 rfl) ?_
  obtain ⟨v_2, hc_2, h⟩ := bo_s h
  refine x_goesZ (x_runV (As := [.int a1]) (rest := []) F hP hS (c_X12_standsNow l D cT lo w ad a1 v_2 hc_2) cw_X12_standsNow lk_X12_379 vi_X12_standsNow k_63 (n2 (hP.al 63 rfl)) rfl ⟨rfl, rfl, Nat.le_of_ble_eq_true rfl, Nat.le_of_ble_eq_true rfl⟩ hl.1 rfl (Nat.le_of_ble_eq_true rfl) dX12_pull_2 ⟨Nat.zero_le _, Nat.zero_le _⟩) hS (fun H locs hz_2 hP hS _ => ?_)
  refine lv_if_eq (tgt := 16) hx hb dX12_pull_5 (by decide) (fun hc => ?_) (fun hc => ?_)
  · have h := if_t _ hc h
    refine lv_ldcw F.1 F.2.1 F.2.2.1 (F.2.2.2.1 _ ct_X12_329) dX12_pull_16 ?_
    exact y_iretO h F hr hP hS hlk dX12_pull_19
  · have h := if_f _ hc h
    refine lv_aload_n hx hb dX12_pull_8 rfl (lv_at hl 0 rfl) ?_
    refine lv_iload_n hx hb dX12_pull_9 rfl (lv_at hl 1 rfl) ?_
    obtain ⟨v_10, hc_10, h⟩ := bo_s h
    refine x_goes (x_runV (As := [.int a1]) (rest := []) F hP hS (c_X12_pullOf l D cT lo w ad a1 v_10 hc_10) cw_X12_pullOf lk_X12_382 vi_X12_pullOf k_63 (n2 (hP.al 63 rfl)) rfl ⟨rfl, rfl, Nat.le_of_ble_eq_true rfl, Nat.le_of_ble_eq_true rfl⟩ hl.1 rfl (Nat.le_of_ble_eq_true rfl) dX12_pull_10 ⟨Nat.zero_le _, Nat.zero_le _⟩) hS (fun H locs hP hS _ => ?_)
    refine lv_goto (tgt := 19) hx hb dX12_pull_13 (by decide) ?_
    exact y_iretO h F hr hP hS hlk dX12_pull_19
def f_X12_needOf (w : Wd) (a1 : Int32) : Option Int32 :=
q_ld w 85 4 a1 (fun v_6 =>
q_ld w 86 4 a1 (fun v_12 =>
q_bo (f_X12_slopeAt w v_6 v_12) (fun v_13 =>
q_jn (fun (s0_69 : Int32) =>
q_ld w 78 4 a1 (fun v_75 =>
q_gt w 63 48 (fun v_79 =>
some (-(f_X12_floorBy ((-v_75.toInt64) * ((v_79 + s0_69).toInt64)) (10 : Int64)))))) (fun j_69 =>
if v_13 = (-1 : Int32) then
j_69 (0 : Int32)
else
q_ld w 73 10 v_13 (fun v_31 =>
q_ld w 87 4 a1 (fun v_38 =>
q_ld w 74 10 v_13 (fun v_49 =>
q_ld w 87 4 a1 (fun v_56 =>
j_69 (f_X12_floorBy ((v_31.toInt64 * ((f_X12_along v_38).toInt64)) + (v_49.toInt64 * ((f_X12_across v_56).toInt64))) (65 : Int64))))))))))
set_option maxRecDepth 100000 in
set_option maxHeartbeats 4000000 in
theorem c_X12_needOf (l : Launch) (D : va_G) (cT : Nat → ClassId) (lo : Nat) (w : Wd) (ad : Nat → Nat) (a1 : Int32) (r : Int32) (h : f_X12_needOf w a1 = some r) : Met l yX12_needOf (.code yX12_needOf cX12_needOf 4 (some .int) :: TW) { frames := 3, cells := 0, slots := 0, locals := 62 } (mPc D cT lo NB w ad [.ref (ad 63), .int a1]) (mQ D cT lo NB w w ad (some (.int r))) 0 0 (fun q => lo ≤ q) := by
  unfold f_X12_needOf at h
  refine x_met (lv := [(0, .ref (ad 63)), (1, .int a1)]) (by decide +kernel) (Nat.le_of_ble_eq_true rfl) rfl ?_
  intro p e s m args below meth c ls F hr hlk hP hin hl
  have hx := F.1
  have hb := F.2.1
  have hS : va_S (fun q => lo ≤ q) s.heap s.heap [] := va_S.rf
  refine lv_aload_n hx hb dX12_needOf_0 rfl (lv_at hl 0 rfl) ?_
  refine lv_aload_n hx hb dX12_needOf_1 rfl (lv_at hl 0 rfl) ?_
  refine x_getr F hP k_63 (hP.al 63 rfl) fl_X12_74 rfl r_63_26 dX12_needOf_2 ?_
  refine lv_iload_n hx hb dX12_needOf_5 rfl (lv_at hl 1 rfl) ?_
  refine y_iald h F hP k_85 (n2 (hP.al 85 rfl)) dX12_needOf_6 (fun v_6 h => ?_)
  refine lv_aload_n hx hb dX12_needOf_7 rfl (lv_at hl 0 rfl) ?_
  refine x_getr F hP k_63 (hP.al 63 rfl) fl_X12_77 rfl r_63_27 dX12_needOf_8 ?_
  refine lv_iload_n hx hb dX12_needOf_11 rfl (lv_at hl 1 rfl) ?_
  refine y_iald h F hP k_86 (n2 (hP.al 86 rfl)) dX12_needOf_12 (fun v_12 h => ?_)
  obtain ⟨v_13, hc_13, h⟩ := bo_s h
  refine x_goes (x_runV (As := [.int v_6, .int v_12]) (rest := []) F hP hS (c_X12_slopeAt l D cT lo w ad v_6 v_12 v_13 hc_13) cw_X12_slopeAt lk_X12_250 vi_X12_slopeAt k_63 (n2 (hP.al 63 rfl)) rfl ⟨rfl, rfl, Nat.le_of_ble_eq_true rfl, Nat.le_of_ble_eq_true rfl⟩ hl.1 rfl (Nat.le_of_ble_eq_true rfl) dX12_needOf_13 ⟨Nat.zero_le _, Nat.zero_le _⟩) hS (fun H locs hP hS _ => ?_)
  refine lv_istore_n (lv' := [(2, .int v_13), (0, .ref (ad 63)), (1, .int a1)]) hx hb dX12_needOf_16 rfl hl (Nat.le_of_ble_eq_true rfl) rfl (fun ls hl => ?_)
  refine lv_iload_n hx hb dX12_needOf_17 rfl (lv_at hl 0 rfl) ?_
  refine lv_iconst (v := -1) hx hb dX12_needOf_18 ic_m1 ?_
  refine jn_use (fun (j_69 : Int32 → Option Int32) => ∀ (s0_69 : Int32), j_69 s0_69 = some r → GG p l e { frames := 3, cells := 0, slots := 0, locals := 62 } s m args below meth c 0 0 (MQ below (mQ D cT lo NB w w ad (some (.int r))) args s 0 0 (fun q => lo ≤ q)) D cT lo NB 4 ad w 69 [(0, .ref (ad 63)), (1, .int a1)] [.int s0_69]) h (fun s0_69 h H locs ls hP hS hl => ?_) (fun j_69 J_69 h => ?_)
  · refine lv_istore_n (lv' := [(3, .int s0_69), (0, .ref (ad 63)), (1, .int a1)]) hx hb dX12_needOf_69 rfl hl (Nat.le_of_ble_eq_true rfl) rfl (fun ls hl => ?_)
    refine lv_aload_n hx hb dX12_needOf_70 rfl (lv_at hl 1 rfl) ?_
    refine x_getr F hP k_63 (hP.al 63 rfl) fl_X12_53 rfl r_63_19 dX12_needOf_71 ?_
    refine lv_iload_n hx hb dX12_needOf_74 rfl (lv_at hl 2 rfl) ?_
    refine y_iald h F hP k_78 (n2 (hP.al 78 rfl)) dX12_needOf_75 (fun v_75 h => ?_)
    refine lv_i2l hx hb dX12_needOf_76 rfl ?_
    refine lv_lneg hx hb dX12_needOf_77 ?_
    refine lv_aload_n hx hb dX12_needOf_78 rfl (lv_at hl 1 rfl) ?_
    refine y_geti h F hP k_63 (n2 (hP.al 63 rfl)) fl_X12_126 rfl dX12_needOf_79 (fun v_79 h => ?_)
    refine lv_iload_n hx hb dX12_needOf_82 rfl (lv_at hl 0 rfl) ?_
    refine lv_iadd hx hb dX12_needOf_83 ?_
    refine lv_i2l hx hb dX12_needOf_84 rfl ?_
    refine lv_lmul hx hb dX12_needOf_85 ?_
    refine lv_ldc2 F.1 F.2.1 F.2.2.1 (F.2.2.2.1 _ ct_X12_391) dX12_needOf_86 ?_
    refine x_goes (x_runS (As := [.long ((-v_75.toInt64) * ((v_79 + s0_69).toInt64)), .long (10 : Int64)]) (rest := []) F hP hS (c_X12_floorBy l D cT lo NB w ad ((-v_75.toInt64) * ((v_79 + s0_69).toInt64)) (10 : Int64) (by decide)) cw_X12_floorBy lk_X12_387 st_X12_floorBy ⟨rfl, rfl, Nat.le_of_ble_eq_true rfl, Nat.le_of_ble_eq_true rfl⟩ hl.1 rfl (Nat.le_of_ble_eq_true rfl) dX12_needOf_89 ⟨Nat.zero_le _, Nat.zero_le _⟩) hS (fun H locs hP hS _ => ?_)
    refine lv_ineg hx hb dX12_needOf_92 ?_
    exact y_iretO h F hr hP hS hlk dX12_needOf_93
  · refine lv_icmp_ne (tgt := 26) hx hb dX12_needOf_19 (by decide) (fun hc => ?_) (fun hc => ?_)
    · have h := if_f _ hc h
      refine lv_aload_n hx hb dX12_needOf_26 rfl (lv_at hl 1 rfl) ?_
      refine x_getr F hP k_63 (hP.al 63 rfl) fl_X12_38 rfl r_63_13 dX12_needOf_27 ?_
      refine lv_iload_n hx hb dX12_needOf_30 rfl (lv_at hl 0 rfl) ?_
      refine y_iald h F hP k_73 (n2 (hP.al 73 rfl)) dX12_needOf_31 (fun v_31 h => ?_)
      refine lv_i2l hx hb dX12_needOf_32 rfl ?_
      refine lv_aload_n hx hb dX12_needOf_33 rfl (lv_at hl 1 rfl) ?_
      refine x_getr F hP k_63 (hP.al 63 rfl) fl_X12_80 rfl r_63_28 dX12_needOf_34 ?_
      refine lv_iload_n hx hb dX12_needOf_37 rfl (lv_at hl 2 rfl) ?_
      refine y_iald h F hP k_87 (n2 (hP.al 87 rfl)) dX12_needOf_38 (fun v_38 h => ?_)
      refine x_goes (x_runS (As := [.int v_38]) (rest := [.long v_31.toInt64]) F hP hS (c_X12_along l D cT lo NB w ad v_38) cw_X12_along lk_X12_214 st_X12_along ⟨rfl, rfl, Nat.le_of_ble_eq_true rfl, Nat.le_of_ble_eq_true rfl⟩ hl.1 rfl (Nat.le_of_ble_eq_true rfl) dX12_needOf_39 ⟨Nat.zero_le _, Nat.zero_le _⟩) hS (fun H locs hP hS _ => ?_)
      refine lv_i2l hx hb dX12_needOf_42 rfl ?_
      refine lv_lmul hx hb dX12_needOf_43 ?_
      refine lv_aload_n hx hb dX12_needOf_44 rfl (lv_at hl 1 rfl) ?_
      refine x_getr F hP k_63 (hP.al 63 rfl) fl_X12_41 rfl r_63_14 dX12_needOf_45 ?_
      refine lv_iload_n hx hb dX12_needOf_48 rfl (lv_at hl 0 rfl) ?_
      refine y_iald h F hP k_74 (n2 (hP.al 74 rfl)) dX12_needOf_49 (fun v_49 h => ?_)
      refine lv_i2l hx hb dX12_needOf_50 rfl ?_
      refine lv_aload_n hx hb dX12_needOf_51 rfl (lv_at hl 1 rfl) ?_
      refine x_getr F hP k_63 (hP.al 63 rfl) fl_X12_80 rfl r_63_28 dX12_needOf_52 ?_
      refine lv_iload_n hx hb dX12_needOf_55 rfl (lv_at hl 2 rfl) ?_
      refine y_iald h F hP k_87 (n2 (hP.al 87 rfl)) dX12_needOf_56 (fun v_56 h => ?_)
      refine x_goes (x_runS (As := [.int v_56]) (rest := [.long v_49.toInt64, .long (v_31.toInt64 * ((f_X12_along v_38).toInt64))]) F hP hS (c_X12_across l D cT lo NB w ad v_56) cw_X12_across lk_X12_225 st_X12_across ⟨rfl, rfl, Nat.le_of_ble_eq_true rfl, Nat.le_of_ble_eq_true rfl⟩ hl.1 rfl (Nat.le_of_ble_eq_true rfl) dX12_needOf_57 ⟨Nat.zero_le _, Nat.zero_le _⟩) hS (fun H locs hP hS _ => ?_)
      refine lv_i2l hx hb dX12_needOf_60 rfl ?_
      refine lv_lmul hx hb dX12_needOf_61 ?_
      refine lv_ladd hx hb dX12_needOf_62 ?_
      refine lv_ldc2 F.1 F.2.1 F.2.2.1 (F.2.2.2.1 _ ct_X12_385) dX12_needOf_63 ?_
      refine x_goes (x_runS (As := [.long ((v_31.toInt64 * ((f_X12_along v_38).toInt64)) + (v_49.toInt64 * ((f_X12_across v_56).toInt64))), .long (65 : Int64)]) (rest := []) F hP hS (c_X12_floorBy l D cT lo NB w ad ((v_31.toInt64 * ((f_X12_along v_38).toInt64)) + (v_49.toInt64 * ((f_X12_across v_56).toInt64))) (65 : Int64) (by decide)) cw_X12_floorBy lk_X12_387 st_X12_floorBy ⟨rfl, rfl, Nat.le_of_ble_eq_true rfl, Nat.le_of_ble_eq_true rfl⟩ hl.1 rfl (Nat.le_of_ble_eq_true rfl) dX12_needOf_66 ⟨Nat.zero_le _, Nat.zero_le _⟩) hS (fun H locs hP hS _ => ?_)
      exact J_69 (f_X12_floorBy ((v_31.toInt64 * ((f_X12_along v_38).toInt64)) + (v_49.toInt64 * ((f_X12_across v_56).toInt64))) (65 : Int64)) h _ _ _ hP hS (lv_sub hl [1, 2] rfl)
    · have h := if_t _ hc h
      refine lv_iconst (v := 0) hx hb dX12_needOf_22 ic_0 ?_
      refine lv_goto (tgt := 69) hx hb dX12_needOf_23 (by decide) ?_
      exact J_69 (0 : Int32) h _ _ _ hP hS (lv_sub hl [1, 2] rfl)
def f_X12_need (w : Wd) (a1 : Int32) : Option Int32 :=
q_bo (f_X12_standsNow w a1) (fun v_2 =>
if v_2 = 0 then
some (-2147483648 : Int32)
else
q_bo (f_X12_needOf w a1) (fun v_10 =>
some v_10))
set_option maxRecDepth 100000 in
set_option maxHeartbeats 4000000 in
theorem c_X12_need (l : Launch) (D : va_G) (cT : Nat → ClassId) (lo : Nat) (w : Wd) (ad : Nat → Nat) (a1 : Int32) (r : Int32) (h : f_X12_need w a1 = some r) : Met l yX12_need (.code yX12_need cX12_need 2 (some .int) :: TW) { frames := 4, cells := 0, slots := 0, locals := 85 } (mPc D cT lo NB w ad [.ref (ad 63), .int a1]) (mQ D cT lo NB w w ad (some (.int r))) 0 0 (fun q => lo ≤ q) := by
  unfold f_X12_need at h
  refine x_met (lv := [(0, .ref (ad 63)), (1, .int a1)]) (by decide +kernel) (Nat.le_of_ble_eq_true rfl) rfl ?_
  intro p e s m args below meth c ls F hr hlk hP hin hl
  have hx := F.1
  have hb := F.2.1
  have hS : va_S (fun q => lo ≤ q) s.heap s.heap [] := va_S.rf
  refine lv_aload_n hx hb dX12_need_0 rfl (lv_at hl 0 rfl) ?_
  refine lv_iload_n hx hb dX12_need_1 rfl (lv_at hl 1 rfl) ?_
  obtain ⟨v_2, hc_2, h⟩ := bo_s h
  refine x_goesZ (x_runV (As := [.int a1]) (rest := []) F hP hS (c_X12_standsNow l D cT lo w ad a1 v_2 hc_2) cw_X12_standsNow lk_X12_379 vi_X12_standsNow k_63 (n2 (hP.al 63 rfl)) rfl ⟨rfl, rfl, Nat.le_of_ble_eq_true rfl, Nat.le_of_ble_eq_true rfl⟩ hl.1 rfl (Nat.le_of_ble_eq_true rfl) dX12_need_2 ⟨Nat.zero_le _, Nat.zero_le _⟩) hS (fun H locs hz_2 hP hS _ => ?_)
  refine lv_if_eq (tgt := 16) hx hb dX12_need_5 (by decide) (fun hc => ?_) (fun hc => ?_)
  · have h := if_t _ hc h
    refine lv_ldcw F.1 F.2.1 F.2.2.1 (F.2.2.2.1 _ ct_X12_329) dX12_need_16 ?_
    exact y_iretO h F hr hP hS hlk dX12_need_19
  · have h := if_f _ hc h
    refine lv_aload_n hx hb dX12_need_8 rfl (lv_at hl 0 rfl) ?_
    refine lv_iload_n hx hb dX12_need_9 rfl (lv_at hl 1 rfl) ?_
    obtain ⟨v_10, hc_10, h⟩ := bo_s h
    refine x_goes (x_runV (As := [.int a1]) (rest := []) F hP hS (c_X12_needOf l D cT lo w ad a1 v_10 hc_10) cw_X12_needOf lk_X12_393 vi_X12_needOf k_63 (n2 (hP.al 63 rfl)) rfl ⟨rfl, rfl, Nat.le_of_ble_eq_true rfl, Nat.le_of_ble_eq_true rfl⟩ hl.1 rfl (Nat.le_of_ble_eq_true rfl) dX12_need_10 ⟨Nat.zero_le _, Nat.zero_le _⟩) hS (fun H locs hP hS _ => ?_)
    refine lv_goto (tgt := 19) hx hb dX12_need_13 (by decide) ?_
    exact y_iretO h F hr hP hS hlk dX12_need_19
def f_X12_may (w : Wd) (a1 : Int32) : Option Int32 :=
if (f_X12_isCar w a1) = 0 then
some (-2 : Int32)
else
q_ld w 84 4 a1 (fun v_16 =>
if v_16 = 0 then
some (-3 : Int32)
else
q_bo (f_X12_pullOf w a1) (fun v_25 =>
if v_25 ≤ 0 then
some (0 : Int32)
else
q_bo (f_X12_pullOf w a1) (fun v_33 =>
q_bo (f_X12_needOf w a1) (fun v_38 =>
if v_33 < v_38 then
some (0 : Int32)
else
some (1 : Int32)))))
set_option maxRecDepth 100000 in
set_option maxHeartbeats 4000000 in
theorem c_X12_may (l : Launch) (D : va_G) (cT : Nat → ClassId) (lo : Nat) (w : Wd) (ad : Nat → Nat) (a1 : Int32) (r : Int32) (h : f_X12_may w a1 = some r) : Met l yX12_may (.code yX12_may cX12_may 2 (some .int) :: TW) { frames := 6, cells := 0, slots := 0, locals := 136 } (mPc D cT lo NB w ad [.ref (ad 63), .int a1]) (mQ D cT lo NB w w ad (some (.int r))) 0 0 (fun q => lo ≤ q) := by
  unfold f_X12_may at h
  refine x_met (lv := [(0, .ref (ad 63)), (1, .int a1)]) (by decide +kernel) (Nat.le_of_ble_eq_true rfl) rfl ?_
  intro p e s m args below meth c ls F hr hlk hP hin hl
  have hx := F.1
  have hb := F.2.1
  have hS : va_S (fun q => lo ≤ q) s.heap s.heap [] := va_S.rf
  refine lv_aload_n hx hb dX12_may_0 rfl (lv_at hl 0 rfl) ?_
  refine lv_iload_n hx hb dX12_may_1 rfl (lv_at hl 1 rfl) ?_
  refine x_goesZ (x_runV (As := [.int a1]) (rest := []) F hP hS (c_X12_isCar l D cT lo w ad a1) cw_X12_isCar lk_X12_257 vi_X12_isCar k_63 (n2 (hP.al 63 rfl)) rfl ⟨rfl, rfl, Nat.le_of_ble_eq_true rfl, Nat.le_of_ble_eq_true rfl⟩ hl.1 rfl (Nat.le_of_ble_eq_true rfl) dX12_may_2 ⟨Nat.zero_le _, Nat.zero_le _⟩) hS (fun H locs hz_2 hP hS _ => ?_)
  refine lv_if_ne (tgt := 11) hx hb dX12_may_5 (by decide) (fun hc => ?_) (fun hc => ?_)
  · have h := if_f _ hc h
    refine lv_aload_n hx hb dX12_may_11 rfl (lv_at hl 0 rfl) ?_
    refine x_getr F hP k_63 (hP.al 63 rfl) fl_X12_71 rfl r_63_25 dX12_may_12 ?_
    refine lv_iload_n hx hb dX12_may_15 rfl (lv_at hl 1 rfl) ?_
    refine y_zald h F hP k_84 (n2 (hP.al 84 rfl)) dX12_may_16 (fun v_16 h => ?_)
    refine lv_if_ne (tgt := 23) hx hb dX12_may_17 (by decide) (fun hc => ?_) (fun hc => ?_)
    · have h := if_f _ hc h
      refine lv_aload_n hx hb dX12_may_23 rfl (lv_at hl 0 rfl) ?_
      refine lv_iload_n hx hb dX12_may_24 rfl (lv_at hl 1 rfl) ?_
      obtain ⟨v_25, hc_25, h⟩ := bo_s h
      refine x_goes (x_runV (As := [.int a1]) (rest := []) F hP hS (c_X12_pullOf l D cT lo w ad a1 v_25 hc_25) cw_X12_pullOf lk_X12_382 vi_X12_pullOf k_63 (n2 (hP.al 63 rfl)) rfl ⟨rfl, rfl, Nat.le_of_ble_eq_true rfl, Nat.le_of_ble_eq_true rfl⟩ hl.1 rfl (Nat.le_of_ble_eq_true rfl) dX12_may_25 ⟨Nat.zero_le _, Nat.zero_le _⟩) hS (fun H locs hP hS _ => ?_)
      refine lv_if_le (tgt := 48) hx hb dX12_may_28 (by decide) (fun hc => ?_) (fun hc => ?_)
      · have h := if_t _ hc h
        refine lv_iconst (v := 0) hx hb dX12_may_48 ic_0 ?_
        exact y_iretO h F hr hP hS hlk dX12_may_49
      · have h := if_f _ hc h
        refine lv_aload_n hx hb dX12_may_31 rfl (lv_at hl 0 rfl) ?_
        refine lv_iload_n hx hb dX12_may_32 rfl (lv_at hl 1 rfl) ?_
        obtain ⟨v_33, hc_33, h⟩ := bo_s h
        refine x_goes (x_runV (As := [.int a1]) (rest := []) F hP hS (c_X12_pullOf l D cT lo w ad a1 v_33 hc_33) cw_X12_pullOf lk_X12_382 vi_X12_pullOf k_63 (n2 (hP.al 63 rfl)) rfl ⟨rfl, rfl, Nat.le_of_ble_eq_true rfl, Nat.le_of_ble_eq_true rfl⟩ hl.1 rfl (Nat.le_of_ble_eq_true rfl) dX12_may_33 ⟨Nat.zero_le _, Nat.zero_le _⟩) hS (fun H locs hP hS _ => ?_)
        refine lv_aload_n hx hb dX12_may_36 rfl (lv_at hl 0 rfl) ?_
        refine lv_iload_n hx hb dX12_may_37 rfl (lv_at hl 1 rfl) ?_
        obtain ⟨v_38, hc_38, h⟩ := bo_s h
        refine x_goes (x_runV (As := [.int a1]) (rest := [.int v_33]) F hP hS (c_X12_needOf l D cT lo w ad a1 v_38 hc_38) cw_X12_needOf lk_X12_393 vi_X12_needOf k_63 (n2 (hP.al 63 rfl)) rfl ⟨rfl, rfl, Nat.le_of_ble_eq_true rfl, Nat.le_of_ble_eq_true rfl⟩ hl.1 rfl (Nat.le_of_ble_eq_true rfl) dX12_may_38 ⟨Nat.zero_le _, Nat.zero_le _⟩) hS (fun H locs hP hS _ => ?_)
        refine lv_icmp_lt (tgt := 48) hx hb dX12_may_41 (by decide) (fun hc => ?_) (fun hc => ?_)
        · have h := if_t _ hc h
          refine lv_iconst (v := 0) hx hb dX12_may_48 ic_0 ?_
          exact y_iretO h F hr hP hS hlk dX12_may_49
        · have h := if_f _ hc h
          refine lv_iconst (v := 1) hx hb dX12_may_44 ic_1 ?_
          refine lv_goto (tgt := 49) hx hb dX12_may_45 (by decide) ?_
          exact y_iretO h F hr hP hS hlk dX12_may_49
    · have h := if_t _ hc h
      refine lv_bipush (v := -3) hx hb dX12_may_20 ib_m3 ?_
      exact y_iretO h F hr hP hS hlk dX12_may_22
  · have h := if_t _ hc h
    refine lv_bipush (v := -2) hx hb dX12_may_8 ib_m2 ?_
    exact y_iretO h F hr hP hS hlk dX12_may_10
def l_X12_woods_44 (a1 : Int32) (w : Wd) (s0_41 : Int32) : Nat → Int32 → Option Int32
  | 0, _ => none
  | n_44 + 1, x3_44l =>
    if (21 : Int32) ≤ x3_44l then
    some (-1 : Int32)
    else
    q_bo (f_X12_isOnWet w a1) (fun v_52 =>
    q_jn (fun (s0_75 : Int32) =>
    q_bo (f_X12_needOf w a1) (fun v_83 =>
    if (s0_75 + s0_41) < (-v_83) then
    q_lt (x3_44l + (1 : Int32)) (fun v_92 =>
    l_X12_woods_44 a1 w s0_41 n_44 v_92)
    else
    some x3_44l)) (fun j_75 =>
    if v_52 = 0 then
    q_gt w 63 49 (fun v_71 =>
    j_75 (x3_44l * v_71))
    else
    q_gt w 63 49 (fun v_60 =>
    j_75 ((x3_44l * v_60) / (2 : Int32)))))
def f_X12_woods (w : Wd) (a1 : Int32) : Option Int32 :=
if (f_X12_isCar w a1) = 0 then
some (-2 : Int32)
else
q_ld w 84 4 a1 (fun v_16 =>
if v_16 = 0 then
some (-3 : Int32)
else
q_bo (f_X12_pullOf w a1) (fun v_25 =>
q_jn (fun (s0_41 : Int32) =>
l_X12_woods_44 a1 w s0_41 FU (0 : Int32)) (fun j_41 =>
if 0 ≤ v_25 then
j_41 (0 : Int32)
else
q_bo (f_X12_pullOf w a1) (fun v_33 =>
j_41 (-v_33)))))
set_option maxRecDepth 100000 in
set_option maxHeartbeats 4000000 in
theorem c_X12_woods (l : Launch) (D : va_G) (cT : Nat → ClassId) (lo : Nat) (w : Wd) (ad : Nat → Nat) (a1 : Int32) (r : Int32) (h : f_X12_woods w a1 = some r) : Met l yX12_woods (.code yX12_woods cX12_woods 5 (some .int) :: TW) { frames := 6, cells := 0, slots := 0, locals := 136 } (mPc D cT lo NB w ad [.ref (ad 63), .int a1]) (mQ D cT lo NB w w ad (some (.int r))) 0 0 (fun q => lo ≤ q) := by
  unfold f_X12_woods at h
  refine x_met (lv := [(0, .ref (ad 63)), (1, .int a1)]) (by decide +kernel) (Nat.le_of_ble_eq_true rfl) rfl ?_
  intro p e s m args below meth c ls F hr hlk hP hin hl
  have hx := F.1
  have hb := F.2.1
  have hS : va_S (fun q => lo ≤ q) s.heap s.heap [] := va_S.rf
  refine lv_aload_n hx hb dX12_woods_0 rfl (lv_at hl 0 rfl) ?_
  refine lv_iload_n hx hb dX12_woods_1 rfl (lv_at hl 1 rfl) ?_
  refine x_goesZ (x_runV (As := [.int a1]) (rest := []) F hP hS (c_X12_isCar l D cT lo w ad a1) cw_X12_isCar lk_X12_257 vi_X12_isCar k_63 (n2 (hP.al 63 rfl)) rfl ⟨rfl, rfl, Nat.le_of_ble_eq_true rfl, Nat.le_of_ble_eq_true rfl⟩ hl.1 rfl (Nat.le_of_ble_eq_true rfl) dX12_woods_2 ⟨Nat.zero_le _, Nat.zero_le _⟩) hS (fun H locs hz_2 hP hS _ => ?_)
  refine lv_if_ne (tgt := 11) hx hb dX12_woods_5 (by decide) (fun hc => ?_) (fun hc => ?_)
  · have h := if_f _ hc h
    refine lv_aload_n hx hb dX12_woods_11 rfl (lv_at hl 0 rfl) ?_
    refine x_getr F hP k_63 (hP.al 63 rfl) fl_X12_71 rfl r_63_25 dX12_woods_12 ?_
    refine lv_iload_n hx hb dX12_woods_15 rfl (lv_at hl 1 rfl) ?_
    refine y_zald h F hP k_84 (n2 (hP.al 84 rfl)) dX12_woods_16 (fun v_16 h => ?_)
    refine lv_if_ne (tgt := 23) hx hb dX12_woods_17 (by decide) (fun hc => ?_) (fun hc => ?_)
    · have h := if_f _ hc h
      refine lv_aload_n hx hb dX12_woods_23 rfl (lv_at hl 0 rfl) ?_
      refine lv_iload_n hx hb dX12_woods_24 rfl (lv_at hl 1 rfl) ?_
      obtain ⟨v_25, hc_25, h⟩ := bo_s h
      refine x_goes (x_runV (As := [.int a1]) (rest := []) F hP hS (c_X12_pullOf l D cT lo w ad a1 v_25 hc_25) cw_X12_pullOf lk_X12_382 vi_X12_pullOf k_63 (n2 (hP.al 63 rfl)) rfl ⟨rfl, rfl, Nat.le_of_ble_eq_true rfl, Nat.le_of_ble_eq_true rfl⟩ hl.1 rfl (Nat.le_of_ble_eq_true rfl) dX12_woods_25 ⟨Nat.zero_le _, Nat.zero_le _⟩) hS (fun H locs hP hS _ => ?_)
      refine jn_use (fun (j_41 : Int32 → Option Int32) => ∀ (s0_41 : Int32), j_41 s0_41 = some r → GG p l e { frames := 6, cells := 0, slots := 0, locals := 136 } s m args below meth c 0 0 (MQ below (mQ D cT lo NB w w ad (some (.int r))) args s 0 0 (fun q => lo ≤ q)) D cT lo NB 5 ad w 41 [(0, .ref (ad 63)), (1, .int a1)] [.int s0_41]) h (fun s0_41 h H locs ls hP hS hl => ?_) (fun j_41 J_41 h => ?_)
      · refine lv_istore_n (lv' := [(2, .int s0_41), (0, .ref (ad 63)), (1, .int a1)]) hx hb dX12_woods_41 rfl hl (Nat.le_of_ble_eq_true rfl) rfl (fun ls hl => ?_)
        refine lv_iconst (v := 0) hx hb dX12_woods_42 ic_0 ?_
        refine lv_istore_n (lv' := [(3, .int (0 : Int32)), (2, .int s0_41), (0, .ref (ad 63)), (1, .int a1)]) hx hb dX12_woods_43 rfl hl (Nat.le_of_ble_eq_true rfl) rfl (fun ls hl => ?_)
        have L_44 : ∀ (n_44 : Nat) (x3_44l : Int32), l_X12_woods_44 a1 w s0_41 n_44 x3_44l = some r → GG p l e { frames := 6, cells := 0, slots := 0, locals := 136 } s m args below meth c 0 0 (MQ below (mQ D cT lo NB w w ad (some (.int r))) args s 0 0 (fun q => lo ≤ q)) D cT lo NB 5 ad w 44 [(3, .int x3_44l), (2, .int s0_41), (0, .ref (ad 63)), (1, .int a1)] [] := by
          intro n_44
          induction n_44 with
          | zero =>
            intro x3_44l h
            exact absurd h (by unfold l_X12_woods_44; exact fun z => by cases z)
          | succ n_44 ih_44 =>
            intro x3_44l h H locs ls hP hS hl
            unfold l_X12_woods_44 at h
            refine lv_iload_n hx hb dX12_woods_44 rfl (lv_at hl 0 rfl) ?_
            refine lv_bipush (v := 21) hx hb dX12_woods_45 ib_21 ?_
            refine lv_icmp_ge (tgt := 98) hx hb dX12_woods_47 (by decide) (fun hc => ?_) (fun hc => ?_)
            · have h := if_t _ hc h
              refine lv_iconst (v := -1) hx hb dX12_woods_98 ic_m1 ?_
              exact y_iretO h F hr hP hS hlk dX12_woods_99
            · have h := if_f _ hc h
              refine lv_aload_n hx hb dX12_woods_50 rfl (lv_at hl 2 rfl) ?_
              refine lv_iload_n hx hb dX12_woods_51 rfl (lv_at hl 3 rfl) ?_
              obtain ⟨v_52, hc_52, h⟩ := bo_s h
              refine x_goesZ (x_runV (As := [.int a1]) (rest := []) F hP hS (c_X12_isOnWet l D cT lo w ad a1 v_52 hc_52) cw_X12_isOnWet lk_X12_376 vi_X12_isOnWet k_63 (n2 (hP.al 63 rfl)) rfl ⟨rfl, rfl, Nat.le_of_ble_eq_true rfl, Nat.le_of_ble_eq_true rfl⟩ hl.1 rfl (Nat.le_of_ble_eq_true rfl) dX12_woods_52 ⟨Nat.zero_le _, Nat.zero_le _⟩) hS (fun H locs hz_52 hP hS _ => ?_)
              refine jn_use (fun (j_75 : Int32 → Option Int32) => ∀ (s0_75 : Int32), j_75 s0_75 = some r → GG p l e { frames := 6, cells := 0, slots := 0, locals := 136 } s m args below meth c 0 0 (MQ below (mQ D cT lo NB w w ad (some (.int r))) args s 0 0 (fun q => lo ≤ q)) D cT lo NB 5 ad w 75 [(3, .int x3_44l), (2, .int s0_41), (0, .ref (ad 63)), (1, .int a1)] [.int s0_75]) h (fun s0_75 h H locs ls hP hS hl => ?_) (fun j_75 J_75 h => ?_)
              · refine lv_istore (lv' := [(4, .int s0_75), (3, .int x3_44l), (2, .int s0_41), (0, .ref (ad 63)), (1, .int a1)]) hx hb dX12_woods_75 hl (Nat.le_of_ble_eq_true rfl) rfl (fun ls hl => ?_)
                refine lv_iload hx hb dX12_woods_77 (lv_at hl 0 rfl) ?_
                refine lv_iload_n hx hb dX12_woods_79 rfl (lv_at hl 2 rfl) ?_
                refine lv_iadd hx hb dX12_woods_80 ?_
                refine lv_aload_n hx hb dX12_woods_81 rfl (lv_at hl 3 rfl) ?_
                refine lv_iload_n hx hb dX12_woods_82 rfl (lv_at hl 4 rfl) ?_
                obtain ⟨v_83, hc_83, h⟩ := bo_s h
                refine x_goes (x_runV (As := [.int a1]) (rest := [.int (s0_75 + s0_41)]) F hP hS (c_X12_needOf l D cT lo w ad a1 v_83 hc_83) cw_X12_needOf lk_X12_393 vi_X12_needOf k_63 (n2 (hP.al 63 rfl)) rfl ⟨rfl, rfl, Nat.le_of_ble_eq_true rfl, Nat.le_of_ble_eq_true rfl⟩ hl.1 rfl (Nat.le_of_ble_eq_true rfl) dX12_woods_83 ⟨Nat.zero_le _, Nat.zero_le _⟩) hS (fun H locs hP hS _ => ?_)
                refine lv_ineg hx hb dX12_woods_86 ?_
                refine lv_icmp_lt (tgt := 92) hx hb dX12_woods_87 (by decide) (fun hc => ?_) (fun hc => ?_)
                · have h := if_t _ hc h
                  refine y_iinc (lv' := fun (v_92 : Int32) => [(3, .int v_92), (4, .int s0_75), (2, .int s0_41), (0, .ref (ad 63)), (1, .int a1)]) h F ic_1 dX12_woods_92 hl (kq := 1) rfl (Nat.le_of_ble_eq_true rfl) (fun _ => rfl) (fun v_92 ls hl h => ?_)
                  refine lv_goto (tgt := 44) hx hb dX12_woods_95 (by decide) ?_
                  exact ih_44 v_92 h _ _ _ hP hS (lv_sub hl [0, 2, 3, 4] rfl)
                · have h := if_f _ hc h
                  refine lv_iload_n hx hb dX12_woods_90 rfl (lv_at hl 1 rfl) ?_
                  exact y_iretO h F hr hP hS hlk dX12_woods_91
              · refine lv_if_eq (tgt := 69) hx hb dX12_woods_55 (by decide) (fun hc => ?_) (fun hc => ?_)
                · have h := if_t _ hc h
                  refine lv_iload_n hx hb dX12_woods_69 rfl (lv_at hl 0 rfl) ?_
                  refine lv_aload_n hx hb dX12_woods_70 rfl (lv_at hl 2 rfl) ?_
                  refine y_geti h F hP k_63 (n2 (hP.al 63 rfl)) fl_X12_129 rfl dX12_woods_71 (fun v_71 h => ?_)
                  refine lv_imul hx hb dX12_woods_74 ?_
                  exact J_75 (x3_44l * v_71) h _ _ _ hP hS (lv_sub hl [0, 1, 2, 3] rfl)
                · have h := if_f _ hc h
                  refine lv_iload_n hx hb dX12_woods_58 rfl (lv_at hl 0 rfl) ?_
                  refine lv_aload_n hx hb dX12_woods_59 rfl (lv_at hl 2 rfl) ?_
                  refine y_geti h F hP k_63 (n2 (hP.al 63 rfl)) fl_X12_129 rfl dX12_woods_60 (fun v_60 h => ?_)
                  refine lv_imul hx hb dX12_woods_63 ?_
                  refine lv_iconst (v := 2) hx hb dX12_woods_64 ic_2 ?_
                  refine lv_idiv hx hb dX12_woods_65 (by decide) ?_
                  refine lv_goto (tgt := 75) hx hb dX12_woods_66 (by decide) ?_
                  exact J_75 ((x3_44l * v_60) / (2 : Int32)) h _ _ _ hP hS (lv_sub hl [0, 1, 2, 3] rfl)
        exact L_44 FU (0 : Int32) h _ _ _ hP hS (lv_sub hl [0, 1, 2, 3] rfl)
      · refine lv_if_ge (tgt := 40) hx hb dX12_woods_28 (by decide) (fun hc => ?_) (fun hc => ?_)
        · have h := if_t _ hc h
          refine lv_iconst (v := 0) hx hb dX12_woods_40 ic_0 ?_
          exact J_41 (0 : Int32) h _ _ _ hP hS (lv_sub hl [0, 1] rfl)
        · have h := if_f _ hc h
          refine lv_aload_n hx hb dX12_woods_31 rfl (lv_at hl 0 rfl) ?_
          refine lv_iload_n hx hb dX12_woods_32 rfl (lv_at hl 1 rfl) ?_
          obtain ⟨v_33, hc_33, h⟩ := bo_s h
          refine x_goes (x_runV (As := [.int a1]) (rest := []) F hP hS (c_X12_pullOf l D cT lo w ad a1 v_33 hc_33) cw_X12_pullOf lk_X12_382 vi_X12_pullOf k_63 (n2 (hP.al 63 rfl)) rfl ⟨rfl, rfl, Nat.le_of_ble_eq_true rfl, Nat.le_of_ble_eq_true rfl⟩ hl.1 rfl (Nat.le_of_ble_eq_true rfl) dX12_woods_33 ⟨Nat.zero_le _, Nat.zero_le _⟩) hS (fun H locs hP hS _ => ?_)
          refine lv_ineg hx hb dX12_woods_36 ?_
          refine lv_goto (tgt := 41) hx hb dX12_woods_37 (by decide) ?_
          exact J_41 (-v_33) h _ _ _ hP hS (lv_sub hl [0, 1] rfl)
    · have h := if_t _ hc h
      refine lv_bipush (v := -3) hx hb dX12_woods_20 ib_m3 ?_
      exact y_iretO h F hr hP hS hlk dX12_woods_22
  · have h := if_t _ hc h
    refine lv_bipush (v := -2) hx hb dX12_woods_8 ib_m2 ?_
    exact y_iretO h F hr hP hS hlk dX12_woods_10
def f_X12_team (w : Wd) (a1 : Int32) : Option (Int32 × Wd) :=
if (f_X12_in a1 (1 : Int32) (300 : Int32)) = 0 then
some ((-2 : Int32), w)
else
q_gt w 63 50 (fun v_15 =>
if v_15 = (4 : Int32) then
some ((-4 : Int32), w)
else
q_gt w 63 50 (fun v_30 =>
q_st w 100 4 v_30 a1 (fun w_34 =>
q_gt w_34 63 50 (fun v_37 =>
q_pt w_34 63 50 (v_37 + (1 : Int32)) (fun w_42 =>
q_gt w_42 63 50 (fun v_46 =>
some (v_46 - (1 : Int32), w_42)))))))
set_option maxRecDepth 100000 in
set_option maxHeartbeats 4000000 in
theorem c_X12_team (l : Launch) (D : va_G) (cT : Nat → ClassId) (lo : Nat) (w : Wd) (ad : Nat → Nat) (a1 : Int32) (r : Int32) (w9 : Wd) (h : f_X12_team w a1 = some (r, w9)) : Met l yX12_team (.code yX12_team cX12_team 2 (some .int) :: TW) { frames := 1, cells := 0, slots := 0, locals := 22 } (mPc D cT lo NB w ad [.ref (ad 63), .int a1]) (mQ D cT lo NB w w9 ad (some (.int r))) 0 0 (fun q => lo ≤ q) := by
  unfold f_X12_team at h
  refine x_met (lv := [(0, .ref (ad 63)), (1, .int a1)]) (by decide +kernel) (Nat.le_of_ble_eq_true rfl) rfl ?_
  intro p e s m args below meth c ls F hr hlk hP hin hl
  have hx := F.1
  have hb := F.2.1
  have hS : va_S (fun q => lo ≤ q) s.heap s.heap [] := va_S.rf
  have hM_w : mono w w := mono.refl
  refine lv_iload_n hx hb dX12_team_0 rfl (lv_at hl 1 rfl) ?_
  refine lv_iconst (v := 1) hx hb dX12_team_1 ic_1 ?_
  refine lv_sipush (v := 300) hx hb dX12_team_2 is_300 ?_
  refine x_goesZ (x_runS (As := [.int a1, .int (1 : Int32), .int (300 : Int32)]) (rest := []) F hP hS (c_X12_in l D cT lo NB w ad a1 (1 : Int32) (300 : Int32)) cw_X12_in lk_X12_217 st_X12_in ⟨rfl, rfl, Nat.le_of_ble_eq_true rfl, Nat.le_of_ble_eq_true rfl⟩ hl.1 rfl (Nat.le_of_ble_eq_true rfl) dX12_team_5 ⟨Nat.zero_le _, Nat.zero_le _⟩) hS (fun H locs hz_5 hP hS _ => ?_)
  refine lv_if_ne (tgt := 14) hx hb dX12_team_8 (by decide) (fun hc => ?_) (fun hc => ?_)
  · have h := if_f _ hc h
    refine lv_aload_n hx hb dX12_team_14 rfl (lv_at hl 0 rfl) ?_
    refine y_geti h F hP k_63 (n2 (hP.al 63 rfl)) fl_X12_396 rfl dX12_team_15 (fun v_15 h => ?_)
    refine lv_iconst (v := 4) hx hb dX12_team_18 ic_4 ?_
    refine lv_icmp_ne (tgt := 25) hx hb dX12_team_19 (by decide) (fun hc => ?_) (fun hc => ?_)
    · have h := if_f _ hc h
      refine lv_aload_n hx hb dX12_team_25 rfl (lv_at hl 0 rfl) ?_
      refine x_getr F hP k_63 (hP.al 63 rfl) fl_X12_132 rfl r_63_51 dX12_team_26 ?_
      refine lv_aload_n hx hb dX12_team_29 rfl (lv_at hl 0 rfl) ?_
      refine y_geti h F hP k_63 (n2 (hP.al 63 rfl)) fl_X12_396 rfl dX12_team_30 (fun v_30 h => ?_)
      refine lv_iload_n hx hb dX12_team_33 rfl (lv_at hl 1 rfl) ?_
      refine y_iast h F hP hS k_100 (n2 (hP.al 100 rfl)) dX12_team_34 (fun w_34 H locs hm h hP hS => ?_)
      have hM_w := hm
      refine lv_aload_n hx hb dX12_team_35 rfl (lv_at hl 0 rfl) ?_
      refine lv_dup hx hb dX12_team_36 rfl ?_
      refine y_geti h F hP k_63 (n2 (hP.al 63 rfl)) fl_X12_396 rfl dX12_team_37 (fun v_37 h => ?_)
      refine lv_iconst (v := 1) hx hb dX12_team_40 ic_1 ?_
      refine lv_iadd hx hb dX12_team_41 ?_
      refine y_puti h F hP hS k_63 (n2 (hP.al 63 rfl)) fl_X12_396 rfl dX12_team_42 (fun w_42 H locs hm h hP hS => ?_)
      have hM_w := hM_w.trans hm
      refine lv_aload_n hx hb dX12_team_45 rfl (lv_at hl 0 rfl) ?_
      refine y_geti h F hP k_63 (n2 (hP.al 63 rfl)) fl_X12_396 rfl dX12_team_46 (fun v_46 h => ?_)
      refine lv_iconst (v := 1) hx hb dX12_team_49 ic_1 ?_
      refine lv_isub hx hb dX12_team_50 ?_
      exact y_iretM h F hr hP hS hM_w hlk dX12_team_51
    · have h := if_t _ hc h
      refine lv_bipush (v := -4) hx hb dX12_team_22 ib_m4 ?_
      exact y_iretM h F hr hP hS mono.refl hlk dX12_team_24
  · have h := if_t _ hc h
    refine lv_bipush (v := -2) hx hb dX12_team_11 ib_m2 ?_
    exact y_iretM h F hr hP hS mono.refl hlk dX12_team_13
def f_X12_stage (w : Wd) (a1 : Int32) : Option (Int32 × Wd) :=
if (f_X12_in a1 (0 : Int32) (2000 : Int32)) = 0 then
some ((-2 : Int32), w)
else
q_gt w 63 52 (fun v_15 =>
if v_15 = (6 : Int32) then
some ((-4 : Int32), w)
else
q_gt w 63 52 (fun v_31 =>
q_st w 101 6 v_31 a1 (fun w_35 =>
q_gt w_35 63 52 (fun v_38 =>
q_pt w_35 63 52 (v_38 + (1 : Int32)) (fun w_43 =>
q_gt w_43 63 52 (fun v_47 =>
some (v_47 - (1 : Int32), w_43)))))))
set_option maxRecDepth 100000 in
set_option maxHeartbeats 4000000 in
theorem c_X12_stage (l : Launch) (D : va_G) (cT : Nat → ClassId) (lo : Nat) (w : Wd) (ad : Nat → Nat) (a1 : Int32) (r : Int32) (w9 : Wd) (h : f_X12_stage w a1 = some (r, w9)) : Met l yX12_stage (.code yX12_stage cX12_stage 2 (some .int) :: TW) { frames := 1, cells := 0, slots := 0, locals := 22 } (mPc D cT lo NB w ad [.ref (ad 63), .int a1]) (mQ D cT lo NB w w9 ad (some (.int r))) 0 0 (fun q => lo ≤ q) := by
  unfold f_X12_stage at h
  refine x_met (lv := [(0, .ref (ad 63)), (1, .int a1)]) (by decide +kernel) (Nat.le_of_ble_eq_true rfl) rfl ?_
  intro p e s m args below meth c ls F hr hlk hP hin hl
  have hx := F.1
  have hb := F.2.1
  have hS : va_S (fun q => lo ≤ q) s.heap s.heap [] := va_S.rf
  have hM_w : mono w w := mono.refl
  refine lv_iload_n hx hb dX12_stage_0 rfl (lv_at hl 1 rfl) ?_
  refine lv_iconst (v := 0) hx hb dX12_stage_1 ic_0 ?_
  refine lv_sipush (v := 2000) hx hb dX12_stage_2 is_2000 ?_
  refine x_goesZ (x_runS (As := [.int a1, .int (0 : Int32), .int (2000 : Int32)]) (rest := []) F hP hS (c_X12_in l D cT lo NB w ad a1 (0 : Int32) (2000 : Int32)) cw_X12_in lk_X12_217 st_X12_in ⟨rfl, rfl, Nat.le_of_ble_eq_true rfl, Nat.le_of_ble_eq_true rfl⟩ hl.1 rfl (Nat.le_of_ble_eq_true rfl) dX12_stage_5 ⟨Nat.zero_le _, Nat.zero_le _⟩) hS (fun H locs hz_5 hP hS _ => ?_)
  refine lv_if_ne (tgt := 14) hx hb dX12_stage_8 (by decide) (fun hc => ?_) (fun hc => ?_)
  · have h := if_f _ hc h
    refine lv_aload_n hx hb dX12_stage_14 rfl (lv_at hl 0 rfl) ?_
    refine y_geti h F hP k_63 (n2 (hP.al 63 rfl)) fl_X12_399 rfl dX12_stage_15 (fun v_15 h => ?_)
    refine lv_bipush (v := 6) hx hb dX12_stage_18 ib_6 ?_
    refine lv_icmp_ne (tgt := 26) hx hb dX12_stage_20 (by decide) (fun hc => ?_) (fun hc => ?_)
    · have h := if_f _ hc h
      refine lv_aload_n hx hb dX12_stage_26 rfl (lv_at hl 0 rfl) ?_
      refine x_getr F hP k_63 (hP.al 63 rfl) fl_X12_135 rfl r_63_53 dX12_stage_27 ?_
      refine lv_aload_n hx hb dX12_stage_30 rfl (lv_at hl 0 rfl) ?_
      refine y_geti h F hP k_63 (n2 (hP.al 63 rfl)) fl_X12_399 rfl dX12_stage_31 (fun v_31 h => ?_)
      refine lv_iload_n hx hb dX12_stage_34 rfl (lv_at hl 1 rfl) ?_
      refine y_iast h F hP hS k_101 (n2 (hP.al 101 rfl)) dX12_stage_35 (fun w_35 H locs hm h hP hS => ?_)
      have hM_w := hm
      refine lv_aload_n hx hb dX12_stage_36 rfl (lv_at hl 0 rfl) ?_
      refine lv_dup hx hb dX12_stage_37 rfl ?_
      refine y_geti h F hP k_63 (n2 (hP.al 63 rfl)) fl_X12_399 rfl dX12_stage_38 (fun v_38 h => ?_)
      refine lv_iconst (v := 1) hx hb dX12_stage_41 ic_1 ?_
      refine lv_iadd hx hb dX12_stage_42 ?_
      refine y_puti h F hP hS k_63 (n2 (hP.al 63 rfl)) fl_X12_399 rfl dX12_stage_43 (fun w_43 H locs hm h hP hS => ?_)
      have hM_w := hM_w.trans hm
      refine lv_aload_n hx hb dX12_stage_46 rfl (lv_at hl 0 rfl) ?_
      refine y_geti h F hP k_63 (n2 (hP.al 63 rfl)) fl_X12_399 rfl dX12_stage_47 (fun v_47 h => ?_)
      refine lv_iconst (v := 1) hx hb dX12_stage_50 ic_1 ?_
      refine lv_isub hx hb dX12_stage_51 ?_
      exact y_iretM h F hr hP hS hM_w hlk dX12_stage_52
    · have h := if_t _ hc h
      refine lv_bipush (v := -4) hx hb dX12_stage_23 ib_m4 ?_
      exact y_iretM h F hr hP hS mono.refl hlk dX12_stage_25
  · have h := if_t _ hc h
    refine lv_bipush (v := -2) hx hb dX12_stage_11 ib_m2 ?_
    exact y_iretM h F hr hP hS mono.refl hlk dX12_stage_13
def f_X12_run (w : Wd) (a1 : Int32) : Option (Int32 × Wd) :=
if (f_X12_in a1 (1 : Int32) (3 : Int32)) = 0 then
some ((-2 : Int32), w)
else
q_gt w 63 54 (fun v_13 =>
q_pt w 63 54 a1 (fun w_19 =>
some (v_13, w_19)))
set_option maxRecDepth 100000 in
set_option maxHeartbeats 4000000 in
theorem c_X12_run (l : Launch) (D : va_G) (cT : Nat → ClassId) (lo : Nat) (w : Wd) (ad : Nat → Nat) (a1 : Int32) (r : Int32) (w9 : Wd) (h : f_X12_run w a1 = some (r, w9)) : Met l yX12_run (.code yX12_run cX12_run 3 (some .int) :: TW) { frames := 1, cells := 0, slots := 0, locals := 22 } (mPc D cT lo NB w ad [.ref (ad 63), .int a1]) (mQ D cT lo NB w w9 ad (some (.int r))) 0 0 (fun q => lo ≤ q) := by
  unfold f_X12_run at h
  refine x_met (lv := [(0, .ref (ad 63)), (1, .int a1)]) (by decide +kernel) (Nat.le_of_ble_eq_true rfl) rfl ?_
  intro p e s m args below meth c ls F hr hlk hP hin hl
  have hx := F.1
  have hb := F.2.1
  have hS : va_S (fun q => lo ≤ q) s.heap s.heap [] := va_S.rf
  have hM_w : mono w w := mono.refl
  refine lv_iload_n hx hb dX12_run_0 rfl (lv_at hl 1 rfl) ?_
  refine lv_iconst (v := 1) hx hb dX12_run_1 ic_1 ?_
  refine lv_iconst (v := 3) hx hb dX12_run_2 ic_3 ?_
  refine x_goesZ (x_runS (As := [.int a1, .int (1 : Int32), .int (3 : Int32)]) (rest := []) F hP hS (c_X12_in l D cT lo NB w ad a1 (1 : Int32) (3 : Int32)) cw_X12_in lk_X12_217 st_X12_in ⟨rfl, rfl, Nat.le_of_ble_eq_true rfl, Nat.le_of_ble_eq_true rfl⟩ hl.1 rfl (Nat.le_of_ble_eq_true rfl) dX12_run_3 ⟨Nat.zero_le _, Nat.zero_le _⟩) hS (fun H locs hz_3 hP hS _ => ?_)
  refine lv_if_ne (tgt := 12) hx hb dX12_run_6 (by decide) (fun hc => ?_) (fun hc => ?_)
  · have h := if_f _ hc h
    refine lv_aload_n hx hb dX12_run_12 rfl (lv_at hl 0 rfl) ?_
    refine y_geti h F hP k_63 (n2 (hP.al 63 rfl)) fl_X12_138 rfl dX12_run_13 (fun v_13 h => ?_)
    refine lv_istore_n (lv' := [(2, .int v_13), (0, .ref (ad 63)), (1, .int a1)]) hx hb dX12_run_16 rfl hl (Nat.le_of_ble_eq_true rfl) rfl (fun ls hl => ?_)
    refine lv_aload_n hx hb dX12_run_17 rfl (lv_at hl 1 rfl) ?_
    refine lv_iload_n hx hb dX12_run_18 rfl (lv_at hl 2 rfl) ?_
    refine y_puti h F hP hS k_63 (n2 (hP.al 63 rfl)) fl_X12_138 rfl dX12_run_19 (fun w_19 H locs hm h hP hS => ?_)
    have hM_w := hm
    refine lv_iload_n hx hb dX12_run_22 rfl (lv_at hl 0 rfl) ?_
    exact y_iretM h F hr hP hS hM_w hlk dX12_run_23
  · have h := if_t _ hc h
    refine lv_bipush (v := -2) hx hb dX12_run_9 ib_m2 ?_
    exact y_iretM h F hr hP hS mono.refl hlk dX12_run_11
def f_X12_runOf (a1 : Int32) (a2 : Int32) : Int32 :=
(a1 >>> (((2 : Int32) * a2) &&& 31)) &&& (3 : Int32)
set_option maxRecDepth 100000 in
set_option maxHeartbeats 4000000 in
theorem c_X12_runOf (l : Launch) (D : va_G) (cT : Nat → ClassId) (lo nb : Nat) (w : Wd) (ad : Nat → Nat) (a1 : Int32) (a2 : Int32) : Met l yX12_runOf (.code yX12_runOf cX12_runOf 2 (some .int) :: TW) { frames := 0, cells := 0, slots := 0, locals := 0 } (mPc D cT lo nb w ad [.int a1, .int a2]) (mQ D cT lo nb w w ad (some (.int (f_X12_runOf a1 a2)))) 0 0 (fun q => lo ≤ q) := by
  obtain ⟨r, h⟩ : ∃ r, f_X12_runOf a1 a2 = r := ⟨_, rfl⟩
  rw [h]
  unfold f_X12_runOf at h
  refine x_met (lv := [(0, .int a1), (1, .int a2)]) (by decide +kernel) (Nat.le_of_ble_eq_true rfl) rfl ?_
  intro p e s m args below meth c ls F hr hlk hP hin hl
  have hx := F.1
  have hb := F.2.1
  have hS : va_S (fun q => lo ≤ q) s.heap s.heap [] := va_S.rf
  refine lv_iload_n hx hb dX12_runOf_0 rfl (lv_at hl 0 rfl) ?_
  refine lv_iconst (v := 2) hx hb dX12_runOf_1 ic_2 ?_
  refine lv_iload_n hx hb dX12_runOf_2 rfl (lv_at hl 1 rfl) ?_
  refine lv_imul hx hb dX12_runOf_3 ?_
  refine lv_ishr hx hb dX12_runOf_4 ?_
  refine lv_iconst (v := 3) hx hb dX12_runOf_5 ic_3 ?_
  refine lv_iand hx hb dX12_runOf_6 ?_
  exact y_iretP h F hr hP hS hlk dX12_runOf_7
def l_X12_ones_4 (a1 : Int32) : Nat → Int32 → Int32 → Option Int32
  | 0, _, _ => none
  | n_4 + 1, x2_4l, x1_4l =>
    if (4 : Int32) ≤ x2_4l then
    some x1_4l
    else
    q_lt (x1_4l + ((a1 >>> (x2_4l &&& 31)) &&& (1 : Int32))) (fun v_16 =>
    q_lt (x2_4l + (1 : Int32)) (fun v_17 =>
    l_X12_ones_4 a1 n_4 v_17 v_16))
def f_X12_ones (a1 : Int32) : Option Int32 :=
l_X12_ones_4 a1 FU (0 : Int32) (0 : Int32)
set_option maxRecDepth 100000 in
set_option maxHeartbeats 4000000 in
theorem c_X12_ones (l : Launch) (D : va_G) (cT : Nat → ClassId) (lo nb : Nat) (w : Wd) (ad : Nat → Nat) (a1 : Int32) (r : Int32) (h : f_X12_ones a1 = some r) : Met l yX12_ones (.code yX12_ones cX12_ones 3 (some .int) :: TW) { frames := 0, cells := 0, slots := 0, locals := 0 } (mPc D cT lo nb w ad [.int a1]) (mQ D cT lo nb w w ad (some (.int r))) 0 0 (fun q => lo ≤ q) := by
  unfold f_X12_ones at h
  refine x_met (lv := [(0, .int a1)]) (by decide +kernel) (Nat.le_of_ble_eq_true rfl) rfl ?_
  intro p e s m args below meth c ls F hr hlk hP hin hl
  have hx := F.1
  have hb := F.2.1
  have hS : va_S (fun q => lo ≤ q) s.heap s.heap [] := va_S.rf
  refine lv_iconst (v := 0) hx hb dX12_ones_0 ic_0 ?_
  refine lv_istore_n (lv' := [(1, .int (0 : Int32)), (0, .int a1)]) hx hb dX12_ones_1 rfl hl (Nat.le_of_ble_eq_true rfl) rfl (fun ls hl => ?_)
  refine lv_iconst (v := 0) hx hb dX12_ones_2 ic_0 ?_
  refine lv_istore_n (lv' := [(2, .int (0 : Int32)), (1, .int (0 : Int32)), (0, .int a1)]) hx hb dX12_ones_3 rfl hl (Nat.le_of_ble_eq_true rfl) rfl (fun ls hl => ?_)
  have L_4 : ∀ (n_4 : Nat) (x2_4l : Int32) (x1_4l : Int32), l_X12_ones_4 a1 n_4 x2_4l x1_4l = some r → GG p l e { frames := 0, cells := 0, slots := 0, locals := 0 } s m args below meth c 0 0 (MQ below (mQ D cT lo nb w w ad (some (.int r))) args s 0 0 (fun q => lo ≤ q)) D cT lo nb 3 ad w 4 [(2, .int x2_4l), (1, .int x1_4l), (0, .int a1)] [] := by
    intro n_4
    induction n_4 with
    | zero =>
      intro x2_4l x1_4l h
      exact absurd h (by unfold l_X12_ones_4; exact fun z => by cases z)
    | succ n_4 ih_4 =>
      intro x2_4l x1_4l h H locs ls hP hS hl
      unfold l_X12_ones_4 at h
      refine lv_iload_n hx hb dX12_ones_4 rfl (lv_at hl 0 rfl) ?_
      refine lv_iconst (v := 4) hx hb dX12_ones_5 ic_4 ?_
      refine lv_icmp_ge (tgt := 23) hx hb dX12_ones_6 (by decide) (fun hc => ?_) (fun hc => ?_)
      · have h := if_t _ hc h
        refine lv_iload_n hx hb dX12_ones_23 rfl (lv_at hl 1 rfl) ?_
        exact y_iretO h F hr hP hS hlk dX12_ones_24
      · have h := if_f _ hc h
        refine lv_iload_n hx hb dX12_ones_9 rfl (lv_at hl 1 rfl) ?_
        refine lv_iload_n hx hb dX12_ones_10 rfl (lv_at hl 2 rfl) ?_
        refine lv_iload_n hx hb dX12_ones_11 rfl (lv_at hl 0 rfl) ?_
        refine lv_ishr hx hb dX12_ones_12 ?_
        refine lv_iconst (v := 1) hx hb dX12_ones_13 ic_1 ?_
        refine lv_iand hx hb dX12_ones_14 ?_
        refine lv_iadd hx hb dX12_ones_15 ?_
        refine y_let h (fun v_16 h => ?_)
        refine lv_istore_n (lv' := [(1, .int v_16), (2, .int x2_4l), (0, .int a1)]) hx hb dX12_ones_16 rfl hl (Nat.le_of_ble_eq_true rfl) rfl (fun ls hl => ?_)
        refine y_iinc (lv' := fun (v_17 : Int32) => [(2, .int v_17), (1, .int v_16), (0, .int a1)]) h F ic_1 dX12_ones_17 hl (kq := 1) rfl (Nat.le_of_ble_eq_true rfl) (fun _ => rfl) (fun v_17 ls hl h => ?_)
        refine lv_goto (tgt := 4) hx hb dX12_ones_20 (by decide) ?_
        exact ih_4 v_17 v_16 h _ _ _ hP hS (lv_sub hl [0, 1, 2] rfl)
  exact L_4 FU (0 : Int32) (0 : Int32) h _ _ _ hP hS (lv_sub hl [0, 1, 2] rfl)
def l_X12_after_9 (a2 : Int32) (a3 : Int32) (w : Wd) (j_79 : Int32 → Int32 → Option Int32) : Nat → Int32 → Int32 → Int32 → Option Int32
  | 0, _, _, _ => none
  | n_9 + 1, x6_9l, x5_9l, x4_9l =>
    q_gt w 63 50 (fun v_12 =>
    if v_12 ≤ x6_9l then
    j_79 x4_9l x5_9l
    else
    q_jn (fun (x4_73 : Int32) (x5_73 : Int32) =>
    q_lt (x6_9l + (1 : Int32)) (fun v_73 =>
    l_X12_after_9 a2 a3 w j_79 n_9 v_73 x5_73 x4_73)) (fun j_73 =>
    if ((a3 >>> (x6_9l &&& 31)) &&& (1 : Int32)) = (1 : Int32) then
    q_ld w 100 4 x6_9l (fun v_36 =>
    q_lt (x4_9l + v_36) (fun v_38 =>
    q_gt w 63 54 (fun v_47 =>
    if (f_X12_runOf a2 x6_9l) < v_47 then
    q_lt (x5_9l ||| (((f_X12_runOf a2 x6_9l) + (1 : Int32)) <<< (((2 : Int32) * x6_9l) &&& 31))) (fun v_71 =>
    j_73 v_38 v_71)
    else
    some (-1 : Int32))))
    else
    j_73 x4_9l x5_9l))
def f_X12_after (w : Wd) (a1 : Int32) (a2 : Int32) (a3 : Int32) : Option Int32 :=
q_jn (fun (x4_79 : Int32) (x5_79 : Int32) =>
q_ld w 101 6 a1 (fun v_86 =>
if x4_79 < v_86 then
some (-1 : Int32)
else
some x5_79)) (fun j_79 =>
l_X12_after_9 a2 a3 w j_79 FU (0 : Int32) (0 : Int32) (0 : Int32))
set_option maxRecDepth 100000 in
set_option maxHeartbeats 4000000 in
theorem c_X12_after (l : Launch) (D : va_G) (cT : Nat → ClassId) (lo : Nat) (w : Wd) (ad : Nat → Nat) (a1 : Int32) (a2 : Int32) (a3 : Int32) (r : Int32) (h : f_X12_after w a1 a2 a3 = some r) : Met l yX12_after (.code yX12_after cX12_after 7 (some .int) :: TW) { frames := 1, cells := 0, slots := 0, locals := 21 } (mPc D cT lo NB w ad [.ref (ad 63), .int a1, .int a2, .int a3]) (mQ D cT lo NB w w ad (some (.int r))) 0 0 (fun q => lo ≤ q) := by
  unfold f_X12_after at h
  refine x_met (lv := [(0, .ref (ad 63)), (1, .int a1), (2, .int a2), (3, .int a3)]) (by decide +kernel) (Nat.le_of_ble_eq_true rfl) rfl ?_
  intro p e s m args below meth c ls F hr hlk hP hin hl
  have hx := F.1
  have hb := F.2.1
  have hS : va_S (fun q => lo ≤ q) s.heap s.heap [] := va_S.rf
  refine lv_iconst (v := 0) hx hb dX12_after_0 ic_0 ?_
  refine lv_istore (lv' := [(4, .int (0 : Int32)), (0, .ref (ad 63)), (1, .int a1), (2, .int a2), (3, .int a3)]) hx hb dX12_after_1 hl (Nat.le_of_ble_eq_true rfl) rfl (fun ls hl => ?_)
  refine lv_iconst (v := 0) hx hb dX12_after_3 ic_0 ?_
  refine lv_istore (lv' := [(5, .int (0 : Int32)), (4, .int (0 : Int32)), (0, .ref (ad 63)), (1, .int a1), (2, .int a2), (3, .int a3)]) hx hb dX12_after_4 hl (Nat.le_of_ble_eq_true rfl) rfl (fun ls hl => ?_)
  refine lv_iconst (v := 0) hx hb dX12_after_6 ic_0 ?_
  refine lv_istore (lv' := [(6, .int (0 : Int32)), (5, .int (0 : Int32)), (4, .int (0 : Int32)), (0, .ref (ad 63)), (1, .int a1), (2, .int a2), (3, .int a3)]) hx hb dX12_after_7 hl (Nat.le_of_ble_eq_true rfl) rfl (fun ls hl => ?_)
  refine jn_use (fun (j_79 : Int32 → Int32 → Option Int32) => ∀ (x4_79 : Int32) (x5_79 : Int32), j_79 x4_79 x5_79 = some r → GG p l e { frames := 1, cells := 0, slots := 0, locals := 21 } s m args below meth c 0 0 (MQ below (mQ D cT lo NB w w ad (some (.int r))) args s 0 0 (fun q => lo ≤ q)) D cT lo NB 7 ad w 79 [(5, .int x5_79), (4, .int x4_79), (0, .ref (ad 63)), (1, .int a1)] []) h (fun x4_79 x5_79 h H locs ls hP hS hl => ?_) (fun j_79 J_79 h => ?_)
  · refine lv_iload hx hb dX12_after_79 (lv_at hl 1 rfl) ?_
    refine lv_aload_n hx hb dX12_after_81 rfl (lv_at hl 2 rfl) ?_
    refine x_getr F hP k_63 (hP.al 63 rfl) fl_X12_135 rfl r_63_53 dX12_after_82 ?_
    refine lv_iload_n hx hb dX12_after_85 rfl (lv_at hl 3 rfl) ?_
    refine y_iald h F hP k_101 (n2 (hP.al 101 rfl)) dX12_after_86 (fun v_86 h => ?_)
    refine lv_icmp_lt (tgt := 95) hx hb dX12_after_87 (by decide) (fun hc => ?_) (fun hc => ?_)
    · have h := if_t _ hc h
      refine lv_iconst (v := -1) hx hb dX12_after_95 ic_m1 ?_
      exact y_iretO h F hr hP hS hlk dX12_after_96
    · have h := if_f _ hc h
      refine lv_iload hx hb dX12_after_90 (lv_at hl 0 rfl) ?_
      refine lv_goto (tgt := 96) hx hb dX12_after_92 (by decide) ?_
      exact y_iretO h F hr hP hS hlk dX12_after_96
  · have L_9 : ∀ (n_9 : Nat) (x6_9l : Int32) (x5_9l : Int32) (x4_9l : Int32), l_X12_after_9 a2 a3 w j_79 n_9 x6_9l x5_9l x4_9l = some r → GG p l e { frames := 1, cells := 0, slots := 0, locals := 21 } s m args below meth c 0 0 (MQ below (mQ D cT lo NB w w ad (some (.int r))) args s 0 0 (fun q => lo ≤ q)) D cT lo NB 7 ad w 9 [(6, .int x6_9l), (5, .int x5_9l), (4, .int x4_9l), (0, .ref (ad 63)), (1, .int a1), (2, .int a2), (3, .int a3)] [] := by
      intro n_9
      induction n_9 with
      | zero =>
        intro x6_9l x5_9l x4_9l h
        exact absurd h (by unfold l_X12_after_9; exact fun z => by cases z)
      | succ n_9 ih_9 =>
        intro x6_9l x5_9l x4_9l h H locs ls hP hS hl
        unfold l_X12_after_9 at h
        refine lv_iload hx hb dX12_after_9 (lv_at hl 0 rfl) ?_
        refine lv_aload_n hx hb dX12_after_11 rfl (lv_at hl 3 rfl) ?_
        refine y_geti h F hP k_63 (n2 (hP.al 63 rfl)) fl_X12_396 rfl dX12_after_12 (fun v_12 h => ?_)
        refine lv_icmp_ge (tgt := 79) hx hb dX12_after_15 (by decide) (fun hc => ?_) (fun hc => ?_)
        · have h := if_t _ hc h
          exact J_79 x4_9l x5_9l h _ _ _ hP hS (lv_sub hl [1, 2, 3, 4] rfl)
        · have h := if_f _ hc h
          refine lv_iload_n hx hb dX12_after_18 rfl (lv_at hl 6 rfl) ?_
          refine lv_iload hx hb dX12_after_19 (lv_at hl 0 rfl) ?_
          refine lv_ishr hx hb dX12_after_21 ?_
          refine lv_iconst (v := 1) hx hb dX12_after_22 ic_1 ?_
          refine lv_iand hx hb dX12_after_23 ?_
          refine lv_iconst (v := 1) hx hb dX12_after_24 ic_1 ?_
          refine jn_use (fun (j_73 : Int32 → Int32 → Option Int32) => ∀ (x4_73 : Int32) (x5_73 : Int32), j_73 x4_73 x5_73 = some r → GG p l e { frames := 1, cells := 0, slots := 0, locals := 21 } s m args below meth c 0 0 (MQ below (mQ D cT lo NB w w ad (some (.int r))) args s 0 0 (fun q => lo ≤ q)) D cT lo NB 7 ad w 73 [(6, .int x6_9l), (5, .int x5_73), (4, .int x4_73), (0, .ref (ad 63)), (1, .int a1), (2, .int a2), (3, .int a3)] []) h (fun x4_73 x5_73 h H locs ls hP hS hl => ?_) (fun j_73 J_73 h => ?_)
          · refine y_iinc (lv' := fun (v_73 : Int32) => [(6, .int v_73), (5, .int x5_73), (4, .int x4_73), (0, .ref (ad 63)), (1, .int a1), (2, .int a2), (3, .int a3)]) h F ic_1 dX12_after_73 hl (kq := 0) rfl (Nat.le_of_ble_eq_true rfl) (fun _ => rfl) (fun v_73 ls hl h => ?_)
            refine lv_goto (tgt := 9) hx hb dX12_after_76 (by decide) ?_
            exact ih_9 v_73 x5_73 x4_73 h _ _ _ hP hS (lv_sub hl [0, 1, 2, 3, 4, 5, 6] rfl)
          · refine lv_icmp_ne (tgt := 73) hx hb dX12_after_25 (by decide) (fun hc => ?_) (fun hc => ?_)
            · have h := if_f _ hc h
              exact J_73 x4_9l x5_9l h _ _ _ hP hS (lv_sub hl [0, 1, 2, 3, 4, 5, 6] rfl)
            · have h := if_t _ hc h
              refine lv_iload hx hb dX12_after_28 (lv_at hl 2 rfl) ?_
              refine lv_aload_n hx hb dX12_after_30 rfl (lv_at hl 3 rfl) ?_
              refine x_getr F hP k_63 (hP.al 63 rfl) fl_X12_132 rfl r_63_51 dX12_after_31 ?_
              refine lv_iload hx hb dX12_after_34 (lv_at hl 0 rfl) ?_
              refine y_iald h F hP k_100 (n2 (hP.al 100 rfl)) dX12_after_36 (fun v_36 h => ?_)
              refine lv_iadd hx hb dX12_after_37 ?_
              refine y_let h (fun v_38 h => ?_)
              refine lv_istore (lv' := [(4, .int v_38), (6, .int x6_9l), (5, .int x5_9l), (0, .ref (ad 63)), (1, .int a1), (2, .int a2), (3, .int a3)]) hx hb dX12_after_38 hl (Nat.le_of_ble_eq_true rfl) rfl (fun ls hl => ?_)
              refine lv_iload_n hx hb dX12_after_40 rfl (lv_at hl 5 rfl) ?_
              refine lv_iload hx hb dX12_after_41 (lv_at hl 1 rfl) ?_
              refine x_goes (x_runS (As := [.int a2, .int x6_9l]) (rest := []) F hP hS (c_X12_runOf l D cT lo NB w ad a2 x6_9l) cw_X12_runOf lk_X12_402 st_X12_runOf ⟨rfl, rfl, Nat.le_of_ble_eq_true rfl, Nat.le_of_ble_eq_true rfl⟩ hl.1 rfl (Nat.le_of_ble_eq_true rfl) dX12_after_43 ⟨Nat.zero_le _, Nat.zero_le _⟩) hS (fun H locs hP hS _ => ?_)
              refine lv_aload_n hx hb dX12_after_46 rfl (lv_at hl 3 rfl) ?_
              refine y_geti h F hP k_63 (n2 (hP.al 63 rfl)) fl_X12_138 rfl dX12_after_47 (fun v_47 h => ?_)
              refine lv_icmp_lt (tgt := 55) hx hb dX12_after_50 (by decide) (fun hc => ?_) (fun hc => ?_)
              · have h := if_t _ hc h
                refine lv_iload hx hb dX12_after_55 (lv_at hl 2 rfl) ?_
                refine lv_iload_n hx hb dX12_after_57 rfl (lv_at hl 5 rfl) ?_
                refine lv_iload hx hb dX12_after_58 (lv_at hl 1 rfl) ?_
                refine x_goes (x_runS (As := [.int a2, .int x6_9l]) (rest := [.int x5_9l]) F hP hS (c_X12_runOf l D cT lo NB w ad a2 x6_9l) cw_X12_runOf lk_X12_402 st_X12_runOf ⟨rfl, rfl, Nat.le_of_ble_eq_true rfl, Nat.le_of_ble_eq_true rfl⟩ hl.1 rfl (Nat.le_of_ble_eq_true rfl) dX12_after_60 ⟨Nat.zero_le _, Nat.zero_le _⟩) hS (fun H locs hP hS _ => ?_)
                refine lv_iconst (v := 1) hx hb dX12_after_63 ic_1 ?_
                refine lv_iadd hx hb dX12_after_64 ?_
                refine lv_iconst (v := 2) hx hb dX12_after_65 ic_2 ?_
                refine lv_iload hx hb dX12_after_66 (lv_at hl 1 rfl) ?_
                refine lv_imul hx hb dX12_after_68 ?_
                refine lv_ishl hx hb dX12_after_69 ?_
                refine lv_ior hx hb dX12_after_70 ?_
                refine y_let h (fun v_71 h => ?_)
                refine lv_istore (lv' := [(5, .int v_71), (4, .int v_38), (6, .int x6_9l), (0, .ref (ad 63)), (1, .int a1), (2, .int a2), (3, .int a3)]) hx hb dX12_after_71 hl (Nat.le_of_ble_eq_true rfl) rfl (fun ls hl => ?_)
                exact J_73 v_38 v_71 h _ _ _ hP hS (lv_sub hl [2, 0, 1, 3, 4, 5, 6] rfl)
              · have h := if_f _ hc h
                refine lv_iconst (v := -1) hx hb dX12_after_53 ic_m1 ?_
                exact y_iretO h F hr hP hS hlk dX12_after_54
    exact L_9 FU (0 : Int32) (0 : Int32) (0 : Int32) h _ _ _ hP hS (lv_sub hl [0, 1, 2, 3, 4, 5, 6] rfl)
def f_X12_countsFrom (w : Wd) (a1 : Int32) (a2 : Int32) (a3 : Int32) : Option Int32 :=
q_bo (f_X12_after w a1 a2 a3) (fun v_4 =>
if v_4 = (-1 : Int32) then
some (-1 : Int32)
else
q_ld w 102 1792 (((256 : Int32) * (a1 + (1 : Int32))) + v_4) (fun v_29 =>
if v_29 = (-1 : Int32) then
some (-1 : Int32)
else
q_bo (f_X12_ones a3) (fun v_37 =>
q_ld w 102 1792 (((256 : Int32) * (a1 + (1 : Int32))) + v_4) (fun v_54 =>
some (v_37 + v_54)))))
set_option maxRecDepth 100000 in
set_option maxHeartbeats 4000000 in
theorem c_X12_countsFrom (l : Launch) (D : va_G) (cT : Nat → ClassId) (lo : Nat) (w : Wd) (ad : Nat → Nat) (a1 : Int32) (a2 : Int32) (a3 : Int32) (r : Int32) (h : f_X12_countsFrom w a1 a2 a3 = some r) : Met l yX12_countsFrom (.code yX12_countsFrom cX12_countsFrom 5 (some .int) :: TW) { frames := 2, cells := 0, slots := 0, locals := 47 } (mPc D cT lo NB w ad [.ref (ad 63), .int a1, .int a2, .int a3]) (mQ D cT lo NB w w ad (some (.int r))) 0 0 (fun q => lo ≤ q) := by
  unfold f_X12_countsFrom at h
  refine x_met (lv := [(0, .ref (ad 63)), (1, .int a1), (2, .int a2), (3, .int a3)]) (by decide +kernel) (Nat.le_of_ble_eq_true rfl) rfl ?_
  intro p e s m args below meth c ls F hr hlk hP hin hl
  have hx := F.1
  have hb := F.2.1
  have hS : va_S (fun q => lo ≤ q) s.heap s.heap [] := va_S.rf
  refine lv_aload_n hx hb dX12_countsFrom_0 rfl (lv_at hl 0 rfl) ?_
  refine lv_iload_n hx hb dX12_countsFrom_1 rfl (lv_at hl 1 rfl) ?_
  refine lv_iload_n hx hb dX12_countsFrom_2 rfl (lv_at hl 2 rfl) ?_
  refine lv_iload_n hx hb dX12_countsFrom_3 rfl (lv_at hl 3 rfl) ?_
  obtain ⟨v_4, hc_4, h⟩ := bo_s h
  refine x_goes (x_runV (As := [.int a1, .int a2, .int a3]) (rest := []) F hP hS (c_X12_after l D cT lo w ad a1 a2 a3 v_4 hc_4) cw_X12_after lk_X12_405 vi_X12_after k_63 (n2 (hP.al 63 rfl)) rfl ⟨rfl, rfl, Nat.le_of_ble_eq_true rfl, Nat.le_of_ble_eq_true rfl⟩ hl.1 rfl (Nat.le_of_ble_eq_true rfl) dX12_countsFrom_4 ⟨Nat.zero_le _, Nat.zero_le _⟩) hS (fun H locs hP hS _ => ?_)
  refine lv_istore (lv' := [(4, .int v_4), (0, .ref (ad 63)), (1, .int a1), (2, .int a2), (3, .int a3)]) hx hb dX12_countsFrom_7 hl (Nat.le_of_ble_eq_true rfl) rfl (fun ls hl => ?_)
  refine lv_iload hx hb dX12_countsFrom_9 (lv_at hl 0 rfl) ?_
  refine lv_iconst (v := -1) hx hb dX12_countsFrom_11 ic_m1 ?_
  refine lv_icmp_eq (tgt := 34) hx hb dX12_countsFrom_12 (by decide) (fun hc => ?_) (fun hc => ?_)
  · have h := if_t _ hc h
    refine lv_iconst (v := -1) hx hb dX12_countsFrom_34 ic_m1 ?_
    exact y_iretO h F hr hP hS hlk dX12_countsFrom_35
  · have h := if_f _ hc h
    refine lv_aload_n hx hb dX12_countsFrom_15 rfl (lv_at hl 1 rfl) ?_
    refine x_getr F hP k_63 (hP.al 63 rfl) fl_X12_141 rfl r_63_55 dX12_countsFrom_16 ?_
    refine lv_sipush (v := 256) hx hb dX12_countsFrom_19 is_256 ?_
    refine lv_iload_n hx hb dX12_countsFrom_22 rfl (lv_at hl 2 rfl) ?_
    refine lv_iconst (v := 1) hx hb dX12_countsFrom_23 ic_1 ?_
    refine lv_iadd hx hb dX12_countsFrom_24 ?_
    refine lv_imul hx hb dX12_countsFrom_25 ?_
    refine lv_iload hx hb dX12_countsFrom_26 (lv_at hl 0 rfl) ?_
    refine lv_iadd hx hb dX12_countsFrom_28 ?_
    refine y_iald h F hP k_102 (n2 (hP.al 102 rfl)) dX12_countsFrom_29 (fun v_29 h => ?_)
    refine lv_iconst (v := -1) hx hb dX12_countsFrom_30 ic_m1 ?_
    refine lv_icmp_ne (tgt := 36) hx hb dX12_countsFrom_31 (by decide) (fun hc => ?_) (fun hc => ?_)
    · have h := if_f _ hc h
      refine lv_iload_n hx hb dX12_countsFrom_36 rfl (lv_at hl 4 rfl) ?_
      obtain ⟨v_37, hc_37, h⟩ := bo_s h
      refine x_goes (x_runS (As := [.int a3]) (rest := []) F hP hS (c_X12_ones l D cT lo NB w ad a3 v_37 hc_37) cw_X12_ones lk_X12_408 st_X12_ones ⟨rfl, rfl, Nat.le_of_ble_eq_true rfl, Nat.le_of_ble_eq_true rfl⟩ hl.1 rfl (Nat.le_of_ble_eq_true rfl) dX12_countsFrom_37 ⟨Nat.zero_le _, Nat.zero_le _⟩) hS (fun H locs hP hS _ => ?_)
      refine lv_aload_n hx hb dX12_countsFrom_40 rfl (lv_at hl 1 rfl) ?_
      refine x_getr F hP k_63 (hP.al 63 rfl) fl_X12_141 rfl r_63_55 dX12_countsFrom_41 ?_
      refine lv_sipush (v := 256) hx hb dX12_countsFrom_44 is_256 ?_
      refine lv_iload_n hx hb dX12_countsFrom_47 rfl (lv_at hl 2 rfl) ?_
      refine lv_iconst (v := 1) hx hb dX12_countsFrom_48 ic_1 ?_
      refine lv_iadd hx hb dX12_countsFrom_49 ?_
      refine lv_imul hx hb dX12_countsFrom_50 ?_
      refine lv_iload hx hb dX12_countsFrom_51 (lv_at hl 0 rfl) ?_
      refine lv_iadd hx hb dX12_countsFrom_53 ?_
      refine y_iald h F hP k_102 (n2 (hP.al 102 rfl)) dX12_countsFrom_54 (fun v_54 h => ?_)
      refine lv_iadd hx hb dX12_countsFrom_55 ?_
      exact y_iretO h F hr hP hS hlk dX12_countsFrom_56
    · have h := if_t _ hc h
      refine lv_iconst (v := -1) hx hb dX12_countsFrom_34 ic_m1 ?_
      exact y_iretO h F hr hP hS hlk dX12_countsFrom_35
def l_X12_rosters_158 (x2_148l : Int32) (x1_148l : Int32) (w_148l : Wd) (j_186 : Int32 → Option (Int32 × Wd)) : Nat → Int32 → Option (Int32 × Wd)
  | 0, _ => none
  | n_158 + 1, x3_158l =>
    q_bo (f_X12_countsFrom w_148l x2_148l x1_148l x3_158l) (fun v_162 =>
    q_ld w_148l 102 1792 (((256 : Int32) * x2_148l) + x1_148l) (fun v_176 =>
    if v_162 = v_176 then
    j_186 x3_158l
    else
    q_lt (x3_158l + (1 : Int32)) (fun v_180 =>
    l_X12_rosters_158 x2_148l x1_148l w_148l j_186 n_158 v_180)))
def l_X12_rosters_148 (j_207 : Wd → Option (Int32 × Wd)) : Nat → Wd → Int32 → Int32 → Option (Int32 × Wd)
  | 0, _, _, _ => none
  | n_148 + 1, w_148l, x2_148l, x1_148l =>
    q_gt w_148l 63 52 (fun v_150 =>
    if v_150 ≤ x2_148l then
    j_207 w_148l
    else
    q_jn (fun (x3_186 : Int32) =>
    q_st w_148l 103 6 x2_148l x3_186 (fun w_192 =>
    q_bo (f_X12_after w_192 x2_148l x1_148l x3_186) (fun v_197 =>
    q_lt (x2_148l + (1 : Int32)) (fun v_201 =>
    l_X12_rosters_148 j_207 n_148 w_192 v_201 v_197)))) (fun j_186 =>
    l_X12_rosters_158 x2_148l x1_148l w_148l j_186 FU (0 : Int32)))
def l_X12_rosters_56 (x1_38l : Int32) (x2_44l : Int32) (w_44l : Wd) (j_107 : Int32 → Option (Int32 × Wd)) : Nat → Int32 → Int32 → Option (Int32 × Wd)
  | 0, _, _ => none
  | n_56 + 1, x4_56l, x3_56l =>
    q_gt w_44l 63 50 (fun v_60 =>
    if ((1 : Int32) <<< (v_60 &&& 31)) ≤ x4_56l then
    j_107 x3_56l
    else
    q_bo (f_X12_countsFrom w_44l x1_38l x2_44l x4_56l) (fun v_72 =>
    q_jn (fun (s0_100 : Int32) =>
    q_lt (x4_56l + (1 : Int32)) (fun v_101 =>
    l_X12_rosters_56 x1_38l x2_44l w_44l j_107 n_56 v_101 s0_100)) (fun j_100 =>
    q_jn (j_100 x3_56l) (fun j_99 =>
    if v_72 = (-1 : Int32) then
    j_99
    else
    q_jn (j_100 v_72) (fun j_94 =>
    if x3_56l = (-1 : Int32) then
    j_94
    else
    if x3_56l ≤ v_72 then
    j_99
    else
    j_94)))))
def l_X12_rosters_44 (x1_38l : Int32) (j_126 : Wd → Option (Int32 × Wd)) : Nat → Wd → Int32 → Option (Int32 × Wd)
  | 0, _, _ => none
  | n_44 + 1, w_44l, x2_44l =>
    if (256 : Int32) ≤ x2_44l then
    j_126 w_44l
    else
    q_jn (fun (x3_107 : Int32) =>
    q_st w_44l 102 1792 (((256 : Int32) * x1_38l) + x2_44l) x3_107 (fun w_119 =>
    q_lt (x2_44l + (1 : Int32)) (fun v_120 =>
    l_X12_rosters_44 x1_38l j_126 n_44 w_119 v_120))) (fun j_107 =>
    l_X12_rosters_56 x1_38l x2_44l w_44l j_107 FU (0 : Int32) (-1 : Int32))
def l_X12_rosters_38 (j_132 : Wd → Option (Int32 × Wd)) : Nat → Wd → Int32 → Option (Int32 × Wd)
  | 0, _, _ => none
  | n_38 + 1, w_38l, x1_38l =>
    if x1_38l < 0 then
    j_132 w_38l
    else
    q_jn (fun (w_126j : Wd) =>
    q_lt (x1_38l + (-1 : Int32)) (fun v_126 =>
    l_X12_rosters_38 j_132 n_38 w_126j v_126)) (fun j_126 =>
    l_X12_rosters_44 x1_38l j_126 FU w_38l (0 : Int32))
def l_X12_rosters_2 (j_31 : Wd → Option (Int32 × Wd)) : Nat → Wd → Int32 → Option (Int32 × Wd)
  | 0, _, _ => none
  | n_2 + 1, w_2l, x1_2l =>
    if (256 : Int32) ≤ x1_2l then
    j_31 w_2l
    else
    q_gt w_2l 63 52 (fun v_17 =>
    q_st w_2l 102 1792 (((256 : Int32) * v_17) + x1_2l) (0 : Int32) (fun w_24 =>
    q_lt (x1_2l + (1 : Int32)) (fun v_25 =>
    l_X12_rosters_2 j_31 n_2 w_24 v_25)))
def f_X12_rosters (w : Wd) : Option (Int32 × Wd) :=
q_jn (fun (w_31j : Wd) =>
q_gt w_31j 63 52 (fun v_32 =>
q_lt (v_32 - (1 : Int32)) (fun v_37 =>
q_jn (fun (w_132j : Wd) =>
q_ld w_132j 102 1792 (0 : Int32) (fun v_137 =>
if v_137 = (-1 : Int32) then
some ((-1 : Int32), w_132j)
else
q_jn (fun (w_207j : Wd) =>
q_ld w_207j 102 1792 (0 : Int32) (fun v_212 =>
some (v_212, w_207j))) (fun j_207 =>
l_X12_rosters_148 j_207 FU w_132j (0 : Int32) (0 : Int32)))) (fun j_132 =>
l_X12_rosters_38 j_132 FU w_31j v_37)))) (fun j_31 =>
l_X12_rosters_2 j_31 FU w (0 : Int32))
set_option maxRecDepth 100000 in
set_option maxHeartbeats 4000000 in
theorem c_X12_rosters (l : Launch) (D : va_G) (cT : Nat → ClassId) (lo : Nat) (w : Wd) (ad : Nat → Nat)  (r : Int32) (w9 : Wd) (h : f_X12_rosters w = some (r, w9)) : Met l yX12_rosters (.code yX12_rosters cX12_rosters 6 (some .int) :: TW) { frames := 3, cells := 0, slots := 0, locals := 71 } (mPc D cT lo NB w ad [.ref (ad 63)]) (mQ D cT lo NB w w9 ad (some (.int r))) 0 0 (fun q => lo ≤ q) := by
  unfold f_X12_rosters at h
  refine x_met (lv := [(0, .ref (ad 63))]) (by decide +kernel) (Nat.le_of_ble_eq_true rfl) rfl ?_
  intro p e s m args below meth c ls F hr hlk hP hin hl
  have hx := F.1
  have hb := F.2.1
  have hS : va_S (fun q => lo ≤ q) s.heap s.heap [] := va_S.rf
  have hM_w : mono w w := mono.refl
  refine lv_iconst (v := 0) hx hb dX12_rosters_0 ic_0 ?_
  refine lv_istore_n (lv' := [(1, .int (0 : Int32)), (0, .ref (ad 63))]) hx hb dX12_rosters_1 rfl hl (Nat.le_of_ble_eq_true rfl) rfl (fun ls hl => ?_)
  refine jn_use (fun (j_31 : Wd → Option (Int32 × Wd)) => ∀ (w_31j : Wd), mono w w_31j → j_31 w_31j = some (r, w9) → GG p l e { frames := 3, cells := 0, slots := 0, locals := 71 } s m args below meth c 0 0 (MQ below (mQ D cT lo NB w w9 ad (some (.int r))) args s 0 0 (fun q => lo ≤ q)) D cT lo NB 6 ad w_31j 31 [(0, .ref (ad 63))] []) h (fun w_31j hm h H locs ls hP hS hl => ?_) (fun j_31 J_31 h => ?_)
  · have hM_w := hm
    refine lv_aload_n hx hb dX12_rosters_31 rfl (lv_at hl 0 rfl) ?_
    refine y_geti h F hP k_63 (n2 (hP.al 63 rfl)) fl_X12_399 rfl dX12_rosters_32 (fun v_32 h => ?_)
    refine lv_iconst (v := 1) hx hb dX12_rosters_35 ic_1 ?_
    refine lv_isub hx hb dX12_rosters_36 ?_
    refine y_let h (fun v_37 h => ?_)
    refine lv_istore_n (lv' := [(1, .int v_37), (0, .ref (ad 63))]) hx hb dX12_rosters_37 rfl hl (Nat.le_of_ble_eq_true rfl) rfl (fun ls hl => ?_)
    refine jn_use (fun (j_132 : Wd → Option (Int32 × Wd)) => ∀ (w_132j : Wd), mono w_31j w_132j → j_132 w_132j = some (r, w9) → GG p l e { frames := 3, cells := 0, slots := 0, locals := 71 } s m args below meth c 0 0 (MQ below (mQ D cT lo NB w w9 ad (some (.int r))) args s 0 0 (fun q => lo ≤ q)) D cT lo NB 6 ad w_132j 132 [(0, .ref (ad 63))] []) h (fun w_132j hm h H locs ls hP hS hl => ?_) (fun j_132 J_132 h => ?_)
    · have hM_w := hM_w.trans hm
      have hM_w_31j := hm
      refine lv_aload_n hx hb dX12_rosters_132 rfl (lv_at hl 0 rfl) ?_
      refine x_getr F hP k_63 (hP.al 63 rfl) fl_X12_141 rfl r_63_55 dX12_rosters_133 ?_
      refine lv_iconst (v := 0) hx hb dX12_rosters_136 ic_0 ?_
      refine y_iald h F hP k_102 (n2 (hP.al 102 rfl)) dX12_rosters_137 (fun v_137 h => ?_)
      refine lv_iconst (v := -1) hx hb dX12_rosters_138 ic_m1 ?_
      refine lv_icmp_ne (tgt := 144) hx hb dX12_rosters_139 (by decide) (fun hc => ?_) (fun hc => ?_)
      · have h := if_f _ hc h
        refine lv_iconst (v := 0) hx hb dX12_rosters_144 ic_0 ?_
        refine lv_istore_n (lv' := [(1, .int (0 : Int32)), (0, .ref (ad 63))]) hx hb dX12_rosters_145 rfl hl (Nat.le_of_ble_eq_true rfl) rfl (fun ls hl => ?_)
        refine lv_iconst (v := 0) hx hb dX12_rosters_146 ic_0 ?_
        refine lv_istore_n (lv' := [(2, .int (0 : Int32)), (1, .int (0 : Int32)), (0, .ref (ad 63))]) hx hb dX12_rosters_147 rfl hl (Nat.le_of_ble_eq_true rfl) rfl (fun ls hl => ?_)
        refine jn_use (fun (j_207 : Wd → Option (Int32 × Wd)) => ∀ (w_207j : Wd), mono w_132j w_207j → j_207 w_207j = some (r, w9) → GG p l e { frames := 3, cells := 0, slots := 0, locals := 71 } s m args below meth c 0 0 (MQ below (mQ D cT lo NB w w9 ad (some (.int r))) args s 0 0 (fun q => lo ≤ q)) D cT lo NB 6 ad w_207j 207 [(0, .ref (ad 63))] []) h (fun w_207j hm h H locs ls hP hS hl => ?_) (fun j_207 J_207 h => ?_)
        · have hM_w := hM_w.trans hm
          have hM_w_31j := hM_w_31j.trans hm
          have hM_w_132j := hm
          refine lv_aload_n hx hb dX12_rosters_207 rfl (lv_at hl 0 rfl) ?_
          refine x_getr F hP k_63 (hP.al 63 rfl) fl_X12_141 rfl r_63_55 dX12_rosters_208 ?_
          refine lv_iconst (v := 0) hx hb dX12_rosters_211 ic_0 ?_
          refine y_iald h F hP k_102 (n2 (hP.al 102 rfl)) dX12_rosters_212 (fun v_212 h => ?_)
          exact y_iretM h F hr hP hS hM_w hlk dX12_rosters_213
        · have L_148 : ∀ (n_148 : Nat) (w_148l : Wd) (x2_148l : Int32) (x1_148l : Int32), mono w_132j w_148l → l_X12_rosters_148 j_207 n_148 w_148l x2_148l x1_148l = some (r, w9) → GG p l e { frames := 3, cells := 0, slots := 0, locals := 71 } s m args below meth c 0 0 (MQ below (mQ D cT lo NB w w9 ad (some (.int r))) args s 0 0 (fun q => lo ≤ q)) D cT lo NB 6 ad w_148l 148 [(2, .int x2_148l), (1, .int x1_148l), (0, .ref (ad 63))] [] := by
            intro n_148
            induction n_148 with
            | zero =>
              intro w_148l x2_148l x1_148l _ h
              exact absurd h (by unfold l_X12_rosters_148; exact fun z => by cases z)
            | succ n_148 ih_148 =>
              intro w_148l x2_148l x1_148l hm h H locs ls hP hS hl
              unfold l_X12_rosters_148 at h
              have hM_w := hM_w.trans hm
              have hM_w_31j := hM_w_31j.trans hm
              have hM_w_132j := hm
              refine lv_iload_n hx hb dX12_rosters_148 rfl (lv_at hl 0 rfl) ?_
              refine lv_aload_n hx hb dX12_rosters_149 rfl (lv_at hl 2 rfl) ?_
              refine y_geti h F hP k_63 (n2 (hP.al 63 rfl)) fl_X12_399 rfl dX12_rosters_150 (fun v_150 h => ?_)
              refine lv_icmp_ge (tgt := 207) hx hb dX12_rosters_153 (by decide) (fun hc => ?_) (fun hc => ?_)
              · have h := if_t _ hc h
                exact J_207 w_148l hM_w_132j h _ _ _ hP hS (lv_sub hl [2] rfl)
              · have h := if_f _ hc h
                refine lv_iconst (v := 0) hx hb dX12_rosters_156 ic_0 ?_
                refine lv_istore_n (lv' := [(3, .int (0 : Int32)), (2, .int x2_148l), (1, .int x1_148l), (0, .ref (ad 63))]) hx hb dX12_rosters_157 rfl hl (Nat.le_of_ble_eq_true rfl) rfl (fun ls hl => ?_)
                refine jn_use (fun (j_186 : Int32 → Option (Int32 × Wd)) => ∀ (x3_186 : Int32), j_186 x3_186 = some (r, w9) → GG p l e { frames := 3, cells := 0, slots := 0, locals := 71 } s m args below meth c 0 0 (MQ below (mQ D cT lo NB w w9 ad (some (.int r))) args s 0 0 (fun q => lo ≤ q)) D cT lo NB 6 ad w_148l 186 [(3, .int x3_186), (2, .int x2_148l), (1, .int x1_148l), (0, .ref (ad 63))] []) h (fun x3_186 h H locs ls hP hS hl => ?_) (fun j_186 J_186 h => ?_)
                · refine lv_aload_n hx hb dX12_rosters_186 rfl (lv_at hl 3 rfl) ?_
                  refine x_getr F hP k_63 (hP.al 63 rfl) fl_X12_144 rfl r_63_56 dX12_rosters_187 ?_
                  refine lv_iload_n hx hb dX12_rosters_190 rfl (lv_at hl 1 rfl) ?_
                  refine lv_iload_n hx hb dX12_rosters_191 rfl (lv_at hl 0 rfl) ?_
                  refine y_iast h F hP hS k_103 (n2 (hP.al 103 rfl)) dX12_rosters_192 (fun w_192 H locs hm h hP hS => ?_)
                  have hM_w := hM_w.trans hm
                  have hM_w_31j := hM_w_31j.trans hm
                  have hM_w_132j := hM_w_132j.trans hm
                  refine lv_aload_n hx hb dX12_rosters_193 rfl (lv_at hl 3 rfl) ?_
                  refine lv_iload_n hx hb dX12_rosters_194 rfl (lv_at hl 1 rfl) ?_
                  refine lv_iload_n hx hb dX12_rosters_195 rfl (lv_at hl 2 rfl) ?_
                  refine lv_iload_n hx hb dX12_rosters_196 rfl (lv_at hl 0 rfl) ?_
                  obtain ⟨v_197, hc_197, h⟩ := bo_s h
                  refine x_goes (x_runV (As := [.int x2_148l, .int x1_148l, .int x3_186]) (rest := []) F hP hS (c_X12_after l D cT lo w_192 ad x2_148l x1_148l x3_186 v_197 hc_197) cw_X12_after lk_X12_405 vi_X12_after k_63 (n2 (hP.al 63 rfl)) rfl ⟨rfl, rfl, Nat.le_of_ble_eq_true rfl, Nat.le_of_ble_eq_true rfl⟩ hl.1 rfl (Nat.le_of_ble_eq_true rfl) dX12_rosters_197 ⟨Nat.zero_le _, Nat.zero_le _⟩) hS (fun H locs hP hS _ => ?_)
                  refine lv_istore_n (lv' := [(1, .int v_197), (3, .int x3_186), (2, .int x2_148l), (0, .ref (ad 63))]) hx hb dX12_rosters_200 rfl hl (Nat.le_of_ble_eq_true rfl) rfl (fun ls hl => ?_)
                  refine y_iinc (lv' := fun (v_201 : Int32) => [(2, .int v_201), (1, .int v_197), (3, .int x3_186), (0, .ref (ad 63))]) h F ic_1 dX12_rosters_201 hl (kq := 2) rfl (Nat.le_of_ble_eq_true rfl) (fun _ => rfl) (fun v_201 ls hl h => ?_)
                  refine lv_goto (tgt := 148) hx hb dX12_rosters_204 (by decide) ?_
                  exact ih_148 w_192 v_201 v_197 hM_w_132j h _ _ _ hP hS (lv_sub hl [0, 1, 3] rfl)
                · have L_158 : ∀ (n_158 : Nat) (x3_158l : Int32), l_X12_rosters_158 x2_148l x1_148l w_148l j_186 n_158 x3_158l = some (r, w9) → GG p l e { frames := 3, cells := 0, slots := 0, locals := 71 } s m args below meth c 0 0 (MQ below (mQ D cT lo NB w w9 ad (some (.int r))) args s 0 0 (fun q => lo ≤ q)) D cT lo NB 6 ad w_148l 158 [(3, .int x3_158l), (2, .int x2_148l), (1, .int x1_148l), (0, .ref (ad 63))] [] := by
                    intro n_158
                    induction n_158 with
                    | zero =>
                      intro x3_158l h
                      exact absurd h (by unfold l_X12_rosters_158; exact fun z => by cases z)
                    | succ n_158 ih_158 =>
                      intro x3_158l h H locs ls hP hS hl
                      unfold l_X12_rosters_158 at h
                      refine lv_aload_n hx hb dX12_rosters_158 rfl (lv_at hl 3 rfl) ?_
                      refine lv_iload_n hx hb dX12_rosters_159 rfl (lv_at hl 1 rfl) ?_
                      refine lv_iload_n hx hb dX12_rosters_160 rfl (lv_at hl 2 rfl) ?_
                      refine lv_iload_n hx hb dX12_rosters_161 rfl (lv_at hl 0 rfl) ?_
                      obtain ⟨v_162, hc_162, h⟩ := bo_s h
                      refine x_goes (x_runV (As := [.int x2_148l, .int x1_148l, .int x3_158l]) (rest := []) F hP hS (c_X12_countsFrom l D cT lo w_148l ad x2_148l x1_148l x3_158l v_162 hc_162) cw_X12_countsFrom lk_X12_411 vi_X12_countsFrom k_63 (n2 (hP.al 63 rfl)) rfl ⟨rfl, rfl, Nat.le_of_ble_eq_true rfl, Nat.le_of_ble_eq_true rfl⟩ hl.1 rfl (Nat.le_of_ble_eq_true rfl) dX12_rosters_162 ⟨Nat.zero_le _, Nat.zero_le _⟩) hS (fun H locs hP hS _ => ?_)
                      refine lv_aload_n hx hb dX12_rosters_165 rfl (lv_at hl 3 rfl) ?_
                      refine x_getr F hP k_63 (hP.al 63 rfl) fl_X12_141 rfl r_63_55 dX12_rosters_166 ?_
                      refine lv_sipush (v := 256) hx hb dX12_rosters_169 is_256 ?_
                      refine lv_iload_n hx hb dX12_rosters_172 rfl (lv_at hl 1 rfl) ?_
                      refine lv_imul hx hb dX12_rosters_173 ?_
                      refine lv_iload_n hx hb dX12_rosters_174 rfl (lv_at hl 2 rfl) ?_
                      refine lv_iadd hx hb dX12_rosters_175 ?_
                      refine y_iald h F hP k_102 (n2 (hP.al 102 rfl)) dX12_rosters_176 (fun v_176 h => ?_)
                      refine lv_icmp_eq (tgt := 186) hx hb dX12_rosters_177 (by decide) (fun hc => ?_) (fun hc => ?_)
                      · have h := if_t _ hc h
                        exact J_186 x3_158l h _ _ _ hP hS (lv_sub hl [0, 1, 2, 3] rfl)
                      · have h := if_f _ hc h
                        refine y_iinc (lv' := fun (v_180 : Int32) => [(3, .int v_180), (2, .int x2_148l), (1, .int x1_148l), (0, .ref (ad 63))]) h F ic_1 dX12_rosters_180 hl (kq := 0) rfl (Nat.le_of_ble_eq_true rfl) (fun _ => rfl) (fun v_180 ls hl h => ?_)
                        refine lv_goto (tgt := 158) hx hb dX12_rosters_183 (by decide) ?_
                        exact ih_158 v_180 h _ _ _ hP hS (lv_sub hl [0, 1, 2, 3] rfl)
                  exact L_158 FU (0 : Int32) h _ _ _ hP hS (lv_sub hl [0, 1, 2, 3] rfl)
          exact L_148 FU w_132j (0 : Int32) (0 : Int32) mono.refl h _ _ _ hP hS (lv_sub hl [0, 1, 2] rfl)
      · have h := if_t _ hc h
        refine lv_iconst (v := -1) hx hb dX12_rosters_142 ic_m1 ?_
        exact y_iretM h F hr hP hS hM_w hlk dX12_rosters_143
    · have L_38 : ∀ (n_38 : Nat) (w_38l : Wd) (x1_38l : Int32), mono w_31j w_38l → l_X12_rosters_38 j_132 n_38 w_38l x1_38l = some (r, w9) → GG p l e { frames := 3, cells := 0, slots := 0, locals := 71 } s m args below meth c 0 0 (MQ below (mQ D cT lo NB w w9 ad (some (.int r))) args s 0 0 (fun q => lo ≤ q)) D cT lo NB 6 ad w_38l 38 [(1, .int x1_38l), (0, .ref (ad 63))] [] := by
        intro n_38
        induction n_38 with
        | zero =>
          intro w_38l x1_38l _ h
          exact absurd h (by unfold l_X12_rosters_38; exact fun z => by cases z)
        | succ n_38 ih_38 =>
          intro w_38l x1_38l hm h H locs ls hP hS hl
          unfold l_X12_rosters_38 at h
          have hM_w := hM_w.trans hm
          have hM_w_31j := hm
          refine lv_iload_n hx hb dX12_rosters_38 rfl (lv_at hl 0 rfl) ?_
          refine lv_if_lt (tgt := 132) hx hb dX12_rosters_39 (by decide) (fun hc => ?_) (fun hc => ?_)
          · have h := if_t _ hc h
            exact J_132 w_38l hM_w_31j h _ _ _ hP hS (lv_sub hl [1] rfl)
          · have h := if_f _ hc h
            refine lv_iconst (v := 0) hx hb dX12_rosters_42 ic_0 ?_
            refine lv_istore_n (lv' := [(2, .int (0 : Int32)), (1, .int x1_38l), (0, .ref (ad 63))]) hx hb dX12_rosters_43 rfl hl (Nat.le_of_ble_eq_true rfl) rfl (fun ls hl => ?_)
            refine jn_use (fun (j_126 : Wd → Option (Int32 × Wd)) => ∀ (w_126j : Wd), mono w_38l w_126j → j_126 w_126j = some (r, w9) → GG p l e { frames := 3, cells := 0, slots := 0, locals := 71 } s m args below meth c 0 0 (MQ below (mQ D cT lo NB w w9 ad (some (.int r))) args s 0 0 (fun q => lo ≤ q)) D cT lo NB 6 ad w_126j 126 [(1, .int x1_38l), (0, .ref (ad 63))] []) h (fun w_126j hm h H locs ls hP hS hl => ?_) (fun j_126 J_126 h => ?_)
            · have hM_w := hM_w.trans hm
              have hM_w_31j := hM_w_31j.trans hm
              have hM_w_38l := hm
              refine y_iinc (lv' := fun (v_126 : Int32) => [(1, .int v_126), (0, .ref (ad 63))]) h F ic_m1 dX12_rosters_126 hl (kq := 0) rfl (Nat.le_of_ble_eq_true rfl) (fun _ => rfl) (fun v_126 ls hl h => ?_)
              refine lv_goto (tgt := 38) hx hb dX12_rosters_129 (by decide) ?_
              exact ih_38 w_126j v_126 hM_w_31j h _ _ _ hP hS (lv_sub hl [0, 1] rfl)
            · have L_44 : ∀ (n_44 : Nat) (w_44l : Wd) (x2_44l : Int32), mono w_38l w_44l → l_X12_rosters_44 x1_38l j_126 n_44 w_44l x2_44l = some (r, w9) → GG p l e { frames := 3, cells := 0, slots := 0, locals := 71 } s m args below meth c 0 0 (MQ below (mQ D cT lo NB w w9 ad (some (.int r))) args s 0 0 (fun q => lo ≤ q)) D cT lo NB 6 ad w_44l 44 [(2, .int x2_44l), (1, .int x1_38l), (0, .ref (ad 63))] [] := by
                intro n_44
                induction n_44 with
                | zero =>
                  intro w_44l x2_44l _ h
                  exact absurd h (by unfold l_X12_rosters_44; exact fun z => by cases z)
                | succ n_44 ih_44 =>
                  intro w_44l x2_44l hm h H locs ls hP hS hl
                  unfold l_X12_rosters_44 at h
                  have hM_w := hM_w.trans hm
                  have hM_w_31j := hM_w_31j.trans hm
                  have hM_w_38l := hm
                  refine lv_iload_n hx hb dX12_rosters_44 rfl (lv_at hl 0 rfl) ?_
                  refine lv_sipush (v := 256) hx hb dX12_rosters_45 is_256 ?_
                  refine lv_icmp_ge (tgt := 126) hx hb dX12_rosters_48 (by decide) (fun hc => ?_) (fun hc => ?_)
                  · have h := if_t _ hc h
                    exact J_126 w_44l hM_w_38l h _ _ _ hP hS (lv_sub hl [1, 2] rfl)
                  · have h := if_f _ hc h
                    refine lv_iconst (v := -1) hx hb dX12_rosters_51 ic_m1 ?_
                    refine lv_istore_n (lv' := [(3, .int (-1 : Int32)), (2, .int x2_44l), (1, .int x1_38l), (0, .ref (ad 63))]) hx hb dX12_rosters_52 rfl hl (Nat.le_of_ble_eq_true rfl) rfl (fun ls hl => ?_)
                    refine lv_iconst (v := 0) hx hb dX12_rosters_53 ic_0 ?_
                    refine lv_istore (lv' := [(4, .int (0 : Int32)), (3, .int (-1 : Int32)), (2, .int x2_44l), (1, .int x1_38l), (0, .ref (ad 63))]) hx hb dX12_rosters_54 hl (Nat.le_of_ble_eq_true rfl) rfl (fun ls hl => ?_)
                    refine jn_use (fun (j_107 : Int32 → Option (Int32 × Wd)) => ∀ (x3_107 : Int32), j_107 x3_107 = some (r, w9) → GG p l e { frames := 3, cells := 0, slots := 0, locals := 71 } s m args below meth c 0 0 (MQ below (mQ D cT lo NB w w9 ad (some (.int r))) args s 0 0 (fun q => lo ≤ q)) D cT lo NB 6 ad w_44l 107 [(3, .int x3_107), (2, .int x2_44l), (1, .int x1_38l), (0, .ref (ad 63))] []) h (fun x3_107 h H locs ls hP hS hl => ?_) (fun j_107 J_107 h => ?_)
                    · refine lv_aload_n hx hb dX12_rosters_107 rfl (lv_at hl 3 rfl) ?_
                      refine x_getr F hP k_63 (hP.al 63 rfl) fl_X12_141 rfl r_63_55 dX12_rosters_108 ?_
                      refine lv_sipush (v := 256) hx hb dX12_rosters_111 is_256 ?_
                      refine lv_iload_n hx hb dX12_rosters_114 rfl (lv_at hl 2 rfl) ?_
                      refine lv_imul hx hb dX12_rosters_115 ?_
                      refine lv_iload_n hx hb dX12_rosters_116 rfl (lv_at hl 1 rfl) ?_
                      refine lv_iadd hx hb dX12_rosters_117 ?_
                      refine lv_iload_n hx hb dX12_rosters_118 rfl (lv_at hl 0 rfl) ?_
                      refine y_iast h F hP hS k_102 (n2 (hP.al 102 rfl)) dX12_rosters_119 (fun w_119 H locs hm h hP hS => ?_)
                      have hM_w := hM_w.trans hm
                      have hM_w_31j := hM_w_31j.trans hm
                      have hM_w_38l := hM_w_38l.trans hm
                      refine y_iinc (lv' := fun (v_120 : Int32) => [(2, .int v_120), (3, .int x3_107), (1, .int x1_38l), (0, .ref (ad 63))]) h F ic_1 dX12_rosters_120 hl (kq := 1) rfl (Nat.le_of_ble_eq_true rfl) (fun _ => rfl) (fun v_120 ls hl h => ?_)
                      refine lv_goto (tgt := 44) hx hb dX12_rosters_123 (by decide) ?_
                      exact ih_44 w_119 v_120 hM_w_38l h _ _ _ hP hS (lv_sub hl [0, 2, 3] rfl)
                    · have L_56 : ∀ (n_56 : Nat) (x4_56l : Int32) (x3_56l : Int32), l_X12_rosters_56 x1_38l x2_44l w_44l j_107 n_56 x4_56l x3_56l = some (r, w9) → GG p l e { frames := 3, cells := 0, slots := 0, locals := 71 } s m args below meth c 0 0 (MQ below (mQ D cT lo NB w w9 ad (some (.int r))) args s 0 0 (fun q => lo ≤ q)) D cT lo NB 6 ad w_44l 56 [(4, .int x4_56l), (3, .int x3_56l), (2, .int x2_44l), (1, .int x1_38l), (0, .ref (ad 63))] [] := by
                        intro n_56
                        induction n_56 with
                        | zero =>
                          intro x4_56l x3_56l h
                          exact absurd h (by unfold l_X12_rosters_56; exact fun z => by cases z)
                        | succ n_56 ih_56 =>
                          intro x4_56l x3_56l h H locs ls hP hS hl
                          unfold l_X12_rosters_56 at h
                          refine lv_iload hx hb dX12_rosters_56 (lv_at hl 0 rfl) ?_
                          refine lv_iconst (v := 1) hx hb dX12_rosters_58 ic_1 ?_
                          refine lv_aload_n hx hb dX12_rosters_59 rfl (lv_at hl 4 rfl) ?_
                          refine y_geti h F hP k_63 (n2 (hP.al 63 rfl)) fl_X12_396 rfl dX12_rosters_60 (fun v_60 h => ?_)
                          refine lv_ishl hx hb dX12_rosters_63 ?_
                          refine lv_icmp_ge (tgt := 107) hx hb dX12_rosters_64 (by decide) (fun hc => ?_) (fun hc => ?_)
                          · have h := if_t _ hc h
                            exact J_107 x3_56l h _ _ _ hP hS (lv_sub hl [1, 2, 3, 4] rfl)
                          · have h := if_f _ hc h
                            refine lv_aload_n hx hb dX12_rosters_67 rfl (lv_at hl 4 rfl) ?_
                            refine lv_iload_n hx hb dX12_rosters_68 rfl (lv_at hl 3 rfl) ?_
                            refine lv_iload_n hx hb dX12_rosters_69 rfl (lv_at hl 2 rfl) ?_
                            refine lv_iload hx hb dX12_rosters_70 (lv_at hl 0 rfl) ?_
                            obtain ⟨v_72, hc_72, h⟩ := bo_s h
                            refine x_goes (x_runV (As := [.int x1_38l, .int x2_44l, .int x4_56l]) (rest := []) F hP hS (c_X12_countsFrom l D cT lo w_44l ad x1_38l x2_44l x4_56l v_72 hc_72) cw_X12_countsFrom lk_X12_411 vi_X12_countsFrom k_63 (n2 (hP.al 63 rfl)) rfl ⟨rfl, rfl, Nat.le_of_ble_eq_true rfl, Nat.le_of_ble_eq_true rfl⟩ hl.1 rfl (Nat.le_of_ble_eq_true rfl) dX12_rosters_72 ⟨Nat.zero_le _, Nat.zero_le _⟩) hS (fun H locs hP hS _ => ?_)
                            refine lv_istore (lv' := [(5, .int v_72), (4, .int x4_56l), (3, .int x3_56l), (2, .int x2_44l), (1, .int x1_38l), (0, .ref (ad 63))]) hx hb dX12_rosters_75 hl (Nat.le_of_ble_eq_true rfl) rfl (fun ls hl => ?_)
                            refine lv_iload hx hb dX12_rosters_77 (lv_at hl 0 rfl) ?_
                            refine lv_iconst (v := -1) hx hb dX12_rosters_79 ic_m1 ?_
                            refine jn_use (fun (j_100 : Int32 → Option (Int32 × Wd)) => ∀ (s0_100 : Int32), j_100 s0_100 = some (r, w9) → GG p l e { frames := 3, cells := 0, slots := 0, locals := 71 } s m args below meth c 0 0 (MQ below (mQ D cT lo NB w w9 ad (some (.int r))) args s 0 0 (fun q => lo ≤ q)) D cT lo NB 6 ad w_44l 100 [(4, .int x4_56l), (2, .int x2_44l), (1, .int x1_38l), (0, .ref (ad 63))] [.int s0_100]) h (fun s0_100 h H locs ls hP hS hl => ?_) (fun j_100 J_100 h => ?_)
                            · refine lv_istore_n (lv' := [(3, .int s0_100), (4, .int x4_56l), (2, .int x2_44l), (1, .int x1_38l), (0, .ref (ad 63))]) hx hb dX12_rosters_100 rfl hl (Nat.le_of_ble_eq_true rfl) rfl (fun ls hl => ?_)
                              refine y_iinc (lv' := fun (v_101 : Int32) => [(4, .int v_101), (3, .int s0_100), (2, .int x2_44l), (1, .int x1_38l), (0, .ref (ad 63))]) h F ic_1 dX12_rosters_101 hl (kq := 1) rfl (Nat.le_of_ble_eq_true rfl) (fun _ => rfl) (fun v_101 ls hl h => ?_)
                              refine lv_goto (tgt := 56) hx hb dX12_rosters_104 (by decide) ?_
                              exact ih_56 v_101 s0_100 h _ _ _ hP hS (lv_sub hl [0, 1, 2, 3, 4] rfl)
                            · refine jn_use (fun (j_99 : Option (Int32 × Wd)) => j_99 = some (r, w9) → GG p l e { frames := 3, cells := 0, slots := 0, locals := 71 } s m args below meth c 0 0 (MQ below (mQ D cT lo NB w w9 ad (some (.int r))) args s 0 0 (fun q => lo ≤ q)) D cT lo NB 6 ad w_44l 99 [(4, .int x4_56l), (3, .int x3_56l), (2, .int x2_44l), (1, .int x1_38l), (0, .ref (ad 63))] []) h (fun h H locs ls hP hS hl => ?_) (fun j_99 J_99 h => ?_)
                              · refine lv_iload_n hx hb dX12_rosters_99 rfl (lv_at hl 1 rfl) ?_
                                exact J_100 x3_56l h _ _ _ hP hS (lv_sub hl [0, 2, 3, 4] rfl)
                              · refine lv_icmp_eq (tgt := 99) hx hb dX12_rosters_80 (by decide) (fun hc => ?_) (fun hc => ?_)
                                · have h := if_t _ hc h
                                  exact J_99  h _ _ _ hP hS (lv_sub hl [1, 2, 3, 4, 5] rfl)
                                · have h := if_f _ hc h
                                  refine lv_iload_n hx hb dX12_rosters_83 rfl (lv_at hl 2 rfl) ?_
                                  refine lv_iconst (v := -1) hx hb dX12_rosters_84 ic_m1 ?_
                                  refine jn_use (fun (j_94 : Option (Int32 × Wd)) => j_94 = some (r, w9) → GG p l e { frames := 3, cells := 0, slots := 0, locals := 71 } s m args below meth c 0 0 (MQ below (mQ D cT lo NB w w9 ad (some (.int r))) args s 0 0 (fun q => lo ≤ q)) D cT lo NB 6 ad w_44l 94 [(5, .int v_72), (4, .int x4_56l), (2, .int x2_44l), (1, .int x1_38l), (0, .ref (ad 63))] []) h (fun h H locs ls hP hS hl => ?_) (fun j_94 J_94 h => ?_)
                                  · refine lv_iload hx hb dX12_rosters_94 (lv_at hl 0 rfl) ?_
                                    refine lv_goto (tgt := 100) hx hb dX12_rosters_96 (by decide) ?_
                                    exact J_100 v_72 h _ _ _ hP hS (lv_sub hl [1, 2, 3, 4] rfl)
                                  · refine lv_icmp_eq (tgt := 94) hx hb dX12_rosters_85 (by decide) (fun hc => ?_) (fun hc => ?_)
                                    · have h := if_t _ hc h
                                      exact J_94  h _ _ _ hP hS (lv_sub hl [0, 1, 3, 4, 5] rfl)
                                    · have h := if_f _ hc h
                                      refine lv_iload hx hb dX12_rosters_88 (lv_at hl 0 rfl) ?_
                                      refine lv_iload_n hx hb dX12_rosters_90 rfl (lv_at hl 2 rfl) ?_
                                      refine lv_icmp_ge (tgt := 99) hx hb dX12_rosters_91 (by decide) (fun hc => ?_) (fun hc => ?_)
                                      · have h := if_t _ hc h
                                        exact J_99  h _ _ _ hP hS (lv_sub hl [1, 2, 3, 4, 5] rfl)
                                      · have h := if_f _ hc h
                                        exact J_94  h _ _ _ hP hS (lv_sub hl [0, 1, 3, 4, 5] rfl)
                      exact L_56 FU (0 : Int32) (-1 : Int32) h _ _ _ hP hS (lv_sub hl [0, 1, 2, 3, 4] rfl)
              exact L_44 FU w_38l (0 : Int32) mono.refl h _ _ _ hP hS (lv_sub hl [0, 1, 2] rfl)
      exact L_38 FU w_31j v_37 mono.refl h _ _ _ hP hS (lv_sub hl [0, 1] rfl)
  · have L_2 : ∀ (n_2 : Nat) (w_2l : Wd) (x1_2l : Int32), mono w w_2l → l_X12_rosters_2 j_31 n_2 w_2l x1_2l = some (r, w9) → GG p l e { frames := 3, cells := 0, slots := 0, locals := 71 } s m args below meth c 0 0 (MQ below (mQ D cT lo NB w w9 ad (some (.int r))) args s 0 0 (fun q => lo ≤ q)) D cT lo NB 6 ad w_2l 2 [(1, .int x1_2l), (0, .ref (ad 63))] [] := by
      intro n_2
      induction n_2 with
      | zero =>
        intro w_2l x1_2l _ h
        exact absurd h (by unfold l_X12_rosters_2; exact fun z => by cases z)
      | succ n_2 ih_2 =>
        intro w_2l x1_2l hm h H locs ls hP hS hl
        unfold l_X12_rosters_2 at h
        have hM_w := hm
        refine lv_iload_n hx hb dX12_rosters_2 rfl (lv_at hl 0 rfl) ?_
        refine lv_sipush (v := 256) hx hb dX12_rosters_3 is_256 ?_
        refine lv_icmp_ge (tgt := 31) hx hb dX12_rosters_6 (by decide) (fun hc => ?_) (fun hc => ?_)
        · have h := if_t _ hc h
          exact J_31 w_2l hM_w h _ _ _ hP hS (lv_sub hl [1] rfl)
        · have h := if_f _ hc h
          refine lv_aload_n hx hb dX12_rosters_9 rfl (lv_at hl 1 rfl) ?_
          refine x_getr F hP k_63 (hP.al 63 rfl) fl_X12_141 rfl r_63_55 dX12_rosters_10 ?_
          refine lv_sipush (v := 256) hx hb dX12_rosters_13 is_256 ?_
          refine lv_aload_n hx hb dX12_rosters_16 rfl (lv_at hl 1 rfl) ?_
          refine y_geti h F hP k_63 (n2 (hP.al 63 rfl)) fl_X12_399 rfl dX12_rosters_17 (fun v_17 h => ?_)
          refine lv_imul hx hb dX12_rosters_20 ?_
          refine lv_iload_n hx hb dX12_rosters_21 rfl (lv_at hl 0 rfl) ?_
          refine lv_iadd hx hb dX12_rosters_22 ?_
          refine lv_iconst (v := 0) hx hb dX12_rosters_23 ic_0 ?_
          refine y_iast h F hP hS k_102 (n2 (hP.al 102 rfl)) dX12_rosters_24 (fun w_24 H locs hm h hP hS => ?_)
          have hM_w := hM_w.trans hm
          refine y_iinc (lv' := fun (v_25 : Int32) => [(1, .int v_25), (0, .ref (ad 63))]) h F ic_1 dX12_rosters_25 hl (kq := 0) rfl (Nat.le_of_ble_eq_true rfl) (fun _ => rfl) (fun v_25 ls hl h => ?_)
          refine lv_goto (tgt := 2) hx hb dX12_rosters_28 (by decide) ?_
          exact ih_2 w_24 v_25 hM_w h _ _ _ hP hS (lv_sub hl [0, 1] rfl)
    exact L_2 FU w (0 : Int32) mono.refl h _ _ _ hP hS (lv_sub hl [0, 1] rfl)
def f_X12_rosterOrNot (w : Wd) : Option (Int32 × Wd) :=
q_bi (f_X12_rosters w) (fun v_1 w_1 =>
if v_1 = (-1 : Int32) then
some ((-3 : Int32), w_1)
else
some (v_1, w_1))
set_option maxRecDepth 100000 in
set_option maxHeartbeats 4000000 in
theorem c_X12_rosterOrNot (l : Launch) (D : va_G) (cT : Nat → ClassId) (lo : Nat) (w : Wd) (ad : Nat → Nat)  (r : Int32) (w9 : Wd) (h : f_X12_rosterOrNot w = some (r, w9)) : Met l yX12_rosterOrNot (.code yX12_rosterOrNot cX12_rosterOrNot 2 (some .int) :: TW) { frames := 4, cells := 0, slots := 0, locals := 96 } (mPc D cT lo NB w ad [.ref (ad 63)]) (mQ D cT lo NB w w9 ad (some (.int r))) 0 0 (fun q => lo ≤ q) := by
  unfold f_X12_rosterOrNot at h
  refine x_met (lv := [(0, .ref (ad 63))]) (by decide +kernel) (Nat.le_of_ble_eq_true rfl) rfl ?_
  intro p e s m args below meth c ls F hr hlk hP hin hl
  have hx := F.1
  have hb := F.2.1
  have hS : va_S (fun q => lo ≤ q) s.heap s.heap [] := va_S.rf
  have hM_w : mono w w := mono.refl
  refine lv_aload_n hx hb dX12_rosterOrNot_0 rfl (lv_at hl 0 rfl) ?_
  obtain ⟨v_1, w_1, hc_1, h⟩ := bi_s h
  refine x_goes (x_runV (As := []) (rest := []) F hP hS (c_X12_rosters l D cT lo w ad  v_1 w_1 hc_1) cw_X12_rosters lk_X12_414 vi_X12_rosters k_63 (n2 (hP.al 63 rfl)) rfl ⟨rfl, rfl, Nat.le_of_ble_eq_true rfl, Nat.le_of_ble_eq_true rfl⟩ hl.1 rfl (Nat.le_of_ble_eq_true rfl) dX12_rosterOrNot_1 ⟨Nat.zero_le _, Nat.zero_le _⟩) hS (fun H locs hP hS hm => ?_)
  have hM_w := hm
  refine lv_istore_n (lv' := [(1, .int v_1), (0, .ref (ad 63))]) hx hb dX12_rosterOrNot_4 rfl hl (Nat.le_of_ble_eq_true rfl) rfl (fun ls hl => ?_)
  refine lv_iload_n hx hb dX12_rosterOrNot_5 rfl (lv_at hl 0 rfl) ?_
  refine lv_iconst (v := -1) hx hb dX12_rosterOrNot_6 ic_m1 ?_
  refine lv_icmp_ne (tgt := 15) hx hb dX12_rosterOrNot_7 (by decide) (fun hc => ?_) (fun hc => ?_)
  · have h := if_f _ hc h
    refine lv_iload_n hx hb dX12_rosterOrNot_15 rfl (lv_at hl 0 rfl) ?_
    exact y_iretM h F hr hP hS hM_w hlk dX12_rosterOrNot_16
  · have h := if_t _ hc h
    refine lv_bipush (v := -3) hx hb dX12_rosterOrNot_10 ib_m3 ?_
    refine lv_goto (tgt := 16) hx hb dX12_rosterOrNot_12 (by decide) ?_
    exact y_iretM h F hr hP hS hM_w hlk dX12_rosterOrNot_16
def f_X12_roster (w : Wd) : Option (Int32 × Wd) :=
q_bi (f_X12_rosterOrNot w) (fun v_1 w_1 =>
some (v_1, w_1))
set_option maxRecDepth 100000 in
set_option maxHeartbeats 4000000 in
theorem c_X12_roster (l : Launch) (D : va_G) (cT : Nat → ClassId) (lo : Nat) (w : Wd) (ad : Nat → Nat)  (r : Int32) (w9 : Wd) (h : f_X12_roster w = some (r, w9)) : Met l yX12_roster (.code yX12_roster cX12_roster 1 (some .int) :: TW) { frames := 5, cells := 0, slots := 0, locals := 117 } (mPc D cT lo NB w ad [.ref (ad 63)]) (mQ D cT lo NB w w9 ad (some (.int r))) 0 0 (fun q => lo ≤ q) := by
  unfold f_X12_roster at h
  refine x_met (lv := [(0, .ref (ad 63))]) (by decide +kernel) (Nat.le_of_ble_eq_true rfl) rfl ?_
  intro p e s m args below meth c ls F hr hlk hP hin hl
  have hx := F.1
  have hb := F.2.1
  have hS : va_S (fun q => lo ≤ q) s.heap s.heap [] := va_S.rf
  have hM_w : mono w w := mono.refl
  refine lv_aload_n hx hb dX12_roster_0 rfl (lv_at hl 0 rfl) ?_
  obtain ⟨v_1, w_1, hc_1, h⟩ := bi_s h
  refine x_goes (x_runV (As := []) (rest := []) F hP hS (c_X12_rosterOrNot l D cT lo w ad  v_1 w_1 hc_1) cw_X12_rosterOrNot lk_X12_417 vi_X12_rosterOrNot k_63 (n2 (hP.al 63 rfl)) rfl ⟨rfl, rfl, Nat.le_of_ble_eq_true rfl, Nat.le_of_ble_eq_true rfl⟩ hl.1 rfl (Nat.le_of_ble_eq_true rfl) dX12_roster_1 ⟨Nat.zero_le _, Nat.zero_le _⟩) hS (fun H locs hP hS hm => ?_)
  have hM_w := hm
  exact y_iretM h F hr hP hS hM_w hlk dX12_roster_4
def f_X12_pulls (w : Wd) (a1 : Int32) : Option (Int32 × Wd) :=
q_gt w 63 52 (fun v_3 =>
if (f_X12_in a1 (0 : Int32) (v_3 - (1 : Int32))) = 0 then
some ((-2 : Int32), w)
else
q_bi (f_X12_rosters w) (fun v_18 w_18 =>
if v_18 = (-1 : Int32) then
some ((-3 : Int32), w_18)
else
q_ld w_18 103 6 a1 (fun v_35 =>
some (v_35, w_18))))
set_option maxRecDepth 100000 in
set_option maxHeartbeats 4000000 in
theorem c_X12_pulls (l : Launch) (D : va_G) (cT : Nat → ClassId) (lo : Nat) (w : Wd) (ad : Nat → Nat) (a1 : Int32) (r : Int32) (w9 : Wd) (h : f_X12_pulls w a1 = some (r, w9)) : Met l yX12_pulls (.code yX12_pulls cX12_pulls 2 (some .int) :: TW) { frames := 4, cells := 0, slots := 0, locals := 96 } (mPc D cT lo NB w ad [.ref (ad 63), .int a1]) (mQ D cT lo NB w w9 ad (some (.int r))) 0 0 (fun q => lo ≤ q) := by
  unfold f_X12_pulls at h
  refine x_met (lv := [(0, .ref (ad 63)), (1, .int a1)]) (by decide +kernel) (Nat.le_of_ble_eq_true rfl) rfl ?_
  intro p e s m args below meth c ls F hr hlk hP hin hl
  have hx := F.1
  have hb := F.2.1
  have hS : va_S (fun q => lo ≤ q) s.heap s.heap [] := va_S.rf
  have hM_w : mono w w := mono.refl
  refine lv_iload_n hx hb dX12_pulls_0 rfl (lv_at hl 1 rfl) ?_
  refine lv_iconst (v := 0) hx hb dX12_pulls_1 ic_0 ?_
  refine lv_aload_n hx hb dX12_pulls_2 rfl (lv_at hl 0 rfl) ?_
  refine y_geti h F hP k_63 (n2 (hP.al 63 rfl)) fl_X12_399 rfl dX12_pulls_3 (fun v_3 h => ?_)
  refine lv_iconst (v := 1) hx hb dX12_pulls_6 ic_1 ?_
  refine lv_isub hx hb dX12_pulls_7 ?_
  refine x_goesZ (x_runS (As := [.int a1, .int (0 : Int32), .int (v_3 - (1 : Int32))]) (rest := []) F hP hS (c_X12_in l D cT lo NB w ad a1 (0 : Int32) (v_3 - (1 : Int32))) cw_X12_in lk_X12_217 st_X12_in ⟨rfl, rfl, Nat.le_of_ble_eq_true rfl, Nat.le_of_ble_eq_true rfl⟩ hl.1 rfl (Nat.le_of_ble_eq_true rfl) dX12_pulls_8 ⟨Nat.zero_le _, Nat.zero_le _⟩) hS (fun H locs hz_8 hP hS _ => ?_)
  refine lv_if_ne (tgt := 17) hx hb dX12_pulls_11 (by decide) (fun hc => ?_) (fun hc => ?_)
  · have h := if_f _ hc h
    refine lv_aload_n hx hb dX12_pulls_17 rfl (lv_at hl 0 rfl) ?_
    obtain ⟨v_18, w_18, hc_18, h⟩ := bi_s h
    refine x_goes (x_runV (As := []) (rest := []) F hP hS (c_X12_rosters l D cT lo w ad  v_18 w_18 hc_18) cw_X12_rosters lk_X12_414 vi_X12_rosters k_63 (n2 (hP.al 63 rfl)) rfl ⟨rfl, rfl, Nat.le_of_ble_eq_true rfl, Nat.le_of_ble_eq_true rfl⟩ hl.1 rfl (Nat.le_of_ble_eq_true rfl) dX12_pulls_18 ⟨Nat.zero_le _, Nat.zero_le _⟩) hS (fun H locs hP hS hm => ?_)
    have hM_w := hm
    refine lv_iconst (v := -1) hx hb dX12_pulls_21 ic_m1 ?_
    refine lv_icmp_ne (tgt := 30) hx hb dX12_pulls_22 (by decide) (fun hc => ?_) (fun hc => ?_)
    · have h := if_f _ hc h
      refine lv_aload_n hx hb dX12_pulls_30 rfl (lv_at hl 0 rfl) ?_
      refine x_getr F hP k_63 (hP.al 63 rfl) fl_X12_144 rfl r_63_56 dX12_pulls_31 ?_
      refine lv_iload_n hx hb dX12_pulls_34 rfl (lv_at hl 1 rfl) ?_
      refine y_iald h F hP k_103 (n2 (hP.al 103 rfl)) dX12_pulls_35 (fun v_35 h => ?_)
      exact y_iretM h F hr hP hS hM_w hlk dX12_pulls_36
    · have h := if_t _ hc h
      refine lv_bipush (v := -3) hx hb dX12_pulls_25 ib_m3 ?_
      refine lv_goto (tgt := 36) hx hb dX12_pulls_27 (by decide) ?_
      exact y_iretM h F hr hP hS hM_w hlk dX12_pulls_36
  · have h := if_t _ hc h
    refine lv_bipush (v := -2) hx hb dX12_pulls_14 ib_m2 ?_
    exact y_iretM h F hr hP hS mono.refl hlk dX12_pulls_16
def f_X12_block (w : Wd) (a1 : Int32) (a2 : Int32) (a3 : Int32) : Option (Int32 × Wd) :=
if (f_X12_in a1 (0 : Int32) (19 : Int32)) = 0 then
some ((-2 : Int32), w)
else
if (f_X12_in a2 (1 : Int32) (60 : Int32)) = 0 then
some ((-2 : Int32), w)
else
q_st w 104 20 a1 a2 (fun w_29 =>
q_sz w_29 105 20 a1 a3 (fun w_36 =>
some ((1 : Int32), w_36)))
set_option maxRecDepth 100000 in
set_option maxHeartbeats 4000000 in
theorem c_X12_block (l : Launch) (D : va_G) (cT : Nat → ClassId) (lo : Nat) (w : Wd) (ad : Nat → Nat) (a1 : Int32) (a2 : Int32) (a3 : Int32) (r : Int32) (w9 : Wd) (h : f_X12_block w a1 a2 a3 = some (r, w9)) : Met l yX12_block (.code yX12_block cX12_block 4 (some .int) :: TW) { frames := 1, cells := 0, slots := 0, locals := 22 } (mPc D cT lo NB w ad [.ref (ad 63), .int a1, .int a2, .int a3]) (mQ D cT lo NB w w9 ad (some (.int r))) 0 0 (fun q => lo ≤ q) := by
  unfold f_X12_block at h
  refine x_met (lv := [(0, .ref (ad 63)), (1, .int a1), (2, .int a2), (3, .int a3)]) (by decide +kernel) (Nat.le_of_ble_eq_true rfl) rfl ?_
  intro p e s m args below meth c ls F hr hlk hP hin hl
  have hx := F.1
  have hb := F.2.1
  have hS : va_S (fun q => lo ≤ q) s.heap s.heap [] := va_S.rf
  have hM_w : mono w w := mono.refl
  refine lv_iload_n hx hb dX12_block_0 rfl (lv_at hl 1 rfl) ?_
  refine lv_iconst (v := 0) hx hb dX12_block_1 ic_0 ?_
  refine lv_bipush (v := 19) hx hb dX12_block_2 ib_19 ?_
  refine x_goesZ (x_runS (As := [.int a1, .int (0 : Int32), .int (19 : Int32)]) (rest := []) F hP hS (c_X12_in l D cT lo NB w ad a1 (0 : Int32) (19 : Int32)) cw_X12_in lk_X12_217 st_X12_in ⟨rfl, rfl, Nat.le_of_ble_eq_true rfl, Nat.le_of_ble_eq_true rfl⟩ hl.1 rfl (Nat.le_of_ble_eq_true rfl) dX12_block_4 ⟨Nat.zero_le _, Nat.zero_le _⟩) hS (fun H locs hz_4 hP hS _ => ?_)
  refine lv_if_eq (tgt := 20) hx hb dX12_block_7 (by decide) (fun hc => ?_) (fun hc => ?_)
  · have h := if_t _ hc h
    refine lv_bipush (v := -2) hx hb dX12_block_20 ib_m2 ?_
    exact y_iretM h F hr hP hS mono.refl hlk dX12_block_22
  · have h := if_f _ hc h
    refine lv_iload_n hx hb dX12_block_10 rfl (lv_at hl 2 rfl) ?_
    refine lv_iconst (v := 1) hx hb dX12_block_11 ic_1 ?_
    refine lv_bipush (v := 60) hx hb dX12_block_12 ib_60 ?_
    refine x_goesZ (x_runS (As := [.int a2, .int (1 : Int32), .int (60 : Int32)]) (rest := []) F hP hS (c_X12_in l D cT lo NB w ad a2 (1 : Int32) (60 : Int32)) cw_X12_in lk_X12_217 st_X12_in ⟨rfl, rfl, Nat.le_of_ble_eq_true rfl, Nat.le_of_ble_eq_true rfl⟩ hl.1 rfl (Nat.le_of_ble_eq_true rfl) dX12_block_14 ⟨Nat.zero_le _, Nat.zero_le _⟩) hS (fun H locs hz_14 hP hS _ => ?_)
    refine lv_if_ne (tgt := 23) hx hb dX12_block_17 (by decide) (fun hc => ?_) (fun hc => ?_)
    · have h := if_f _ hc h
      refine lv_aload_n hx hb dX12_block_23 rfl (lv_at hl 0 rfl) ?_
      refine x_getr F hP k_63 (hP.al 63 rfl) fl_X12_147 rfl r_63_57 dX12_block_24 ?_
      refine lv_iload_n hx hb dX12_block_27 rfl (lv_at hl 1 rfl) ?_
      refine lv_iload_n hx hb dX12_block_28 rfl (lv_at hl 2 rfl) ?_
      refine y_iast h F hP hS k_104 (n2 (hP.al 104 rfl)) dX12_block_29 (fun w_29 H locs hm h hP hS => ?_)
      have hM_w := hm
      refine lv_aload_n hx hb dX12_block_30 rfl (lv_at hl 0 rfl) ?_
      refine x_getr F hP k_63 (hP.al 63 rfl) fl_X12_150 rfl r_63_58 dX12_block_31 ?_
      refine lv_iload_n hx hb dX12_block_34 rfl (lv_at hl 1 rfl) ?_
      refine lv_iload_n hx hb dX12_block_35 rfl (lv_at hl 3 rfl) ?_
      refine y_zast h F hP hS k_105 (n2 (hP.al 105 rfl)) dX12_block_36 (fun w_36 H locs hm h hP hS => ?_)
      have hM_w := hM_w.trans hm
      refine lv_iconst (v := 1) hx hb dX12_block_37 ic_1 ?_
      exact y_iretM h F hr hP hS hM_w hlk dX12_block_38
    · have h := if_t _ hc h
      refine lv_bipush (v := -2) hx hb dX12_block_20 ib_m2 ?_
      exact y_iretM h F hr hP hS mono.refl hlk dX12_block_22
def f_X12_enter (w : Wd) (a1 : Int32) (a2 : Int32) (a3 : Int32) : Option (Int32 × Wd) :=
if (f_X12_in a1 (0 : Int32) (19 : Int32)) = 0 then
some ((-2 : Int32), w)
else
if (f_X12_in a2 (0 : Int32) (19 : Int32)) = 0 then
some ((-2 : Int32), w)
else
if a1 = a2 then
some ((-2 : Int32), w)
else
if (f_X12_in a3 (0 : Int32) (999 : Int32)) = 0 then
some ((-2 : Int32), w)
else
q_gt w 63 59 (fun v_40 =>
if v_40 = (4 : Int32) then
some ((-4 : Int32), w)
else
q_gt w 63 59 (fun v_55 =>
q_st w 106 4 v_55 a1 (fun w_59 =>
q_gt w_59 63 59 (fun v_65 =>
q_st w_59 107 4 v_65 a2 (fun w_69 =>
q_gt w_69 63 59 (fun v_75 =>
q_st w_69 108 4 v_75 a3 (fun w_79 =>
q_gt w_79 63 59 (fun v_85 =>
q_st w_79 109 4 v_85 (0 : Int32) (fun w_89 =>
q_gt w_89 63 59 (fun v_95 =>
q_st w_89 110 4 v_95 (0 : Int32) (fun w_99 =>
q_gt w_99 63 59 (fun v_102 =>
q_pt w_99 63 59 (v_102 + (1 : Int32)) (fun w_107 =>
q_gt w_107 63 59 (fun v_111 =>
some (v_111 - (1 : Int32), w_107)))))))))))))))
set_option maxRecDepth 100000 in
set_option maxHeartbeats 4000000 in
theorem c_X12_enter (l : Launch) (D : va_G) (cT : Nat → ClassId) (lo : Nat) (w : Wd) (ad : Nat → Nat) (a1 : Int32) (a2 : Int32) (a3 : Int32) (r : Int32) (w9 : Wd) (h : f_X12_enter w a1 a2 a3 = some (r, w9)) : Met l yX12_enter (.code yX12_enter cX12_enter 4 (some .int) :: TW) { frames := 1, cells := 0, slots := 0, locals := 22 } (mPc D cT lo NB w ad [.ref (ad 63), .int a1, .int a2, .int a3]) (mQ D cT lo NB w w9 ad (some (.int r))) 0 0 (fun q => lo ≤ q) := by
  unfold f_X12_enter at h
  refine x_met (lv := [(0, .ref (ad 63)), (1, .int a1), (2, .int a2), (3, .int a3)]) (by decide +kernel) (Nat.le_of_ble_eq_true rfl) rfl ?_
  intro p e s m args below meth c ls F hr hlk hP hin hl
  have hx := F.1
  have hb := F.2.1
  have hS : va_S (fun q => lo ≤ q) s.heap s.heap [] := va_S.rf
  have hM_w : mono w w := mono.refl
  refine lv_iload_n hx hb dX12_enter_0 rfl (lv_at hl 1 rfl) ?_
  refine lv_iconst (v := 0) hx hb dX12_enter_1 ic_0 ?_
  refine lv_bipush (v := 19) hx hb dX12_enter_2 ib_19 ?_
  refine x_goesZ (x_runS (As := [.int a1, .int (0 : Int32), .int (19 : Int32)]) (rest := []) F hP hS (c_X12_in l D cT lo NB w ad a1 (0 : Int32) (19 : Int32)) cw_X12_in lk_X12_217 st_X12_in ⟨rfl, rfl, Nat.le_of_ble_eq_true rfl, Nat.le_of_ble_eq_true rfl⟩ hl.1 rfl (Nat.le_of_ble_eq_true rfl) dX12_enter_4 ⟨Nat.zero_le _, Nat.zero_le _⟩) hS (fun H locs hz_4 hP hS _ => ?_)
  refine lv_if_eq (tgt := 36) hx hb dX12_enter_7 (by decide) (fun hc => ?_) (fun hc => ?_)
  · have h := if_t _ hc h
    refine lv_bipush (v := -2) hx hb dX12_enter_36 ib_m2 ?_
    exact y_iretM h F hr hP hS mono.refl hlk dX12_enter_38
  · have h := if_f _ hc h
    refine lv_iload_n hx hb dX12_enter_10 rfl (lv_at hl 2 rfl) ?_
    refine lv_iconst (v := 0) hx hb dX12_enter_11 ic_0 ?_
    refine lv_bipush (v := 19) hx hb dX12_enter_12 ib_19 ?_
    refine x_goesZ (x_runS (As := [.int a2, .int (0 : Int32), .int (19 : Int32)]) (rest := []) F hP hS (c_X12_in l D cT lo NB w ad a2 (0 : Int32) (19 : Int32)) cw_X12_in lk_X12_217 st_X12_in ⟨rfl, rfl, Nat.le_of_ble_eq_true rfl, Nat.le_of_ble_eq_true rfl⟩ hl.1 rfl (Nat.le_of_ble_eq_true rfl) dX12_enter_14 ⟨Nat.zero_le _, Nat.zero_le _⟩) hS (fun H locs hz_14 hP hS _ => ?_)
    refine lv_if_eq (tgt := 36) hx hb dX12_enter_17 (by decide) (fun hc => ?_) (fun hc => ?_)
    · have h := if_t _ hc h
      refine lv_bipush (v := -2) hx hb dX12_enter_36 ib_m2 ?_
      exact y_iretM h F hr hP hS mono.refl hlk dX12_enter_38
    · have h := if_f _ hc h
      refine lv_iload_n hx hb dX12_enter_20 rfl (lv_at hl 1 rfl) ?_
      refine lv_iload_n hx hb dX12_enter_21 rfl (lv_at hl 2 rfl) ?_
      refine lv_icmp_eq (tgt := 36) hx hb dX12_enter_22 (by decide) (fun hc => ?_) (fun hc => ?_)
      · have h := if_t _ hc h
        refine lv_bipush (v := -2) hx hb dX12_enter_36 ib_m2 ?_
        exact y_iretM h F hr hP hS mono.refl hlk dX12_enter_38
      · have h := if_f _ hc h
        refine lv_iload_n hx hb dX12_enter_25 rfl (lv_at hl 3 rfl) ?_
        refine lv_iconst (v := 0) hx hb dX12_enter_26 ic_0 ?_
        refine lv_sipush (v := 999) hx hb dX12_enter_27 is_999 ?_
        refine x_goesZ (x_runS (As := [.int a3, .int (0 : Int32), .int (999 : Int32)]) (rest := []) F hP hS (c_X12_in l D cT lo NB w ad a3 (0 : Int32) (999 : Int32)) cw_X12_in lk_X12_217 st_X12_in ⟨rfl, rfl, Nat.le_of_ble_eq_true rfl, Nat.le_of_ble_eq_true rfl⟩ hl.1 rfl (Nat.le_of_ble_eq_true rfl) dX12_enter_30 ⟨Nat.zero_le _, Nat.zero_le _⟩) hS (fun H locs hz_30 hP hS _ => ?_)
        refine lv_if_ne (tgt := 39) hx hb dX12_enter_33 (by decide) (fun hc => ?_) (fun hc => ?_)
        · have h := if_f _ hc h
          refine lv_aload_n hx hb dX12_enter_39 rfl (lv_at hl 0 rfl) ?_
          refine y_geti h F hP k_63 (n2 (hP.al 63 rfl)) fl_X12_420 rfl dX12_enter_40 (fun v_40 h => ?_)
          refine lv_iconst (v := 4) hx hb dX12_enter_43 ic_4 ?_
          refine lv_icmp_ne (tgt := 50) hx hb dX12_enter_44 (by decide) (fun hc => ?_) (fun hc => ?_)
          · have h := if_f _ hc h
            refine lv_aload_n hx hb dX12_enter_50 rfl (lv_at hl 0 rfl) ?_
            refine x_getr F hP k_63 (hP.al 63 rfl) fl_X12_153 rfl r_63_60 dX12_enter_51 ?_
            refine lv_aload_n hx hb dX12_enter_54 rfl (lv_at hl 0 rfl) ?_
            refine y_geti h F hP k_63 (n2 (hP.al 63 rfl)) fl_X12_420 rfl dX12_enter_55 (fun v_55 h => ?_)
            refine lv_iload_n hx hb dX12_enter_58 rfl (lv_at hl 1 rfl) ?_
            refine y_iast h F hP hS k_106 (n2 (hP.al 106 rfl)) dX12_enter_59 (fun w_59 H locs hm h hP hS => ?_)
            have hM_w := hm
            refine lv_aload_n hx hb dX12_enter_60 rfl (lv_at hl 0 rfl) ?_
            refine x_getr F hP k_63 (hP.al 63 rfl) fl_X12_156 rfl r_63_61 dX12_enter_61 ?_
            refine lv_aload_n hx hb dX12_enter_64 rfl (lv_at hl 0 rfl) ?_
            refine y_geti h F hP k_63 (n2 (hP.al 63 rfl)) fl_X12_420 rfl dX12_enter_65 (fun v_65 h => ?_)
            refine lv_iload_n hx hb dX12_enter_68 rfl (lv_at hl 2 rfl) ?_
            refine y_iast h F hP hS k_107 (n2 (hP.al 107 rfl)) dX12_enter_69 (fun w_69 H locs hm h hP hS => ?_)
            have hM_w := hM_w.trans hm
            refine lv_aload_n hx hb dX12_enter_70 rfl (lv_at hl 0 rfl) ?_
            refine x_getr F hP k_63 (hP.al 63 rfl) fl_X12_159 rfl r_63_62 dX12_enter_71 ?_
            refine lv_aload_n hx hb dX12_enter_74 rfl (lv_at hl 0 rfl) ?_
            refine y_geti h F hP k_63 (n2 (hP.al 63 rfl)) fl_X12_420 rfl dX12_enter_75 (fun v_75 h => ?_)
            refine lv_iload_n hx hb dX12_enter_78 rfl (lv_at hl 3 rfl) ?_
            refine y_iast h F hP hS k_108 (n2 (hP.al 108 rfl)) dX12_enter_79 (fun w_79 H locs hm h hP hS => ?_)
            have hM_w := hM_w.trans hm
            refine lv_aload_n hx hb dX12_enter_80 rfl (lv_at hl 0 rfl) ?_
            refine x_getr F hP k_63 (hP.al 63 rfl) fl_X12_162 rfl r_63_63 dX12_enter_81 ?_
            refine lv_aload_n hx hb dX12_enter_84 rfl (lv_at hl 0 rfl) ?_
            refine y_geti h F hP k_63 (n2 (hP.al 63 rfl)) fl_X12_420 rfl dX12_enter_85 (fun v_85 h => ?_)
            refine lv_iconst (v := 0) hx hb dX12_enter_88 ic_0 ?_
            refine y_iast h F hP hS k_109 (n2 (hP.al 109 rfl)) dX12_enter_89 (fun w_89 H locs hm h hP hS => ?_)
            have hM_w := hM_w.trans hm
            refine lv_aload_n hx hb dX12_enter_90 rfl (lv_at hl 0 rfl) ?_
            refine x_getr F hP k_63 (hP.al 63 rfl) fl_X12_165 rfl r_63_64 dX12_enter_91 ?_
            refine lv_aload_n hx hb dX12_enter_94 rfl (lv_at hl 0 rfl) ?_
            refine y_geti h F hP k_63 (n2 (hP.al 63 rfl)) fl_X12_420 rfl dX12_enter_95 (fun v_95 h => ?_)
            refine lv_iconst (v := 0) hx hb dX12_enter_98 ic_0 ?_
            refine y_iast h F hP hS k_110 (n2 (hP.al 110 rfl)) dX12_enter_99 (fun w_99 H locs hm h hP hS => ?_)
            have hM_w := hM_w.trans hm
            refine lv_aload_n hx hb dX12_enter_100 rfl (lv_at hl 0 rfl) ?_
            refine lv_dup hx hb dX12_enter_101 rfl ?_
            refine y_geti h F hP k_63 (n2 (hP.al 63 rfl)) fl_X12_420 rfl dX12_enter_102 (fun v_102 h => ?_)
            refine lv_iconst (v := 1) hx hb dX12_enter_105 ic_1 ?_
            refine lv_iadd hx hb dX12_enter_106 ?_
            refine y_puti h F hP hS k_63 (n2 (hP.al 63 rfl)) fl_X12_420 rfl dX12_enter_107 (fun w_107 H locs hm h hP hS => ?_)
            have hM_w := hM_w.trans hm
            refine lv_aload_n hx hb dX12_enter_110 rfl (lv_at hl 0 rfl) ?_
            refine y_geti h F hP k_63 (n2 (hP.al 63 rfl)) fl_X12_420 rfl dX12_enter_111 (fun v_111 h => ?_)
            refine lv_iconst (v := 1) hx hb dX12_enter_114 ic_1 ?_
            refine lv_isub hx hb dX12_enter_115 ?_
            exact y_iretM h F hr hP hS hM_w hlk dX12_enter_116
          · have h := if_t _ hc h
            refine lv_bipush (v := -4) hx hb dX12_enter_47 ib_m4 ?_
            exact y_iretM h F hr hP hS mono.refl hlk dX12_enter_49
        · have h := if_t _ hc h
          refine lv_bipush (v := -2) hx hb dX12_enter_36 ib_m2 ?_
          exact y_iretM h F hr hP hS mono.refl hlk dX12_enter_38
def f_X12_stuck (w : Wd) (a1 : Int32) (a2 : Int32) (a3 : Int32) : Option (Int32 × Wd) :=
q_gt w 63 59 (fun v_3 =>
if (f_X12_in a1 (0 : Int32) (v_3 - (1 : Int32))) = 0 then
some ((-2 : Int32), w)
else
if (f_X12_in a2 (0 : Int32) (2000 : Int32)) = 0 then
some ((-2 : Int32), w)
else
if (f_X12_in a3 (a2 + (1 : Int32)) (2000 : Int32)) = 0 then
some ((-2 : Int32), w)
else
q_st w 109 4 a1 a2 (fun w_47 =>
q_st w_47 110 4 a1 a3 (fun w_54 =>
some ((1 : Int32), w_54))))
set_option maxRecDepth 100000 in
set_option maxHeartbeats 4000000 in
theorem c_X12_stuck (l : Launch) (D : va_G) (cT : Nat → ClassId) (lo : Nat) (w : Wd) (ad : Nat → Nat) (a1 : Int32) (a2 : Int32) (a3 : Int32) (r : Int32) (w9 : Wd) (h : f_X12_stuck w a1 a2 a3 = some (r, w9)) : Met l yX12_stuck (.code yX12_stuck cX12_stuck 4 (some .int) :: TW) { frames := 1, cells := 0, slots := 0, locals := 22 } (mPc D cT lo NB w ad [.ref (ad 63), .int a1, .int a2, .int a3]) (mQ D cT lo NB w w9 ad (some (.int r))) 0 0 (fun q => lo ≤ q) := by
  unfold f_X12_stuck at h
  refine x_met (lv := [(0, .ref (ad 63)), (1, .int a1), (2, .int a2), (3, .int a3)]) (by decide +kernel) (Nat.le_of_ble_eq_true rfl) rfl ?_
  intro p e s m args below meth c ls F hr hlk hP hin hl
  have hx := F.1
  have hb := F.2.1
  have hS : va_S (fun q => lo ≤ q) s.heap s.heap [] := va_S.rf
  have hM_w : mono w w := mono.refl
  refine lv_iload_n hx hb dX12_stuck_0 rfl (lv_at hl 1 rfl) ?_
  refine lv_iconst (v := 0) hx hb dX12_stuck_1 ic_0 ?_
  refine lv_aload_n hx hb dX12_stuck_2 rfl (lv_at hl 0 rfl) ?_
  refine y_geti h F hP k_63 (n2 (hP.al 63 rfl)) fl_X12_420 rfl dX12_stuck_3 (fun v_3 h => ?_)
  refine lv_iconst (v := 1) hx hb dX12_stuck_6 ic_1 ?_
  refine lv_isub hx hb dX12_stuck_7 ?_
  refine x_goesZ (x_runS (As := [.int a1, .int (0 : Int32), .int (v_3 - (1 : Int32))]) (rest := []) F hP hS (c_X12_in l D cT lo NB w ad a1 (0 : Int32) (v_3 - (1 : Int32))) cw_X12_in lk_X12_217 st_X12_in ⟨rfl, rfl, Nat.le_of_ble_eq_true rfl, Nat.le_of_ble_eq_true rfl⟩ hl.1 rfl (Nat.le_of_ble_eq_true rfl) dX12_stuck_8 ⟨Nat.zero_le _, Nat.zero_le _⟩) hS (fun H locs hz_8 hP hS _ => ?_)
  refine lv_if_eq (tgt := 38) hx hb dX12_stuck_11 (by decide) (fun hc => ?_) (fun hc => ?_)
  · have h := if_t _ hc h
    refine lv_bipush (v := -2) hx hb dX12_stuck_38 ib_m2 ?_
    exact y_iretM h F hr hP hS mono.refl hlk dX12_stuck_40
  · have h := if_f _ hc h
    refine lv_iload_n hx hb dX12_stuck_14 rfl (lv_at hl 2 rfl) ?_
    refine lv_iconst (v := 0) hx hb dX12_stuck_15 ic_0 ?_
    refine lv_sipush (v := 2000) hx hb dX12_stuck_16 is_2000 ?_
    refine x_goesZ (x_runS (As := [.int a2, .int (0 : Int32), .int (2000 : Int32)]) (rest := []) F hP hS (c_X12_in l D cT lo NB w ad a2 (0 : Int32) (2000 : Int32)) cw_X12_in lk_X12_217 st_X12_in ⟨rfl, rfl, Nat.le_of_ble_eq_true rfl, Nat.le_of_ble_eq_true rfl⟩ hl.1 rfl (Nat.le_of_ble_eq_true rfl) dX12_stuck_19 ⟨Nat.zero_le _, Nat.zero_le _⟩) hS (fun H locs hz_19 hP hS _ => ?_)
    refine lv_if_eq (tgt := 38) hx hb dX12_stuck_22 (by decide) (fun hc => ?_) (fun hc => ?_)
    · have h := if_t _ hc h
      refine lv_bipush (v := -2) hx hb dX12_stuck_38 ib_m2 ?_
      exact y_iretM h F hr hP hS mono.refl hlk dX12_stuck_40
    · have h := if_f _ hc h
      refine lv_iload_n hx hb dX12_stuck_25 rfl (lv_at hl 3 rfl) ?_
      refine lv_iload_n hx hb dX12_stuck_26 rfl (lv_at hl 2 rfl) ?_
      refine lv_iconst (v := 1) hx hb dX12_stuck_27 ic_1 ?_
      refine lv_iadd hx hb dX12_stuck_28 ?_
      refine lv_sipush (v := 2000) hx hb dX12_stuck_29 is_2000 ?_
      refine x_goesZ (x_runS (As := [.int a3, .int (a2 + (1 : Int32)), .int (2000 : Int32)]) (rest := []) F hP hS (c_X12_in l D cT lo NB w ad a3 (a2 + (1 : Int32)) (2000 : Int32)) cw_X12_in lk_X12_217 st_X12_in ⟨rfl, rfl, Nat.le_of_ble_eq_true rfl, Nat.le_of_ble_eq_true rfl⟩ hl.1 rfl (Nat.le_of_ble_eq_true rfl) dX12_stuck_32 ⟨Nat.zero_le _, Nat.zero_le _⟩) hS (fun H locs hz_32 hP hS _ => ?_)
      refine lv_if_ne (tgt := 41) hx hb dX12_stuck_35 (by decide) (fun hc => ?_) (fun hc => ?_)
      · have h := if_f _ hc h
        refine lv_aload_n hx hb dX12_stuck_41 rfl (lv_at hl 0 rfl) ?_
        refine x_getr F hP k_63 (hP.al 63 rfl) fl_X12_162 rfl r_63_63 dX12_stuck_42 ?_
        refine lv_iload_n hx hb dX12_stuck_45 rfl (lv_at hl 1 rfl) ?_
        refine lv_iload_n hx hb dX12_stuck_46 rfl (lv_at hl 2 rfl) ?_
        refine y_iast h F hP hS k_109 (n2 (hP.al 109 rfl)) dX12_stuck_47 (fun w_47 H locs hm h hP hS => ?_)
        have hM_w := hm
        refine lv_aload_n hx hb dX12_stuck_48 rfl (lv_at hl 0 rfl) ?_
        refine x_getr F hP k_63 (hP.al 63 rfl) fl_X12_165 rfl r_63_64 dX12_stuck_49 ?_
        refine lv_iload_n hx hb dX12_stuck_52 rfl (lv_at hl 1 rfl) ?_
        refine lv_iload_n hx hb dX12_stuck_53 rfl (lv_at hl 3 rfl) ?_
        refine y_iast h F hP hS k_110 (n2 (hP.al 110 rfl)) dX12_stuck_54 (fun w_54 H locs hm h hP hS => ?_)
        have hM_w := hM_w.trans hm
        refine lv_iconst (v := 1) hx hb dX12_stuck_55 ic_1 ?_
        exact y_iretM h F hr hP hS hM_w hlk dX12_stuck_56
      · have h := if_t _ hc h
        refine lv_bipush (v := -2) hx hb dX12_stuck_38 ib_m2 ?_
        exact y_iretM h F hr hP hS mono.refl hlk dX12_stuck_40
def f_X12_home (w : Wd) : Option (Int32 × Wd) :=
q_gt w 63 59 (fun v_1 =>
q_pt w 63 59 (0 : Int32) (fun w_7 =>
some (v_1, w_7)))
set_option maxRecDepth 100000 in
set_option maxHeartbeats 4000000 in
theorem c_X12_home (l : Launch) (D : va_G) (cT : Nat → ClassId) (lo : Nat) (w : Wd) (ad : Nat → Nat)  (r : Int32) (w9 : Wd) (h : f_X12_home w = some (r, w9)) : Met l yX12_home (.code yX12_home cX12_home 2 (some .int) :: TW) { frames := 0, cells := 0, slots := 0, locals := 0 } (mPc D cT lo NB w ad [.ref (ad 63)]) (mQ D cT lo NB w w9 ad (some (.int r))) 0 0 (fun q => lo ≤ q) := by
  unfold f_X12_home at h
  refine x_met (lv := [(0, .ref (ad 63))]) (by decide +kernel) (Nat.le_of_ble_eq_true rfl) rfl ?_
  intro p e s m args below meth c ls F hr hlk hP hin hl
  have hx := F.1
  have hb := F.2.1
  have hS : va_S (fun q => lo ≤ q) s.heap s.heap [] := va_S.rf
  have hM_w : mono w w := mono.refl
  refine lv_aload_n hx hb dX12_home_0 rfl (lv_at hl 0 rfl) ?_
  refine y_geti h F hP k_63 (n2 (hP.al 63 rfl)) fl_X12_420 rfl dX12_home_1 (fun v_1 h => ?_)
  refine lv_istore_n (lv' := [(1, .int v_1), (0, .ref (ad 63))]) hx hb dX12_home_4 rfl hl (Nat.le_of_ble_eq_true rfl) rfl (fun ls hl => ?_)
  refine lv_aload_n hx hb dX12_home_5 rfl (lv_at hl 1 rfl) ?_
  refine lv_iconst (v := 0) hx hb dX12_home_6 ic_0 ?_
  refine y_puti h F hP hS k_63 (n2 (hP.al 63 rfl)) fl_X12_420 rfl dX12_home_7 (fun w_7 H locs hm h hP hS => ?_)
  have hM_w := hm
  refine lv_iload_n hx hb dX12_home_10 rfl (lv_at hl 0 rfl) ?_
  exact y_iretM h F hr hP hS hM_w hlk dX12_home_11
def l_X12_hasRoom_4 (a1 : Int32) (w : Wd) (j_36 : Int32 → Option Int32) : Nat → Int32 → Int32 → Option Int32
  | 0, _, _ => none
  | n_4 + 1, x3_4l, x2_4l =>
    q_gt w 63 59 (fun v_6 =>
    if v_6 ≤ x3_4l then
    j_36 x2_4l
    else
    q_ld w 111 4 x3_4l (fun v_18 =>
    q_jn (fun (s0_28 : Int32) =>
    q_lt (x2_4l + s0_28) (fun v_29 =>
    q_lt (x3_4l + (1 : Int32)) (fun v_30 =>
    l_X12_hasRoom_4 a1 w j_36 n_4 v_30 v_29))) (fun j_28 =>
    if v_18 = a1 then
    j_28 (1 : Int32)
    else
    j_28 (0 : Int32))))
def f_X12_hasRoom (w : Wd) (a1 : Int32) : Option Int32 :=
q_jn (fun (x2_36 : Int32) =>
q_ld w 105 20 a1 (fun v_42 =>
q_jn (fun (s0_51 : Int32) =>
if s0_51 ≤ x2_36 then
some (0 : Int32)
else
some (1 : Int32)) (fun j_51 =>
if v_42 = 0 then
j_51 (1 : Int32)
else
j_51 (2 : Int32)))) (fun j_36 =>
l_X12_hasRoom_4 a1 w j_36 FU (0 : Int32) (0 : Int32))
set_option maxRecDepth 100000 in
set_option maxHeartbeats 4000000 in
theorem c_X12_hasRoom (l : Launch) (D : va_G) (cT : Nat → ClassId) (lo : Nat) (w : Wd) (ad : Nat → Nat) (a1 : Int32) (r : Int32) (h : f_X12_hasRoom w a1 = some r) : Met l yX12_hasRoom (.code yX12_hasRoom cX12_hasRoom 4 (some .boolean) :: TW) { frames := 0, cells := 0, slots := 0, locals := 0 } (mPc D cT lo NB w ad [.ref (ad 63), .int a1]) (mQz D cT lo NB w w ad r) 0 0 (fun q => lo ≤ q) := by
  unfold f_X12_hasRoom at h
  refine x_met (lv := [(0, .ref (ad 63)), (1, .int a1)]) (by decide +kernel) (Nat.le_of_ble_eq_true rfl) rfl ?_
  intro p e s m args below meth c ls F hr hlk hP hin hl
  have hx := F.1
  have hb := F.2.1
  have hS : va_S (fun q => lo ≤ q) s.heap s.heap [] := va_S.rf
  refine lv_iconst (v := 0) hx hb dX12_hasRoom_0 ic_0 ?_
  refine lv_istore_n (lv' := [(2, .int (0 : Int32)), (0, .ref (ad 63)), (1, .int a1)]) hx hb dX12_hasRoom_1 rfl hl (Nat.le_of_ble_eq_true rfl) rfl (fun ls hl => ?_)
  refine lv_iconst (v := 0) hx hb dX12_hasRoom_2 ic_0 ?_
  refine lv_istore_n (lv' := [(3, .int (0 : Int32)), (2, .int (0 : Int32)), (0, .ref (ad 63)), (1, .int a1)]) hx hb dX12_hasRoom_3 rfl hl (Nat.le_of_ble_eq_true rfl) rfl (fun ls hl => ?_)
  refine jn_use (fun (j_36 : Int32 → Option Int32) => ∀ (x2_36 : Int32), j_36 x2_36 = some r → GG p l e { frames := 0, cells := 0, slots := 0, locals := 0 } s m args below meth c 0 0 (MQ below (mQz D cT lo NB w w ad r) args s 0 0 (fun q => lo ≤ q)) D cT lo NB 4 ad w 36 [(2, .int x2_36), (0, .ref (ad 63)), (1, .int a1)] []) h (fun x2_36 h H locs ls hP hS hl => ?_) (fun j_36 J_36 h => ?_)
  · refine lv_iload_n hx hb dX12_hasRoom_36 rfl (lv_at hl 0 rfl) ?_
    refine lv_aload_n hx hb dX12_hasRoom_37 rfl (lv_at hl 1 rfl) ?_
    refine x_getr F hP k_63 (hP.al 63 rfl) fl_X12_150 rfl r_63_58 dX12_hasRoom_38 ?_
    refine lv_iload_n hx hb dX12_hasRoom_41 rfl (lv_at hl 2 rfl) ?_
    refine y_zald h F hP k_105 (n2 (hP.al 105 rfl)) dX12_hasRoom_42 (fun v_42 h => ?_)
    refine jn_use (fun (j_51 : Int32 → Option Int32) => ∀ (s0_51 : Int32), j_51 s0_51 = some r → GG p l e { frames := 0, cells := 0, slots := 0, locals := 0 } s m args below meth c 0 0 (MQ below (mQz D cT lo NB w w ad r) args s 0 0 (fun q => lo ≤ q)) D cT lo NB 4 ad w 51 [] [.int s0_51, .int x2_36]) h (fun s0_51 h H locs ls hP hS hl => ?_) (fun j_51 J_51 h => ?_)
    · refine lv_icmp_ge (tgt := 58) hx hb dX12_hasRoom_51 (by decide) (fun hc => ?_) (fun hc => ?_)
      · have h := if_t _ hc h
        refine lv_iconst (v := 0) hx hb dX12_hasRoom_58 ic_0 ?_
        exact y_zretO h F hr hP hS hlk rfl dX12_hasRoom_59
      · have h := if_f _ hc h
        refine lv_iconst (v := 1) hx hb dX12_hasRoom_54 ic_1 ?_
        refine lv_goto (tgt := 59) hx hb dX12_hasRoom_55 (by decide) ?_
        exact y_zretO h F hr hP hS hlk rfl dX12_hasRoom_59
    · refine lv_if_eq (tgt := 50) hx hb dX12_hasRoom_43 (by decide) (fun hc => ?_) (fun hc => ?_)
      · have h := if_t _ hc h
        refine lv_iconst (v := 1) hx hb dX12_hasRoom_50 ic_1 ?_
        exact J_51 (1 : Int32) h _ _ _ hP hS (lv_sub hl [] rfl)
      · have h := if_f _ hc h
        refine lv_iconst (v := 2) hx hb dX12_hasRoom_46 ic_2 ?_
        refine lv_goto (tgt := 51) hx hb dX12_hasRoom_47 (by decide) ?_
        exact J_51 (2 : Int32) h _ _ _ hP hS (lv_sub hl [] rfl)
  · have L_4 : ∀ (n_4 : Nat) (x3_4l : Int32) (x2_4l : Int32), l_X12_hasRoom_4 a1 w j_36 n_4 x3_4l x2_4l = some r → GG p l e { frames := 0, cells := 0, slots := 0, locals := 0 } s m args below meth c 0 0 (MQ below (mQz D cT lo NB w w ad r) args s 0 0 (fun q => lo ≤ q)) D cT lo NB 4 ad w 4 [(3, .int x3_4l), (2, .int x2_4l), (0, .ref (ad 63)), (1, .int a1)] [] := by
      intro n_4
      induction n_4 with
      | zero =>
        intro x3_4l x2_4l h
        exact absurd h (by unfold l_X12_hasRoom_4; exact fun z => by cases z)
      | succ n_4 ih_4 =>
        intro x3_4l x2_4l h H locs ls hP hS hl
        unfold l_X12_hasRoom_4 at h
        refine lv_iload_n hx hb dX12_hasRoom_4 rfl (lv_at hl 0 rfl) ?_
        refine lv_aload_n hx hb dX12_hasRoom_5 rfl (lv_at hl 2 rfl) ?_
        refine y_geti h F hP k_63 (n2 (hP.al 63 rfl)) fl_X12_420 rfl dX12_hasRoom_6 (fun v_6 h => ?_)
        refine lv_icmp_ge (tgt := 36) hx hb dX12_hasRoom_9 (by decide) (fun hc => ?_) (fun hc => ?_)
        · have h := if_t _ hc h
          exact J_36 x2_4l h _ _ _ hP hS (lv_sub hl [1, 2, 3] rfl)
        · have h := if_f _ hc h
          refine lv_iload_n hx hb dX12_hasRoom_12 rfl (lv_at hl 1 rfl) ?_
          refine lv_aload_n hx hb dX12_hasRoom_13 rfl (lv_at hl 2 rfl) ?_
          refine x_getr F hP k_63 (hP.al 63 rfl) fl_X12_168 rfl r_63_65 dX12_hasRoom_14 ?_
          refine lv_iload_n hx hb dX12_hasRoom_17 rfl (lv_at hl 0 rfl) ?_
          refine y_iald h F hP k_111 (n2 (hP.al 111 rfl)) dX12_hasRoom_18 (fun v_18 h => ?_)
          refine lv_iload_n hx hb dX12_hasRoom_19 rfl (lv_at hl 3 rfl) ?_
          refine jn_use (fun (j_28 : Int32 → Option Int32) => ∀ (s0_28 : Int32), j_28 s0_28 = some r → GG p l e { frames := 0, cells := 0, slots := 0, locals := 0 } s m args below meth c 0 0 (MQ below (mQz D cT lo NB w w ad r) args s 0 0 (fun q => lo ≤ q)) D cT lo NB 4 ad w 28 [(3, .int x3_4l), (0, .ref (ad 63)), (1, .int a1)] [.int s0_28, .int x2_4l]) h (fun s0_28 h H locs ls hP hS hl => ?_) (fun j_28 J_28 h => ?_)
          · refine lv_iadd hx hb dX12_hasRoom_28 ?_
            refine y_let h (fun v_29 h => ?_)
            refine lv_istore_n (lv' := [(2, .int v_29), (3, .int x3_4l), (0, .ref (ad 63)), (1, .int a1)]) hx hb dX12_hasRoom_29 rfl hl (Nat.le_of_ble_eq_true rfl) rfl (fun ls hl => ?_)
            refine y_iinc (lv' := fun (v_30 : Int32) => [(3, .int v_30), (2, .int v_29), (0, .ref (ad 63)), (1, .int a1)]) h F ic_1 dX12_hasRoom_30 hl (kq := 1) rfl (Nat.le_of_ble_eq_true rfl) (fun _ => rfl) (fun v_30 ls hl h => ?_)
            refine lv_goto (tgt := 4) hx hb dX12_hasRoom_33 (by decide) ?_
            exact ih_4 v_30 v_29 h _ _ _ hP hS (lv_sub hl [0, 1, 2, 3] rfl)
          · refine lv_icmp_ne (tgt := 27) hx hb dX12_hasRoom_20 (by decide) (fun hc => ?_) (fun hc => ?_)
            · have h := if_f _ hc h
              refine lv_iconst (v := 0) hx hb dX12_hasRoom_27 ic_0 ?_
              exact J_28 (0 : Int32) h _ _ _ hP hS (lv_sub hl [0, 2, 3] rfl)
            · have h := if_t _ hc h
              refine lv_iconst (v := 1) hx hb dX12_hasRoom_23 ic_1 ?_
              refine lv_goto (tgt := 28) hx hb dX12_hasRoom_24 (by decide) ?_
              exact J_28 (1 : Int32) h _ _ _ hP hS (lv_sub hl [0, 2, 3] rfl)
    exact L_4 FU (0 : Int32) (0 : Int32) h _ _ _ hP hS (lv_sub hl [0, 1, 2, 3] rfl)
def f_X12_comes (w : Wd) (a1 : Int32) (a2 : Int32) (a3 : Int32) : Option Wd :=
q_bo (f_X12_hasRoom w a2) (fun v_2 =>
if v_2 = 0 then
some w
else
q_st w 111 4 a1 a2 (fun w_14 =>
q_st w_14 112 4 a1 a3 (fun w_21 =>
some w_21)))
set_option maxRecDepth 100000 in
set_option maxHeartbeats 4000000 in
theorem c_X12_comes (l : Launch) (D : va_G) (cT : Nat → ClassId) (lo : Nat) (w : Wd) (ad : Nat → Nat) (a1 : Int32) (a2 : Int32) (a3 : Int32) (w9 : Wd) (h : f_X12_comes w a1 a2 a3 = some w9) : Met l yX12_comes (.code yX12_comes cX12_comes 4 none :: TW) { frames := 1, cells := 0, slots := 0, locals := 23 } (mPc D cT lo NB w ad [.ref (ad 63), .int a1, .int a2, .int a3]) (mQ D cT lo NB w w9 ad none) 0 0 (fun q => lo ≤ q) := by
  unfold f_X12_comes at h
  refine x_met (lv := [(0, .ref (ad 63)), (1, .int a1), (2, .int a2), (3, .int a3)]) (by decide +kernel) (Nat.le_of_ble_eq_true rfl) rfl ?_
  intro p e s m args below meth c ls F hr hlk hP hin hl
  have hx := F.1
  have hb := F.2.1
  have hS : va_S (fun q => lo ≤ q) s.heap s.heap [] := va_S.rf
  have hM_w : mono w w := mono.refl
  refine lv_aload_n hx hb dX12_comes_0 rfl (lv_at hl 0 rfl) ?_
  refine lv_iload_n hx hb dX12_comes_1 rfl (lv_at hl 2 rfl) ?_
  obtain ⟨v_2, hc_2, h⟩ := bo_s h
  refine x_goesZ (x_runV (As := [.int a2]) (rest := []) F hP hS (c_X12_hasRoom l D cT lo w ad a2 v_2 hc_2) cw_X12_hasRoom lk_X12_423 vi_X12_hasRoom k_63 (n2 (hP.al 63 rfl)) rfl ⟨rfl, rfl, Nat.le_of_ble_eq_true rfl, Nat.le_of_ble_eq_true rfl⟩ hl.1 rfl (Nat.le_of_ble_eq_true rfl) dX12_comes_2 ⟨Nat.zero_le _, Nat.zero_le _⟩) hS (fun H locs hz_2 hP hS _ => ?_)
  refine lv_if_eq (tgt := 22) hx hb dX12_comes_5 (by decide) (fun hc => ?_) (fun hc => ?_)
  · have h := if_t _ hc h
    exact y_vret h F hr hP hS mono.refl hlk dX12_comes_22
  · have h := if_f _ hc h
    refine lv_aload_n hx hb dX12_comes_8 rfl (lv_at hl 0 rfl) ?_
    refine x_getr F hP k_63 (hP.al 63 rfl) fl_X12_168 rfl r_63_65 dX12_comes_9 ?_
    refine lv_iload_n hx hb dX12_comes_12 rfl (lv_at hl 1 rfl) ?_
    refine lv_iload_n hx hb dX12_comes_13 rfl (lv_at hl 2 rfl) ?_
    refine y_iast h F hP hS k_111 (n2 (hP.al 111 rfl)) dX12_comes_14 (fun w_14 H locs hm h hP hS => ?_)
    have hM_w := hm
    refine lv_aload_n hx hb dX12_comes_15 rfl (lv_at hl 0 rfl) ?_
    refine x_getr F hP k_63 (hP.al 63 rfl) fl_X12_171 rfl r_63_66 dX12_comes_16 ?_
    refine lv_iload_n hx hb dX12_comes_19 rfl (lv_at hl 1 rfl) ?_
    refine lv_iload_n hx hb dX12_comes_20 rfl (lv_at hl 3 rfl) ?_
    refine y_iast h F hP hS k_112 (n2 (hP.al 112 rfl)) dX12_comes_21 (fun w_21 H locs hm h hP hS => ?_)
    have hM_w := hM_w.trans hm
    exact y_vret h F hr hP hS hM_w hlk dX12_comes_22
def f_X12_turns (w : Wd) (a1 : Int32) (a2 : Int32) : Option Wd :=
q_ld w 111 4 a1 (fun v_5 =>
q_ld w 109 4 a1 (fun v_13 =>
q_jn (if v_5 = (101 : Int32) then
some w
else
if v_5 = (100 : Int32) then
q_ld w 108 4 a1 (fun v_46 =>
if a2 < v_46 then
some w
else
q_ld w 106 4 a1 (fun v_57 =>
q_bo (f_X12_comes w a1 v_57 a2) (fun w_59 =>
some w_59)))
else
q_ld w 112 4 a1 (fun v_71 =>
q_ld w 104 20 v_5 (fun v_78 =>
if (a2 - v_71) < v_78 then
some w
else
q_ld w 107 4 a1 (fun v_88 =>
if v_5 = v_88 then
q_st w 111 4 a1 (101 : Int32) (fun w_99 =>
q_st w_99 113 4 a1 a2 (fun w_106 =>
some w_106))
else
q_ld w 107 4 a1 (fun v_118 =>
q_jn (fun (s0_131 : Int32) =>
q_bo (f_X12_comes w a1 s0_131 a2) (fun w_132 =>
some w_132)) (fun j_131 =>
if v_118 ≤ v_5 then
j_131 (v_5 - (1 : Int32))
else
j_131 (v_5 + (1 : Int32)))))))) (fun j_27 =>
if a2 < v_13 then
j_27
else
q_ld w 110 4 a1 (fun v_23 =>
if a2 < v_23 then
some w
else
j_27))))
set_option maxRecDepth 100000 in
set_option maxHeartbeats 4000000 in
theorem c_X12_turns (l : Launch) (D : va_G) (cT : Nat → ClassId) (lo : Nat) (w : Wd) (ad : Nat → Nat) (a1 : Int32) (a2 : Int32) (w9 : Wd) (h : f_X12_turns w a1 a2 = some w9) : Met l yX12_turns (.code yX12_turns cX12_turns 4 none :: TW) { frames := 2, cells := 0, slots := 0, locals := 46 } (mPc D cT lo NB w ad [.ref (ad 63), .int a1, .int a2]) (mQ D cT lo NB w w9 ad none) 0 0 (fun q => lo ≤ q) := by
  unfold f_X12_turns at h
  refine x_met (lv := [(0, .ref (ad 63)), (1, .int a1), (2, .int a2)]) (by decide +kernel) (Nat.le_of_ble_eq_true rfl) rfl ?_
  intro p e s m args below meth c ls F hr hlk hP hin hl
  have hx := F.1
  have hb := F.2.1
  have hS : va_S (fun q => lo ≤ q) s.heap s.heap [] := va_S.rf
  have hM_w : mono w w := mono.refl
  refine lv_aload_n hx hb dX12_turns_0 rfl (lv_at hl 0 rfl) ?_
  refine x_getr F hP k_63 (hP.al 63 rfl) fl_X12_168 rfl r_63_65 dX12_turns_1 ?_
  refine lv_iload_n hx hb dX12_turns_4 rfl (lv_at hl 1 rfl) ?_
  refine y_iald h F hP k_111 (n2 (hP.al 111 rfl)) dX12_turns_5 (fun v_5 h => ?_)
  refine lv_istore_n (lv' := [(3, .int v_5), (0, .ref (ad 63)), (1, .int a1), (2, .int a2)]) hx hb dX12_turns_6 rfl hl (Nat.le_of_ble_eq_true rfl) rfl (fun ls hl => ?_)
  refine lv_iload_n hx hb dX12_turns_7 rfl (lv_at hl 3 rfl) ?_
  refine lv_aload_n hx hb dX12_turns_8 rfl (lv_at hl 1 rfl) ?_
  refine x_getr F hP k_63 (hP.al 63 rfl) fl_X12_162 rfl r_63_63 dX12_turns_9 ?_
  refine lv_iload_n hx hb dX12_turns_12 rfl (lv_at hl 2 rfl) ?_
  refine y_iald h F hP k_109 (n2 (hP.al 109 rfl)) dX12_turns_13 (fun v_13 h => ?_)
  refine jn_use (fun (j_27 : Option Wd) => j_27 = some w9 → GG p l e { frames := 2, cells := 0, slots := 0, locals := 46 } s m args below meth c 0 0 (MQ below (mQ D cT lo NB w w9 ad none) args s 0 0 (fun q => lo ≤ q)) D cT lo NB 4 ad w 27 [(3, .int v_5), (0, .ref (ad 63)), (1, .int a1), (2, .int a2)] []) h (fun h H locs ls hP hS hl => ?_) (fun j_27 J_27 h => ?_)
  · refine lv_iload_n hx hb dX12_turns_27 rfl (lv_at hl 0 rfl) ?_
    refine lv_bipush (v := 101) hx hb dX12_turns_28 ib_101 ?_
    refine lv_icmp_ne (tgt := 34) hx hb dX12_turns_30 (by decide) (fun hc => ?_) (fun hc => ?_)
    · have h := if_f _ hc h
      refine lv_iload_n hx hb dX12_turns_34 rfl (lv_at hl 0 rfl) ?_
      refine lv_bipush (v := 100) hx hb dX12_turns_35 ib_100 ?_
      refine lv_icmp_ne (tgt := 65) hx hb dX12_turns_37 (by decide) (fun hc => ?_) (fun hc => ?_)
      · have h := if_f _ hc h
        refine lv_iload_n hx hb dX12_turns_65 rfl (lv_at hl 3 rfl) ?_
        refine lv_aload_n hx hb dX12_turns_66 rfl (lv_at hl 1 rfl) ?_
        refine x_getr F hP k_63 (hP.al 63 rfl) fl_X12_171 rfl r_63_66 dX12_turns_67 ?_
        refine lv_iload_n hx hb dX12_turns_70 rfl (lv_at hl 2 rfl) ?_
        refine y_iald h F hP k_112 (n2 (hP.al 112 rfl)) dX12_turns_71 (fun v_71 h => ?_)
        refine lv_isub hx hb dX12_turns_72 ?_
        refine lv_aload_n hx hb dX12_turns_73 rfl (lv_at hl 1 rfl) ?_
        refine x_getr F hP k_63 (hP.al 63 rfl) fl_X12_147 rfl r_63_57 dX12_turns_74 ?_
        refine lv_iload_n hx hb dX12_turns_77 rfl (lv_at hl 0 rfl) ?_
        refine y_iald h F hP k_104 (n2 (hP.al 104 rfl)) dX12_turns_78 (fun v_78 h => ?_)
        refine lv_icmp_lt (tgt := 135) hx hb dX12_turns_79 (by decide) (fun hc => ?_) (fun hc => ?_)
        · have h := if_t _ hc h
          exact y_vret h F hr hP hS mono.refl hlk dX12_turns_135
        · have h := if_f _ hc h
          refine lv_iload_n hx hb dX12_turns_82 rfl (lv_at hl 0 rfl) ?_
          refine lv_aload_n hx hb dX12_turns_83 rfl (lv_at hl 1 rfl) ?_
          refine x_getr F hP k_63 (hP.al 63 rfl) fl_X12_156 rfl r_63_61 dX12_turns_84 ?_
          refine lv_iload_n hx hb dX12_turns_87 rfl (lv_at hl 2 rfl) ?_
          refine y_iald h F hP k_107 (n2 (hP.al 107 rfl)) dX12_turns_88 (fun v_88 h => ?_)
          refine lv_icmp_ne (tgt := 110) hx hb dX12_turns_89 (by decide) (fun hc => ?_) (fun hc => ?_)
          · have h := if_f _ hc h
            refine lv_aload_n hx hb dX12_turns_110 rfl (lv_at hl 1 rfl) ?_
            refine lv_iload_n hx hb dX12_turns_111 rfl (lv_at hl 2 rfl) ?_
            refine lv_iload_n hx hb dX12_turns_112 rfl (lv_at hl 0 rfl) ?_
            refine lv_aload_n hx hb dX12_turns_113 rfl (lv_at hl 1 rfl) ?_
            refine x_getr F hP k_63 (hP.al 63 rfl) fl_X12_156 rfl r_63_61 dX12_turns_114 ?_
            refine lv_iload_n hx hb dX12_turns_117 rfl (lv_at hl 2 rfl) ?_
            refine y_iald h F hP k_107 (n2 (hP.al 107 rfl)) dX12_turns_118 (fun v_118 h => ?_)
            refine jn_use (fun (j_131 : Int32 → Option Wd) => ∀ (s0_131 : Int32), j_131 s0_131 = some w9 → GG p l e { frames := 2, cells := 0, slots := 0, locals := 46 } s m args below meth c 0 0 (MQ below (mQ D cT lo NB w w9 ad none) args s 0 0 (fun q => lo ≤ q)) D cT lo NB 4 ad w 131 [(2, .int a2)] [.int s0_131, .int a1, .ref (ad 63)]) h (fun s0_131 h H locs ls hP hS hl => ?_) (fun j_131 J_131 h => ?_)
            · refine lv_iload_n hx hb dX12_turns_131 rfl (lv_at hl 0 rfl) ?_
              obtain ⟨w_132, hc_132, h⟩ := bo_s h
              refine x_goes (x_runV (As := [.int a1, .int s0_131, .int a2]) (rest := []) F hP hS (c_X12_comes l D cT lo w ad a1 s0_131 a2 w_132 hc_132) cw_X12_comes lk_X12_426 vi_X12_comes k_63 (n2 (hP.al 63 rfl)) rfl ⟨rfl, rfl, Nat.le_of_ble_eq_true rfl, Nat.le_of_ble_eq_true rfl⟩ hl.1 rfl (Nat.le_of_ble_eq_true rfl) dX12_turns_132 ⟨Nat.zero_le _, Nat.zero_le _⟩) hS (fun H locs hP hS hm => ?_)
              have hM_w := hm
              exact y_vret h F hr hP hS hM_w hlk dX12_turns_135
            · refine lv_icmp_ge (tgt := 128) hx hb dX12_turns_119 (by decide) (fun hc => ?_) (fun hc => ?_)
              · have h := if_t _ hc h
                refine lv_iload_n hx hb dX12_turns_128 rfl (lv_at hl 0 rfl) ?_
                refine lv_iconst (v := 1) hx hb dX12_turns_129 ic_1 ?_
                refine lv_isub hx hb dX12_turns_130 ?_
                exact J_131 (v_5 - (1 : Int32)) h _ _ _ hP hS (lv_sub hl [3] rfl)
              · have h := if_f _ hc h
                refine lv_iload_n hx hb dX12_turns_122 rfl (lv_at hl 0 rfl) ?_
                refine lv_iconst (v := 1) hx hb dX12_turns_123 ic_1 ?_
                refine lv_iadd hx hb dX12_turns_124 ?_
                refine lv_goto (tgt := 131) hx hb dX12_turns_125 (by decide) ?_
                exact J_131 (v_5 + (1 : Int32)) h _ _ _ hP hS (lv_sub hl [3] rfl)
          · have h := if_t _ hc h
            refine lv_aload_n hx hb dX12_turns_92 rfl (lv_at hl 1 rfl) ?_
            refine x_getr F hP k_63 (hP.al 63 rfl) fl_X12_168 rfl r_63_65 dX12_turns_93 ?_
            refine lv_iload_n hx hb dX12_turns_96 rfl (lv_at hl 2 rfl) ?_
            refine lv_bipush (v := 101) hx hb dX12_turns_97 ib_101 ?_
            refine y_iast h F hP hS k_111 (n2 (hP.al 111 rfl)) dX12_turns_99 (fun w_99 H locs hm h hP hS => ?_)
            have hM_w := hm
            refine lv_aload_n hx hb dX12_turns_100 rfl (lv_at hl 1 rfl) ?_
            refine x_getr F hP k_63 (hP.al 63 rfl) fl_X12_174 rfl r_63_67 dX12_turns_101 ?_
            refine lv_iload_n hx hb dX12_turns_104 rfl (lv_at hl 2 rfl) ?_
            refine lv_iload_n hx hb dX12_turns_105 rfl (lv_at hl 3 rfl) ?_
            refine y_iast h F hP hS k_113 (n2 (hP.al 113 rfl)) dX12_turns_106 (fun w_106 H locs hm h hP hS => ?_)
            have hM_w := hM_w.trans hm
            refine lv_goto (tgt := 135) hx hb dX12_turns_107 (by decide) ?_
            exact y_vret h F hr hP hS hM_w hlk dX12_turns_135
      · have h := if_t _ hc h
        refine lv_iload_n hx hb dX12_turns_40 rfl (lv_at hl 3 rfl) ?_
        refine lv_aload_n hx hb dX12_turns_41 rfl (lv_at hl 1 rfl) ?_
        refine x_getr F hP k_63 (hP.al 63 rfl) fl_X12_159 rfl r_63_62 dX12_turns_42 ?_
        refine lv_iload_n hx hb dX12_turns_45 rfl (lv_at hl 2 rfl) ?_
        refine y_iald h F hP k_108 (n2 (hP.al 108 rfl)) dX12_turns_46 (fun v_46 h => ?_)
        refine lv_icmp_lt (tgt := 135) hx hb dX12_turns_47 (by decide) (fun hc => ?_) (fun hc => ?_)
        · have h := if_t _ hc h
          exact y_vret h F hr hP hS mono.refl hlk dX12_turns_135
        · have h := if_f _ hc h
          refine lv_aload_n hx hb dX12_turns_50 rfl (lv_at hl 1 rfl) ?_
          refine lv_iload_n hx hb dX12_turns_51 rfl (lv_at hl 2 rfl) ?_
          refine lv_aload_n hx hb dX12_turns_52 rfl (lv_at hl 1 rfl) ?_
          refine x_getr F hP k_63 (hP.al 63 rfl) fl_X12_153 rfl r_63_60 dX12_turns_53 ?_
          refine lv_iload_n hx hb dX12_turns_56 rfl (lv_at hl 2 rfl) ?_
          refine y_iald h F hP k_106 (n2 (hP.al 106 rfl)) dX12_turns_57 (fun v_57 h => ?_)
          refine lv_iload_n hx hb dX12_turns_58 rfl (lv_at hl 3 rfl) ?_
          obtain ⟨w_59, hc_59, h⟩ := bo_s h
          refine x_goes (x_runV (As := [.int a1, .int v_57, .int a2]) (rest := []) F hP hS (c_X12_comes l D cT lo w ad a1 v_57 a2 w_59 hc_59) cw_X12_comes lk_X12_426 vi_X12_comes k_63 (n2 (hP.al 63 rfl)) rfl ⟨rfl, rfl, Nat.le_of_ble_eq_true rfl, Nat.le_of_ble_eq_true rfl⟩ hl.1 rfl (Nat.le_of_ble_eq_true rfl) dX12_turns_59 ⟨Nat.zero_le _, Nat.zero_le _⟩) hS (fun H locs hP hS hm => ?_)
          have hM_w := hm
          refine lv_goto (tgt := 135) hx hb dX12_turns_62 (by decide) ?_
          exact y_vret h F hr hP hS hM_w hlk dX12_turns_135
    · have h := if_t _ hc h
      exact y_vret h F hr hP hS mono.refl hlk dX12_turns_33
  · refine lv_icmp_lt (tgt := 27) hx hb dX12_turns_14 (by decide) (fun hc => ?_) (fun hc => ?_)
    · have h := if_t _ hc h
      exact J_27  h _ _ _ hP hS (lv_sub hl [0, 1, 2, 3] rfl)
    · have h := if_f _ hc h
      refine lv_iload_n hx hb dX12_turns_17 rfl (lv_at hl 3 rfl) ?_
      refine lv_aload_n hx hb dX12_turns_18 rfl (lv_at hl 1 rfl) ?_
      refine x_getr F hP k_63 (hP.al 63 rfl) fl_X12_165 rfl r_63_64 dX12_turns_19 ?_
      refine lv_iload_n hx hb dX12_turns_22 rfl (lv_at hl 2 rfl) ?_
      refine y_iald h F hP k_110 (n2 (hP.al 110 rfl)) dX12_turns_23 (fun v_23 h => ?_)
      refine lv_icmp_lt (tgt := 33) hx hb dX12_turns_24 (by decide) (fun hc => ?_) (fun hc => ?_)
      · have h := if_t _ hc h
        exact y_vret h F hr hP hS mono.refl hlk dX12_turns_33
      · have h := if_f _ hc h
        exact J_27  h _ _ _ hP hS (lv_sub hl [0, 1, 2, 3] rfl)
def l_X12_days_37 (x2_30l : Int32) (j_57 : Wd → Option Wd) : Nat → Wd → Int32 → Option Wd
  | 0, _, _ => none
  | n_37 + 1, w_37l, x3_37l =>
    q_gt w_37l 63 59 (fun v_39 =>
    if v_39 ≤ x3_37l then
    j_57 w_37l
    else
    q_bo (f_X12_turns w_37l x3_37l x2_30l) (fun w_48 =>
    q_lt (x3_37l + (1 : Int32)) (fun v_51 =>
    l_X12_days_37 x2_30l j_57 n_37 w_48 v_51)))
def l_X12_days_30 (a1 : Int32) : Nat → Wd → Int32 → Option Wd
  | 0, _, _ => none
  | n_30 + 1, w_30l, x2_30l =>
    if a1 < x2_30l then
    some w_30l
    else
    q_jn (fun (w_57j : Wd) =>
    q_lt (x2_30l + (1 : Int32)) (fun v_57 =>
    l_X12_days_30 a1 n_30 w_57j v_57)) (fun j_57 =>
    l_X12_days_37 x2_30l j_57 FU w_30l (0 : Int32))
def l_X12_days_2 (j_28 : Wd → Option Wd) : Nat → Wd → Int32 → Option Wd
  | 0, _, _ => none
  | n_2 + 1, w_2l, x2_2l =>
    if (4 : Int32) ≤ x2_2l then
    j_28 w_2l
    else
    q_st w_2l 111 4 x2_2l (100 : Int32) (fun w_14 =>
    q_st w_14 113 4 x2_2l (-1 : Int32) (fun w_21 =>
    q_lt (x2_2l + (1 : Int32)) (fun v_22 =>
    l_X12_days_2 j_28 n_2 w_21 v_22)))
def f_X12_days (w : Wd) (a1 : Int32) : Option Wd :=
q_jn (fun (w_28j : Wd) =>
l_X12_days_30 a1 FU w_28j (0 : Int32)) (fun j_28 =>
l_X12_days_2 j_28 FU w (0 : Int32))
set_option maxRecDepth 100000 in
set_option maxHeartbeats 4000000 in
theorem c_X12_days (l : Launch) (D : va_G) (cT : Nat → ClassId) (lo : Nat) (w : Wd) (ad : Nat → Nat) (a1 : Int32) (w9 : Wd) (h : f_X12_days w a1 = some w9) : Met l yX12_days (.code yX12_days cX12_days 4 none :: TW) { frames := 3, cells := 0, slots := 0, locals := 69 } (mPc D cT lo NB w ad [.ref (ad 63), .int a1]) (mQ D cT lo NB w w9 ad none) 0 0 (fun q => lo ≤ q) := by
  unfold f_X12_days at h
  refine x_met (lv := [(0, .ref (ad 63)), (1, .int a1)]) (by decide +kernel) (Nat.le_of_ble_eq_true rfl) rfl ?_
  intro p e s m args below meth c ls F hr hlk hP hin hl
  have hx := F.1
  have hb := F.2.1
  have hS : va_S (fun q => lo ≤ q) s.heap s.heap [] := va_S.rf
  have hM_w : mono w w := mono.refl
  refine lv_iconst (v := 0) hx hb dX12_days_0 ic_0 ?_
  refine lv_istore_n (lv' := [(2, .int (0 : Int32)), (0, .ref (ad 63)), (1, .int a1)]) hx hb dX12_days_1 rfl hl (Nat.le_of_ble_eq_true rfl) rfl (fun ls hl => ?_)
  refine jn_use (fun (j_28 : Wd → Option Wd) => ∀ (w_28j : Wd), mono w w_28j → j_28 w_28j = some w9 → GG p l e { frames := 3, cells := 0, slots := 0, locals := 69 } s m args below meth c 0 0 (MQ below (mQ D cT lo NB w w9 ad none) args s 0 0 (fun q => lo ≤ q)) D cT lo NB 4 ad w_28j 28 [(0, .ref (ad 63)), (1, .int a1)] []) h (fun w_28j hm h H locs ls hP hS hl => ?_) (fun j_28 J_28 h => ?_)
  · have hM_w := hm
    refine lv_iconst (v := 0) hx hb dX12_days_28 ic_0 ?_
    refine lv_istore_n (lv' := [(2, .int (0 : Int32)), (0, .ref (ad 63)), (1, .int a1)]) hx hb dX12_days_29 rfl hl (Nat.le_of_ble_eq_true rfl) rfl (fun ls hl => ?_)
    have L_30 : ∀ (n_30 : Nat) (w_30l : Wd) (x2_30l : Int32), mono w_28j w_30l → l_X12_days_30 a1 n_30 w_30l x2_30l = some w9 → GG p l e { frames := 3, cells := 0, slots := 0, locals := 69 } s m args below meth c 0 0 (MQ below (mQ D cT lo NB w w9 ad none) args s 0 0 (fun q => lo ≤ q)) D cT lo NB 4 ad w_30l 30 [(2, .int x2_30l), (0, .ref (ad 63)), (1, .int a1)] [] := by
      intro n_30
      induction n_30 with
      | zero =>
        intro w_30l x2_30l _ h
        exact absurd h (by unfold l_X12_days_30; exact fun z => by cases z)
      | succ n_30 ih_30 =>
        intro w_30l x2_30l hm h H locs ls hP hS hl
        unfold l_X12_days_30 at h
        have hM_w := hM_w.trans hm
        have hM_w_28j := hm
        refine lv_iload_n hx hb dX12_days_30 rfl (lv_at hl 0 rfl) ?_
        refine lv_iload_n hx hb dX12_days_31 rfl (lv_at hl 2 rfl) ?_
        refine lv_icmp_gt (tgt := 63) hx hb dX12_days_32 (by decide) (fun hc => ?_) (fun hc => ?_)
        · have h := if_t _ hc h
          exact y_vret h F hr hP hS hM_w hlk dX12_days_63
        · have h := if_f _ hc h
          refine lv_iconst (v := 0) hx hb dX12_days_35 ic_0 ?_
          refine lv_istore_n (lv' := [(3, .int (0 : Int32)), (2, .int x2_30l), (0, .ref (ad 63)), (1, .int a1)]) hx hb dX12_days_36 rfl hl (Nat.le_of_ble_eq_true rfl) rfl (fun ls hl => ?_)
          refine jn_use (fun (j_57 : Wd → Option Wd) => ∀ (w_57j : Wd), mono w_30l w_57j → j_57 w_57j = some w9 → GG p l e { frames := 3, cells := 0, slots := 0, locals := 69 } s m args below meth c 0 0 (MQ below (mQ D cT lo NB w w9 ad none) args s 0 0 (fun q => lo ≤ q)) D cT lo NB 4 ad w_57j 57 [(2, .int x2_30l), (0, .ref (ad 63)), (1, .int a1)] []) h (fun w_57j hm h H locs ls hP hS hl => ?_) (fun j_57 J_57 h => ?_)
          · have hM_w := hM_w.trans hm
            have hM_w_28j := hM_w_28j.trans hm
            have hM_w_30l := hm
            refine y_iinc (lv' := fun (v_57 : Int32) => [(2, .int v_57), (0, .ref (ad 63)), (1, .int a1)]) h F ic_1 dX12_days_57 hl (kq := 0) rfl (Nat.le_of_ble_eq_true rfl) (fun _ => rfl) (fun v_57 ls hl h => ?_)
            refine lv_goto (tgt := 30) hx hb dX12_days_60 (by decide) ?_
            exact ih_30 w_57j v_57 hM_w_28j h _ _ _ hP hS (lv_sub hl [0, 1, 2] rfl)
          · have L_37 : ∀ (n_37 : Nat) (w_37l : Wd) (x3_37l : Int32), mono w_30l w_37l → l_X12_days_37 x2_30l j_57 n_37 w_37l x3_37l = some w9 → GG p l e { frames := 3, cells := 0, slots := 0, locals := 69 } s m args below meth c 0 0 (MQ below (mQ D cT lo NB w w9 ad none) args s 0 0 (fun q => lo ≤ q)) D cT lo NB 4 ad w_37l 37 [(3, .int x3_37l), (2, .int x2_30l), (0, .ref (ad 63)), (1, .int a1)] [] := by
              intro n_37
              induction n_37 with
              | zero =>
                intro w_37l x3_37l _ h
                exact absurd h (by unfold l_X12_days_37; exact fun z => by cases z)
              | succ n_37 ih_37 =>
                intro w_37l x3_37l hm h H locs ls hP hS hl
                unfold l_X12_days_37 at h
                have hM_w := hM_w.trans hm
                have hM_w_28j := hM_w_28j.trans hm
                have hM_w_30l := hm
                refine lv_iload_n hx hb dX12_days_37 rfl (lv_at hl 0 rfl) ?_
                refine lv_aload_n hx hb dX12_days_38 rfl (lv_at hl 2 rfl) ?_
                refine y_geti h F hP k_63 (n2 (hP.al 63 rfl)) fl_X12_420 rfl dX12_days_39 (fun v_39 h => ?_)
                refine lv_icmp_ge (tgt := 57) hx hb dX12_days_42 (by decide) (fun hc => ?_) (fun hc => ?_)
                · have h := if_t _ hc h
                  exact J_57 w_37l hM_w_30l h _ _ _ hP hS (lv_sub hl [1, 2, 3] rfl)
                · have h := if_f _ hc h
                  refine lv_aload_n hx hb dX12_days_45 rfl (lv_at hl 2 rfl) ?_
                  refine lv_iload_n hx hb dX12_days_46 rfl (lv_at hl 0 rfl) ?_
                  refine lv_iload_n hx hb dX12_days_47 rfl (lv_at hl 1 rfl) ?_
                  obtain ⟨w_48, hc_48, h⟩ := bo_s h
                  refine x_goes (x_runV (As := [.int x3_37l, .int x2_30l]) (rest := []) F hP hS (c_X12_turns l D cT lo w_37l ad x3_37l x2_30l w_48 hc_48) cw_X12_turns lk_X12_430 vi_X12_turns k_63 (n2 (hP.al 63 rfl)) rfl ⟨rfl, rfl, Nat.le_of_ble_eq_true rfl, Nat.le_of_ble_eq_true rfl⟩ hl.1 rfl (Nat.le_of_ble_eq_true rfl) dX12_days_48 ⟨Nat.zero_le _, Nat.zero_le _⟩) hS (fun H locs hP hS hm => ?_)
                  have hM_w := hM_w.trans hm
                  have hM_w_28j := hM_w_28j.trans hm
                  have hM_w_30l := hM_w_30l.trans hm
                  refine y_iinc (lv' := fun (v_51 : Int32) => [(3, .int v_51), (2, .int x2_30l), (0, .ref (ad 63)), (1, .int a1)]) h F ic_1 dX12_days_51 hl (kq := 0) rfl (Nat.le_of_ble_eq_true rfl) (fun _ => rfl) (fun v_51 ls hl h => ?_)
                  refine lv_goto (tgt := 37) hx hb dX12_days_54 (by decide) ?_
                  exact ih_37 w_48 v_51 hM_w_30l h _ _ _ hP hS (lv_sub hl [0, 1, 2, 3] rfl)
            exact L_37 FU w_30l (0 : Int32) mono.refl h _ _ _ hP hS (lv_sub hl [0, 1, 2, 3] rfl)
    exact L_30 FU w_28j (0 : Int32) mono.refl h _ _ _ hP hS (lv_sub hl [0, 1, 2] rfl)
  · have L_2 : ∀ (n_2 : Nat) (w_2l : Wd) (x2_2l : Int32), mono w w_2l → l_X12_days_2 j_28 n_2 w_2l x2_2l = some w9 → GG p l e { frames := 3, cells := 0, slots := 0, locals := 69 } s m args below meth c 0 0 (MQ below (mQ D cT lo NB w w9 ad none) args s 0 0 (fun q => lo ≤ q)) D cT lo NB 4 ad w_2l 2 [(2, .int x2_2l), (0, .ref (ad 63)), (1, .int a1)] [] := by
      intro n_2
      induction n_2 with
      | zero =>
        intro w_2l x2_2l _ h
        exact absurd h (by unfold l_X12_days_2; exact fun z => by cases z)
      | succ n_2 ih_2 =>
        intro w_2l x2_2l hm h H locs ls hP hS hl
        unfold l_X12_days_2 at h
        have hM_w := hm
        refine lv_iload_n hx hb dX12_days_2 rfl (lv_at hl 0 rfl) ?_
        refine lv_iconst (v := 4) hx hb dX12_days_3 ic_4 ?_
        refine lv_icmp_ge (tgt := 28) hx hb dX12_days_4 (by decide) (fun hc => ?_) (fun hc => ?_)
        · have h := if_t _ hc h
          exact J_28 w_2l hM_w h _ _ _ hP hS (lv_sub hl [1, 2] rfl)
        · have h := if_f _ hc h
          refine lv_aload_n hx hb dX12_days_7 rfl (lv_at hl 1 rfl) ?_
          refine x_getr F hP k_63 (hP.al 63 rfl) fl_X12_168 rfl r_63_65 dX12_days_8 ?_
          refine lv_iload_n hx hb dX12_days_11 rfl (lv_at hl 0 rfl) ?_
          refine lv_bipush (v := 100) hx hb dX12_days_12 ib_100 ?_
          refine y_iast h F hP hS k_111 (n2 (hP.al 111 rfl)) dX12_days_14 (fun w_14 H locs hm h hP hS => ?_)
          have hM_w := hM_w.trans hm
          refine lv_aload_n hx hb dX12_days_15 rfl (lv_at hl 1 rfl) ?_
          refine x_getr F hP k_63 (hP.al 63 rfl) fl_X12_174 rfl r_63_67 dX12_days_16 ?_
          refine lv_iload_n hx hb dX12_days_19 rfl (lv_at hl 0 rfl) ?_
          refine lv_iconst (v := -1) hx hb dX12_days_20 ic_m1 ?_
          refine y_iast h F hP hS k_113 (n2 (hP.al 113 rfl)) dX12_days_21 (fun w_21 H locs hm h hP hS => ?_)
          have hM_w := hM_w.trans hm
          refine y_iinc (lv' := fun (v_22 : Int32) => [(2, .int v_22), (0, .ref (ad 63)), (1, .int a1)]) h F ic_1 dX12_days_22 hl (kq := 0) rfl (Nat.le_of_ble_eq_true rfl) (fun _ => rfl) (fun v_22 ls hl h => ?_)
          refine lv_goto (tgt := 2) hx hb dX12_days_25 (by decide) ?_
          exact ih_2 w_21 v_22 hM_w h _ _ _ hP hS (lv_sub hl [0, 1, 2] rfl)
    exact L_2 FU w (0 : Int32) mono.refl h _ _ _ hP hS (lv_sub hl [0, 1, 2] rfl)
