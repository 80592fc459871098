theorem d_MO_way_0 : decode m_MO_way.2.1 0 = .ok (.iconst 0, 1) := by decide +kernel
theorem d_MO_way_1 : decode m_MO_way.2.1 1 = .ok (.istore_n 3, 1) := by decide +kernel
theorem d_MO_way_2 : decode m_MO_way.2.1 2 = .ok (.iload_n 3, 1) := by decide +kernel
theorem d_MO_way_3 : decode m_MO_way.2.1 3 = .ok (.sipush 4030, 3) := by decide +kernel
theorem d_MO_way_6 : decode m_MO_way.2.1 6 = .ok (.if_icmp .ge 16, 3) := by decide +kernel
theorem d_MO_way_9 : decode m_MO_way.2.1 9 = .ok (.aload_n 0, 1) := by decide +kernel
theorem d_MO_way_10 : decode m_MO_way.2.1 10 = .ok (.getfield 59, 3) := by decide +kernel
theorem d_MO_way_13 : decode m_MO_way.2.1 13 = .ok (.iload_n 3, 1) := by decide +kernel
theorem d_MO_way_14 : decode m_MO_way.2.1 14 = .ok (.iconst 0, 1) := by decide +kernel
theorem d_MO_way_15 : decode m_MO_way.2.1 15 = .ok (.bastore, 1) := by decide +kernel
theorem d_MO_way_16 : decode m_MO_way.2.1 16 = .ok (.iinc 3 1, 3) := by decide +kernel
theorem d_MO_way_19 : decode m_MO_way.2.1 19 = .ok (.goto (-17), 3) := by decide +kernel
theorem d_MO_way_22 : decode m_MO_way.2.1 22 = .ok (.iconst 0, 1) := by decide +kernel
theorem d_MO_way_23 : decode m_MO_way.2.1 23 = .ok (.istore_n 3, 1) := by decide +kernel
theorem d_MO_way_24 : decode m_MO_way.2.1 24 = .ok (.iload_n 3, 1) := by decide +kernel
theorem d_MO_way_25 : decode m_MO_way.2.1 25 = .ok (.bipush 14, 2) := by decide +kernel
theorem d_MO_way_27 : decode m_MO_way.2.1 27 = .ok (.if_icmp .ge 16, 3) := by decide +kernel
theorem d_MO_way_30 : decode m_MO_way.2.1 30 = .ok (.aload_n 0, 1) := by decide +kernel
theorem d_MO_way_31 : decode m_MO_way.2.1 31 = .ok (.getfield 65, 3) := by decide +kernel
theorem d_MO_way_34 : decode m_MO_way.2.1 34 = .ok (.iload_n 3, 1) := by decide +kernel
theorem d_MO_way_35 : decode m_MO_way.2.1 35 = .ok (.iconst (-1), 1) := by decide +kernel
theorem d_MO_way_36 : decode m_MO_way.2.1 36 = .ok (.iastore, 1) := by decide +kernel
theorem d_MO_way_37 : decode m_MO_way.2.1 37 = .ok (.iinc 3 1, 3) := by decide +kernel
theorem d_MO_way_40 : decode m_MO_way.2.1 40 = .ok (.goto (-16), 3) := by decide +kernel
theorem d_MO_way_43 : decode m_MO_way.2.1 43 = .ok (.iconst 1, 1) := by decide +kernel
theorem d_MO_way_44 : decode m_MO_way.2.1 44 = .ok (.istore_n 3, 1) := by decide +kernel
theorem d_MO_way_45 : decode m_MO_way.2.1 45 = .ok (.aload_n 0, 1) := by decide +kernel
theorem d_MO_way_46 : decode m_MO_way.2.1 46 = .ok (.getfield 62, 3) := by decide +kernel
theorem d_MO_way_49 : decode m_MO_way.2.1 49 = .ok (.iconst 0, 1) := by decide +kernel
theorem d_MO_way_50 : decode m_MO_way.2.1 50 = .ok (.iload_n 1, 1) := by decide +kernel
theorem d_MO_way_51 : decode m_MO_way.2.1 51 = .ok (.iastore, 1) := by decide +kernel
theorem d_MO_way_52 : decode m_MO_way.2.1 52 = .ok (.iload_n 3, 1) := by decide +kernel
theorem d_MO_way_53 : decode m_MO_way.2.1 53 = .ok (.ifCond .le 412, 3) := by decide +kernel
theorem d_MO_way_56 : decode m_MO_way.2.1 56 = .ok (.iinc 3 (-1), 3) := by decide +kernel
theorem d_MO_way_59 : decode m_MO_way.2.1 59 = .ok (.aload_n 0, 1) := by decide +kernel
theorem d_MO_way_60 : decode m_MO_way.2.1 60 = .ok (.getfield 62, 3) := by decide +kernel
theorem d_MO_way_63 : decode m_MO_way.2.1 63 = .ok (.iload_n 3, 1) := by decide +kernel
theorem d_MO_way_64 : decode m_MO_way.2.1 64 = .ok (.iaload, 1) := by decide +kernel
theorem d_MO_way_65 : decode m_MO_way.2.1 65 = .ok (.istore 4, 2) := by decide +kernel
theorem d_MO_way_67 : decode m_MO_way.2.1 67 = .ok (.iload 4, 2) := by decide +kernel
theorem d_MO_way_69 : decode m_MO_way.2.1 69 = .ok (.ifCond .ge 29, 3) := by decide +kernel
theorem d_MO_way_72 : decode m_MO_way.2.1 72 = .ok (.iconst (-1), 1) := by decide +kernel
theorem d_MO_way_73 : decode m_MO_way.2.1 73 = .ok (.iload 4, 2) := by decide +kernel
theorem d_MO_way_75 : decode m_MO_way.2.1 75 = .ok (.isub, 1) := by decide +kernel
theorem d_MO_way_76 : decode m_MO_way.2.1 76 = .ok (.istore 5, 2) := by decide +kernel
theorem d_MO_way_78 : decode m_MO_way.2.1 78 = .ok (.aload_n 0, 1) := by decide +kernel
theorem d_MO_way_79 : decode m_MO_way.2.1 79 = .ok (.getfield 65, 3) := by decide +kernel
theorem d_MO_way_82 : decode m_MO_way.2.1 82 = .ok (.iload 5, 2) := by decide +kernel
theorem d_MO_way_84 : decode m_MO_way.2.1 84 = .ok (.bipush 64, 2) := by decide +kernel
theorem d_MO_way_86 : decode m_MO_way.2.1 86 = .ok (.idiv, 1) := by decide +kernel
theorem d_MO_way_87 : decode m_MO_way.2.1 87 = .ok (.iload 5, 2) := by decide +kernel
theorem d_MO_way_89 : decode m_MO_way.2.1 89 = .ok (.bipush 64, 2) := by decide +kernel
theorem d_MO_way_91 : decode m_MO_way.2.1 91 = .ok (.irem, 1) := by decide +kernel
theorem d_MO_way_92 : decode m_MO_way.2.1 92 = .ok (.iconst 1, 1) := by decide +kernel
theorem d_MO_way_93 : decode m_MO_way.2.1 93 = .ok (.isub, 1) := by decide +kernel
theorem d_MO_way_94 : decode m_MO_way.2.1 94 = .ok (.iastore, 1) := by decide +kernel
theorem d_MO_way_95 : decode m_MO_way.2.1 95 = .ok (.goto 367, 3) := by decide +kernel
theorem d_MO_way_98 : decode m_MO_way.2.1 98 = .ok (.iload 4, 2) := by decide +kernel
theorem d_MO_way_100 : decode m_MO_way.2.1 100 = .ok (.bipush 32, 2) := by decide +kernel
theorem d_MO_way_102 : decode m_MO_way.2.1 102 = .ok (.idiv, 1) := by decide +kernel
theorem d_MO_way_103 : decode m_MO_way.2.1 103 = .ok (.istore 5, 2) := by decide +kernel
theorem d_MO_way_105 : decode m_MO_way.2.1 105 = .ok (.iload 4, 2) := by decide +kernel
theorem d_MO_way_107 : decode m_MO_way.2.1 107 = .ok (.bipush 32, 2) := by decide +kernel
theorem d_MO_way_109 : decode m_MO_way.2.1 109 = .ok (.irem, 1) := by decide +kernel
theorem d_MO_way_110 : decode m_MO_way.2.1 110 = .ok (.istore 6, 2) := by decide +kernel
theorem d_MO_way_112 : decode m_MO_way.2.1 112 = .ok (.iconst 1, 1) := by decide +kernel
theorem d_MO_way_113 : decode m_MO_way.2.1 113 = .ok (.istore 7, 2) := by decide +kernel
theorem d_MO_way_115 : decode m_MO_way.2.1 115 = .ok (.iload 7, 2) := by decide +kernel
theorem d_MO_way_117 : decode m_MO_way.2.1 117 = .ok (.ifCond .eq 345, 3) := by decide +kernel
theorem d_MO_way_120 : decode m_MO_way.2.1 120 = .ok (.aload_n 0, 1) := by decide +kernel
theorem d_MO_way_121 : decode m_MO_way.2.1 121 = .ok (.getfield 59, 3) := by decide +kernel
theorem d_MO_way_124 : decode m_MO_way.2.1 124 = .ok (.iload 5, 2) := by decide +kernel
theorem d_MO_way_126 : decode m_MO_way.2.1 126 = .ok (.bipush 31, 2) := by decide +kernel
theorem d_MO_way_128 : decode m_MO_way.2.1 128 = .ok (.imul, 1) := by decide +kernel
theorem d_MO_way_129 : decode m_MO_way.2.1 129 = .ok (.iload 6, 2) := by decide +kernel
theorem d_MO_way_131 : decode m_MO_way.2.1 131 = .ok (.iadd, 1) := by decide +kernel
theorem d_MO_way_132 : decode m_MO_way.2.1 132 = .ok (.baload, 1) := by decide +kernel
theorem d_MO_way_133 : decode m_MO_way.2.1 133 = .ok (.ifCond .ne 7, 3) := by decide +kernel
theorem d_MO_way_136 : decode m_MO_way.2.1 136 = .ok (.iconst 1, 1) := by decide +kernel
theorem d_MO_way_137 : decode m_MO_way.2.1 137 = .ok (.goto 4, 3) := by decide +kernel
theorem d_MO_way_140 : decode m_MO_way.2.1 140 = .ok (.iconst 0, 1) := by decide +kernel
theorem d_MO_way_141 : decode m_MO_way.2.1 141 = .ok (.istore 7, 2) := by decide +kernel
theorem d_MO_way_143 : decode m_MO_way.2.1 143 = .ok (.aload_n 0, 1) := by decide +kernel
theorem d_MO_way_144 : decode m_MO_way.2.1 144 = .ok (.getfield 59, 3) := by decide +kernel
theorem d_MO_way_147 : decode m_MO_way.2.1 147 = .ok (.iload 5, 2) := by decide +kernel
theorem d_MO_way_149 : decode m_MO_way.2.1 149 = .ok (.bipush 31, 2) := by decide +kernel
theorem d_MO_way_151 : decode m_MO_way.2.1 151 = .ok (.imul, 1) := by decide +kernel
theorem d_MO_way_152 : decode m_MO_way.2.1 152 = .ok (.iload 6, 2) := by decide +kernel
theorem d_MO_way_154 : decode m_MO_way.2.1 154 = .ok (.iadd, 1) := by decide +kernel
theorem d_MO_way_155 : decode m_MO_way.2.1 155 = .ok (.iconst 1, 1) := by decide +kernel
theorem d_MO_way_156 : decode m_MO_way.2.1 156 = .ok (.bastore, 1) := by decide +kernel
theorem d_MO_way_157 : decode m_MO_way.2.1 157 = .ok (.iload 7, 2) := by decide +kernel
theorem d_MO_way_159 : decode m_MO_way.2.1 159 = .ok (.ifCond .eq 34, 3) := by decide +kernel
theorem d_MO_way_162 : decode m_MO_way.2.1 162 = .ok (.aload_n 0, 1) := by decide +kernel
theorem d_MO_way_163 : decode m_MO_way.2.1 163 = .ok (.getfield 35, 3) := by decide +kernel
theorem d_MO_way_166 : decode m_MO_way.2.1 166 = .ok (.iload 5, 2) := by decide +kernel
theorem d_MO_way_168 : decode m_MO_way.2.1 168 = .ok (.iaload, 1) := by decide +kernel
theorem d_MO_way_169 : decode m_MO_way.2.1 169 = .ok (.bipush 8, 2) := by decide +kernel
theorem d_MO_way_171 : decode m_MO_way.2.1 171 = .ok (.if_icmp .ne 22, 3) := by decide +kernel
theorem d_MO_way_174 : decode m_MO_way.2.1 174 = .ok (.iload_n 2, 1) := by decide +kernel
theorem d_MO_way_175 : decode m_MO_way.2.1 175 = .ok (.ifCond .lt 9, 3) := by decide +kernel
theorem d_MO_way_178 : decode m_MO_way.2.1 178 = .ok (.iload 6, 2) := by decide +kernel
theorem d_MO_way_180 : decode m_MO_way.2.1 180 = .ok (.iload_n 2, 1) := by decide +kernel
theorem d_MO_way_181 : decode m_MO_way.2.1 181 = .ok (.if_icmp .ne 6, 3) := by decide +kernel
theorem d_MO_way_184 : decode m_MO_way.2.1 184 = .ok (.iload 6, 2) := by decide +kernel
theorem d_MO_way_186 : decode m_MO_way.2.1 186 = .ok (.ireturn, 1) := by decide +kernel
theorem d_MO_way_187 : decode m_MO_way.2.1 187 = .ok (.iconst 0, 1) := by decide +kernel
theorem d_MO_way_188 : decode m_MO_way.2.1 188 = .ok (.istore 7, 2) := by decide +kernel
theorem d_MO_way_190 : decode m_MO_way.2.1 190 = .ok (.goto (-75), 3) := by decide +kernel
theorem d_MO_way_193 : decode m_MO_way.2.1 193 = .ok (.iload 7, 2) := by decide +kernel
theorem d_MO_way_195 : decode m_MO_way.2.1 195 = .ok (.ifCond .eq 70, 3) := by decide +kernel
theorem d_MO_way_198 : decode m_MO_way.2.1 198 = .ok (.aload_n 0, 1) := by decide +kernel
theorem d_MO_way_199 : decode m_MO_way.2.1 199 = .ok (.getfield 35, 3) := by decide +kernel
theorem d_MO_way_202 : decode m_MO_way.2.1 202 = .ok (.iload 5, 2) := by decide +kernel
theorem d_MO_way_204 : decode m_MO_way.2.1 204 = .ok (.iaload, 1) := by decide +kernel
theorem d_MO_way_205 : decode m_MO_way.2.1 205 = .ok (.iconst 5, 1) := by decide +kernel
theorem d_MO_way_206 : decode m_MO_way.2.1 206 = .ok (.if_icmp .ne 59, 3) := by decide +kernel
theorem d_MO_way_209 : decode m_MO_way.2.1 209 = .ok (.aload_n 0, 1) := by decide +kernel
theorem d_MO_way_210 : decode m_MO_way.2.1 210 = .ok (.getfield 62, 3) := by decide +kernel
theorem d_MO_way_213 : decode m_MO_way.2.1 213 = .ok (.iload_n 3, 1) := by decide +kernel
theorem d_MO_way_214 : decode m_MO_way.2.1 214 = .ok (.iconst (-1), 1) := by decide +kernel
theorem d_MO_way_215 : decode m_MO_way.2.1 215 = .ok (.aload_n 0, 1) := by decide +kernel
theorem d_MO_way_216 : decode m_MO_way.2.1 216 = .ok (.getfield 38, 3) := by decide +kernel
theorem d_MO_way_219 : decode m_MO_way.2.1 219 = .ok (.iload 5, 2) := by decide +kernel
theorem d_MO_way_221 : decode m_MO_way.2.1 221 = .ok (.iaload, 1) := by decide +kernel
theorem d_MO_way_222 : decode m_MO_way.2.1 222 = .ok (.bipush 64, 2) := by decide +kernel
theorem d_MO_way_224 : decode m_MO_way.2.1 224 = .ok (.imul, 1) := by decide +kernel
theorem d_MO_way_225 : decode m_MO_way.2.1 225 = .ok (.aload_n 0, 1) := by decide +kernel
theorem d_MO_way_226 : decode m_MO_way.2.1 226 = .ok (.getfield 65, 3) := by decide +kernel
theorem d_MO_way_229 : decode m_MO_way.2.1 229 = .ok (.aload_n 0, 1) := by decide +kernel
theorem d_MO_way_230 : decode m_MO_way.2.1 230 = .ok (.getfield 38, 3) := by decide +kernel
theorem d_MO_way_233 : decode m_MO_way.2.1 233 = .ok (.iload 5, 2) := by decide +kernel
theorem d_MO_way_235 : decode m_MO_way.2.1 235 = .ok (.iaload, 1) := by decide +kernel
theorem d_MO_way_236 : decode m_MO_way.2.1 236 = .ok (.iaload, 1) := by decide +kernel
theorem d_MO_way_237 : decode m_MO_way.2.1 237 = .ok (.iadd, 1) := by decide +kernel
theorem d_MO_way_238 : decode m_MO_way.2.1 238 = .ok (.iconst 1, 1) := by decide +kernel
theorem d_MO_way_239 : decode m_MO_way.2.1 239 = .ok (.iadd, 1) := by decide +kernel
theorem d_MO_way_240 : decode m_MO_way.2.1 240 = .ok (.isub, 1) := by decide +kernel
theorem d_MO_way_241 : decode m_MO_way.2.1 241 = .ok (.iastore, 1) := by decide +kernel
theorem d_MO_way_242 : decode m_MO_way.2.1 242 = .ok (.iinc 3 1, 3) := by decide +kernel
theorem d_MO_way_245 : decode m_MO_way.2.1 245 = .ok (.aload_n 0, 1) := by decide +kernel
theorem d_MO_way_246 : decode m_MO_way.2.1 246 = .ok (.getfield 65, 3) := by decide +kernel
theorem d_MO_way_249 : decode m_MO_way.2.1 249 = .ok (.aload_n 0, 1) := by decide +kernel
theorem d_MO_way_250 : decode m_MO_way.2.1 250 = .ok (.getfield 38, 3) := by decide +kernel
theorem d_MO_way_253 : decode m_MO_way.2.1 253 = .ok (.iload 5, 2) := by decide +kernel
theorem d_MO_way_255 : decode m_MO_way.2.1 255 = .ok (.iaload, 1) := by decide +kernel
theorem d_MO_way_256 : decode m_MO_way.2.1 256 = .ok (.iload 6, 2) := by decide +kernel
theorem d_MO_way_258 : decode m_MO_way.2.1 258 = .ok (.iastore, 1) := by decide +kernel
theorem d_MO_way_259 : decode m_MO_way.2.1 259 = .ok (.iinc 5 1, 3) := by decide +kernel
theorem d_MO_way_262 : decode m_MO_way.2.1 262 = .ok (.goto (-147), 3) := by decide +kernel
theorem d_MO_way_265 : decode m_MO_way.2.1 265 = .ok (.iload 7, 2) := by decide +kernel
theorem d_MO_way_267 : decode m_MO_way.2.1 267 = .ok (.ifCond .eq 55, 3) := by decide +kernel
theorem d_MO_way_270 : decode m_MO_way.2.1 270 = .ok (.aload_n 0, 1) := by decide +kernel
theorem d_MO_way_271 : decode m_MO_way.2.1 271 = .ok (.getfield 35, 3) := by decide +kernel
theorem d_MO_way_274 : decode m_MO_way.2.1 274 = .ok (.iload 5, 2) := by decide +kernel
theorem d_MO_way_276 : decode m_MO_way.2.1 276 = .ok (.iaload, 1) := by decide +kernel
theorem d_MO_way_277 : decode m_MO_way.2.1 277 = .ok (.bipush 6, 2) := by decide +kernel
theorem d_MO_way_279 : decode m_MO_way.2.1 279 = .ok (.if_icmp .ne 43, 3) := by decide +kernel
theorem d_MO_way_282 : decode m_MO_way.2.1 282 = .ok (.aload_n 0, 1) := by decide +kernel
theorem d_MO_way_283 : decode m_MO_way.2.1 283 = .ok (.getfield 62, 3) := by decide +kernel
theorem d_MO_way_286 : decode m_MO_way.2.1 286 = .ok (.iload_n 3, 1) := by decide +kernel
theorem d_MO_way_287 : decode m_MO_way.2.1 287 = .ok (.iload 5, 2) := by decide +kernel
theorem d_MO_way_289 : decode m_MO_way.2.1 289 = .ok (.aload_n 0, 1) := by decide +kernel
theorem d_MO_way_290 : decode m_MO_way.2.1 290 = .ok (.getfield 41, 3) := by decide +kernel
theorem d_MO_way_293 : decode m_MO_way.2.1 293 = .ok (.iload 5, 2) := by decide +kernel
theorem d_MO_way_295 : decode m_MO_way.2.1 295 = .ok (.iaload, 1) := by decide +kernel
theorem d_MO_way_296 : decode m_MO_way.2.1 296 = .ok (.iadd, 1) := by decide +kernel
theorem d_MO_way_297 : decode m_MO_way.2.1 297 = .ok (.bipush 32, 2) := by decide +kernel
theorem d_MO_way_299 : decode m_MO_way.2.1 299 = .ok (.imul, 1) := by decide +kernel
theorem d_MO_way_300 : decode m_MO_way.2.1 300 = .ok (.iload 6, 2) := by decide +kernel
theorem d_MO_way_302 : decode m_MO_way.2.1 302 = .ok (.iadd, 1) := by decide +kernel
theorem d_MO_way_303 : decode m_MO_way.2.1 303 = .ok (.iastore, 1) := by decide +kernel
theorem d_MO_way_304 : decode m_MO_way.2.1 304 = .ok (.iinc 3 1, 3) := by decide +kernel
theorem d_MO_way_307 : decode m_MO_way.2.1 307 = .ok (.iload 5, 2) := by decide +kernel
theorem d_MO_way_309 : decode m_MO_way.2.1 309 = .ok (.aload_n 0, 1) := by decide +kernel
theorem d_MO_way_310 : decode m_MO_way.2.1 310 = .ok (.getfield 38, 3) := by decide +kernel
theorem d_MO_way_313 : decode m_MO_way.2.1 313 = .ok (.iload 5, 2) := by decide +kernel
theorem d_MO_way_315 : decode m_MO_way.2.1 315 = .ok (.iaload, 1) := by decide +kernel
theorem d_MO_way_316 : decode m_MO_way.2.1 316 = .ok (.iadd, 1) := by decide +kernel
theorem d_MO_way_317 : decode m_MO_way.2.1 317 = .ok (.istore 5, 2) := by decide +kernel
theorem d_MO_way_319 : decode m_MO_way.2.1 319 = .ok (.goto (-204), 3) := by decide +kernel
theorem d_MO_way_322 : decode m_MO_way.2.1 322 = .ok (.iload 7, 2) := by decide +kernel
theorem d_MO_way_324 : decode m_MO_way.2.1 324 = .ok (.ifCond .eq 30, 3) := by decide +kernel
theorem d_MO_way_327 : decode m_MO_way.2.1 327 = .ok (.aload_n 0, 1) := by decide +kernel
theorem d_MO_way_328 : decode m_MO_way.2.1 328 = .ok (.getfield 35, 3) := by decide +kernel
theorem d_MO_way_331 : decode m_MO_way.2.1 331 = .ok (.iload 5, 2) := by decide +kernel
theorem d_MO_way_333 : decode m_MO_way.2.1 333 = .ok (.iaload, 1) := by decide +kernel
theorem d_MO_way_334 : decode m_MO_way.2.1 334 = .ok (.bipush 7, 2) := by decide +kernel
theorem d_MO_way_336 : decode m_MO_way.2.1 336 = .ok (.if_icmp .ne 18, 3) := by decide +kernel
theorem d_MO_way_339 : decode m_MO_way.2.1 339 = .ok (.iload 5, 2) := by decide +kernel
theorem d_MO_way_341 : decode m_MO_way.2.1 341 = .ok (.aload_n 0, 1) := by decide +kernel
theorem d_MO_way_342 : decode m_MO_way.2.1 342 = .ok (.getfield 38, 3) := by decide +kernel
theorem d_MO_way_345 : decode m_MO_way.2.1 345 = .ok (.iload 5, 2) := by decide +kernel
theorem d_MO_way_347 : decode m_MO_way.2.1 347 = .ok (.iaload, 1) := by decide +kernel
theorem d_MO_way_348 : decode m_MO_way.2.1 348 = .ok (.iadd, 1) := by decide +kernel
theorem d_MO_way_349 : decode m_MO_way.2.1 349 = .ok (.istore 5, 2) := by decide +kernel
theorem d_MO_way_351 : decode m_MO_way.2.1 351 = .ok (.goto (-236), 3) := by decide +kernel
theorem d_MO_way_354 : decode m_MO_way.2.1 354 = .ok (.iload 7, 2) := by decide +kernel
theorem d_MO_way_356 : decode m_MO_way.2.1 356 = .ok (.ifCond .eq 60, 3) := by decide +kernel
theorem d_MO_way_359 : decode m_MO_way.2.1 359 = .ok (.aload_n 0, 1) := by decide +kernel
theorem d_MO_way_360 : decode m_MO_way.2.1 360 = .ok (.getfield 35, 3) := by decide +kernel
theorem d_MO_way_363 : decode m_MO_way.2.1 363 = .ok (.iload 5, 2) := by decide +kernel
theorem d_MO_way_365 : decode m_MO_way.2.1 365 = .ok (.iaload, 1) := by decide +kernel
theorem d_MO_way_366 : decode m_MO_way.2.1 366 = .ok (.iconst 3, 1) := by decide +kernel
theorem d_MO_way_367 : decode m_MO_way.2.1 367 = .ok (.if_icmp .lt 49, 3) := by decide +kernel
theorem d_MO_way_370 : decode m_MO_way.2.1 370 = .ok (.aload_n 0, 1) := by decide +kernel
theorem d_MO_way_371 : decode m_MO_way.2.1 371 = .ok (.getfield 35, 3) := by decide +kernel
theorem d_MO_way_374 : decode m_MO_way.2.1 374 = .ok (.iload 5, 2) := by decide +kernel
theorem d_MO_way_376 : decode m_MO_way.2.1 376 = .ok (.iaload, 1) := by decide +kernel
theorem d_MO_way_377 : decode m_MO_way.2.1 377 = .ok (.iconst 3, 1) := by decide +kernel
theorem d_MO_way_378 : decode m_MO_way.2.1 378 = .ok (.if_icmp .ne 16, 3) := by decide +kernel
theorem d_MO_way_381 : decode m_MO_way.2.1 381 = .ok (.iload 6, 2) := by decide +kernel
theorem d_MO_way_383 : decode m_MO_way.2.1 383 = .ok (.ifCond .ne 7, 3) := by decide +kernel
theorem d_MO_way_386 : decode m_MO_way.2.1 386 = .ok (.iconst 1, 1) := by decide +kernel
theorem d_MO_way_387 : decode m_MO_way.2.1 387 = .ok (.goto 21, 3) := by decide +kernel
theorem d_MO_way_390 : decode m_MO_way.2.1 390 = .ok (.iconst 0, 1) := by decide +kernel
theorem d_MO_way_391 : decode m_MO_way.2.1 391 = .ok (.goto 17, 3) := by decide +kernel
theorem d_MO_way_394 : decode m_MO_way.2.1 394 = .ok (.iload 6, 2) := by decide +kernel
theorem d_MO_way_396 : decode m_MO_way.2.1 396 = .ok (.aload_n 0, 1) := by decide +kernel
theorem d_MO_way_397 : decode m_MO_way.2.1 397 = .ok (.getfield 164, 3) := by decide +kernel
theorem d_MO_way_400 : decode m_MO_way.2.1 400 = .ok (.if_icmp .ne 7, 3) := by decide +kernel
theorem d_MO_way_403 : decode m_MO_way.2.1 403 = .ok (.iconst 1, 1) := by decide +kernel
theorem d_MO_way_404 : decode m_MO_way.2.1 404 = .ok (.goto 4, 3) := by decide +kernel
theorem d_MO_way_407 : decode m_MO_way.2.1 407 = .ok (.iconst 0, 1) := by decide +kernel
theorem d_MO_way_408 : decode m_MO_way.2.1 408 = .ok (.istore 7, 2) := by decide +kernel
theorem d_MO_way_410 : decode m_MO_way.2.1 410 = .ok (.iinc 5 1, 3) := by decide +kernel
theorem d_MO_way_413 : decode m_MO_way.2.1 413 = .ok (.goto (-298), 3) := by decide +kernel
theorem d_MO_way_416 : decode m_MO_way.2.1 416 = .ok (.iload 7, 2) := by decide +kernel
theorem d_MO_way_418 : decode m_MO_way.2.1 418 = .ok (.ifCond .eq (-303), 3) := by decide +kernel
theorem d_MO_way_421 : decode m_MO_way.2.1 421 = .ok (.iload 6, 2) := by decide +kernel
theorem d_MO_way_423 : decode m_MO_way.2.1 423 = .ok (.aload_n 0, 1) := by decide +kernel
theorem d_MO_way_424 : decode m_MO_way.2.1 424 = .ok (.getfield 164, 3) := by decide +kernel
theorem d_MO_way_427 : decode m_MO_way.2.1 427 = .ok (.if_icmp .ge 23, 3) := by decide +kernel
theorem d_MO_way_430 : decode m_MO_way.2.1 430 = .ok (.aload_n 0, 1) := by decide +kernel
theorem d_MO_way_431 : decode m_MO_way.2.1 431 = .ok (.iload 5, 2) := by decide +kernel
theorem d_MO_way_433 : decode m_MO_way.2.1 433 = .ok (.aload_n 0, 1) := by decide +kernel
theorem d_MO_way_434 : decode m_MO_way.2.1 434 = .ok (.getfield 13, 3) := by decide +kernel
theorem d_MO_way_437 : decode m_MO_way.2.1 437 = .ok (.iload 6, 2) := by decide +kernel
theorem d_MO_way_439 : decode m_MO_way.2.1 439 = .ok (.iaload, 1) := by decide +kernel
theorem d_MO_way_440 : decode m_MO_way.2.1 440 = .ok (.invokevirtual 167, 3) := by decide +kernel
theorem d_MO_way_443 : decode m_MO_way.2.1 443 = .ok (.ifCond .eq 7, 3) := by decide +kernel
theorem d_MO_way_446 : decode m_MO_way.2.1 446 = .ok (.iconst 1, 1) := by decide +kernel
theorem d_MO_way_447 : decode m_MO_way.2.1 447 = .ok (.goto 4, 3) := by decide +kernel
theorem d_MO_way_450 : decode m_MO_way.2.1 450 = .ok (.iconst 0, 1) := by decide +kernel
theorem d_MO_way_451 : decode m_MO_way.2.1 451 = .ok (.istore 7, 2) := by decide +kernel
theorem d_MO_way_453 : decode m_MO_way.2.1 453 = .ok (.iinc 5 1, 3) := by decide +kernel
theorem d_MO_way_456 : decode m_MO_way.2.1 456 = .ok (.iinc 6 1, 3) := by decide +kernel
theorem d_MO_way_459 : decode m_MO_way.2.1 459 = .ok (.goto (-344), 3) := by decide +kernel
theorem d_MO_way_462 : decode m_MO_way.2.1 462 = .ok (.goto (-410), 3) := by decide +kernel
theorem d_MO_way_465 : decode m_MO_way.2.1 465 = .ok (.iconst (-1), 1) := by decide +kernel
theorem d_MO_way_466 : decode m_MO_way.2.1 466 = .ok (.ireturn, 1) := by decide +kernel
theorem d_MO_check_0 : decode m_MO_check.2.1 0 = .ok (.iconst 0, 1) := by decide +kernel
theorem d_MO_check_1 : decode m_MO_check.2.1 1 = .ok (.istore_n 1, 1) := by decide +kernel
theorem d_MO_check_2 : decode m_MO_check.2.1 2 = .ok (.aload_n 0, 1) := by decide +kernel
theorem d_MO_check_3 : decode m_MO_check.2.1 3 = .ok (.iconst 0, 1) := by decide +kernel
theorem d_MO_check_4 : decode m_MO_check.2.1 4 = .ok (.putfield 104, 3) := by decide +kernel
theorem d_MO_check_7 : decode m_MO_check.2.1 7 = .ok (.aload_n 0, 1) := by decide +kernel
theorem d_MO_check_8 : decode m_MO_check.2.1 8 = .ok (.iconst 0, 1) := by decide +kernel
theorem d_MO_check_9 : decode m_MO_check.2.1 9 = .ok (.putfield 87, 3) := by decide +kernel
theorem d_MO_check_12 : decode m_MO_check.2.1 12 = .ok (.aload_n 0, 1) := by decide +kernel
theorem d_MO_check_13 : decode m_MO_check.2.1 13 = .ok (.getfield 22, 3) := by decide +kernel
theorem d_MO_check_16 : decode m_MO_check.2.1 16 = .ok (.iconst 0, 1) := by decide +kernel
theorem d_MO_check_17 : decode m_MO_check.2.1 17 = .ok (.iconst 0, 1) := by decide +kernel
theorem d_MO_check_18 : decode m_MO_check.2.1 18 = .ok (.iastore, 1) := by decide +kernel
theorem d_MO_check_19 : decode m_MO_check.2.1 19 = .ok (.aload_n 0, 1) := by decide +kernel
theorem d_MO_check_20 : decode m_MO_check.2.1 20 = .ok (.getfield 32, 3) := by decide +kernel
theorem d_MO_check_23 : decode m_MO_check.2.1 23 = .ok (.iconst 0, 1) := by decide +kernel
theorem d_MO_check_24 : decode m_MO_check.2.1 24 = .ok (.iconst 0, 1) := by decide +kernel
theorem d_MO_check_25 : decode m_MO_check.2.1 25 = .ok (.bastore, 1) := by decide +kernel
theorem d_MO_check_26 : decode m_MO_check.2.1 26 = .ok (.aload_n 0, 1) := by decide +kernel
theorem d_MO_check_27 : decode m_MO_check.2.1 27 = .ok (.iconst 0, 1) := by decide +kernel
theorem d_MO_check_28 : decode m_MO_check.2.1 28 = .ok (.invokevirtual 107, 3) := by decide +kernel
theorem d_MO_check_31 : decode m_MO_check.2.1 31 = .ok (.aload_n 0, 1) := by decide +kernel
theorem d_MO_check_32 : decode m_MO_check.2.1 32 = .ok (.iconst 0, 1) := by decide +kernel
theorem d_MO_check_33 : decode m_MO_check.2.1 33 = .ok (.putfield 76, 3) := by decide +kernel
theorem d_MO_check_36 : decode m_MO_check.2.1 36 = .ok (.aload_n 0, 1) := by decide +kernel
theorem d_MO_check_37 : decode m_MO_check.2.1 37 = .ok (.iconst 1, 1) := by decide +kernel
theorem d_MO_check_38 : decode m_MO_check.2.1 38 = .ok (.putfield 83, 3) := by decide +kernel
theorem d_MO_check_41 : decode m_MO_check.2.1 41 = .ok (.iconst 0, 1) := by decide +kernel
theorem d_MO_check_42 : decode m_MO_check.2.1 42 = .ok (.istore_n 2, 1) := by decide +kernel
theorem d_MO_check_43 : decode m_MO_check.2.1 43 = .ok (.iconst 0, 1) := by decide +kernel
theorem d_MO_check_44 : decode m_MO_check.2.1 44 = .ok (.istore_n 3, 1) := by decide +kernel
theorem d_MO_check_45 : decode m_MO_check.2.1 45 = .ok (.iload_n 3, 1) := by decide +kernel
theorem d_MO_check_46 : decode m_MO_check.2.1 46 = .ok (.aload_n 0, 1) := by decide +kernel
theorem d_MO_check_47 : decode m_MO_check.2.1 47 = .ok (.getfield 72, 3) := by decide +kernel
theorem d_MO_check_50 : decode m_MO_check.2.1 50 = .ok (.if_icmp .ge 336, 3) := by decide +kernel
theorem d_MO_check_53 : decode m_MO_check.2.1 53 = .ok (.aload_n 0, 1) := by decide +kernel
theorem d_MO_check_54 : decode m_MO_check.2.1 54 = .ok (.iload_n 3, 1) := by decide +kernel
theorem d_MO_check_55 : decode m_MO_check.2.1 55 = .ok (.invokevirtual 90, 3) := by decide +kernel
theorem d_MO_check_58 : decode m_MO_check.2.1 58 = .ok (.istore 4, 2) := by decide +kernel
theorem d_MO_check_60 : decode m_MO_check.2.1 60 = .ok (.iload_n 3, 1) := by decide +kernel
theorem d_MO_check_61 : decode m_MO_check.2.1 61 = .ok (.iconst 1, 1) := by decide +kernel
theorem d_MO_check_62 : decode m_MO_check.2.1 62 = .ok (.iadd, 1) := by decide +kernel
theorem d_MO_check_63 : decode m_MO_check.2.1 63 = .ok (.istore 5, 2) := by decide +kernel
theorem d_MO_check_65 : decode m_MO_check.2.1 65 = .ok (.iload 4, 2) := by decide +kernel
theorem d_MO_check_67 : decode m_MO_check.2.1 67 = .ok (.bipush 42, 2) := by decide +kernel
theorem d_MO_check_69 : decode m_MO_check.2.1 69 = .ok (.bipush 43, 2) := by decide +kernel
theorem d_MO_check_71 : decode m_MO_check.2.1 71 = .ok (.bipush 63, 2) := by decide +kernel
theorem d_MO_check_73 : decode m_MO_check.2.1 73 = .ok (.bipush 123, 2) := by decide +kernel
theorem d_MO_check_75 : decode m_MO_check.2.1 75 = .ok (.invokestatic 68, 3) := by decide +kernel
theorem d_MO_check_78 : decode m_MO_check.2.1 78 = .ok (.ifCond .eq 21, 3) := by decide +kernel
theorem d_MO_check_81 : decode m_MO_check.2.1 81 = .ok (.iload_n 2, 1) := by decide +kernel
theorem d_MO_check_82 : decode m_MO_check.2.1 82 = .ok (.ifCond .ne 5, 3) := by decide +kernel
theorem d_MO_check_85 : decode m_MO_check.2.1 85 = .ok (.iload_n 3, 1) := by decide +kernel
theorem d_MO_check_86 : decode m_MO_check.2.1 86 = .ok (.ireturn, 1) := by decide +kernel
theorem d_MO_check_87 : decode m_MO_check.2.1 87 = .ok (.aload_n 0, 1) := by decide +kernel
theorem d_MO_check_88 : decode m_MO_check.2.1 88 = .ok (.iload_n 3, 1) := by decide +kernel
theorem d_MO_check_89 : decode m_MO_check.2.1 89 = .ok (.invokevirtual 111, 3) := by decide +kernel
theorem d_MO_check_92 : decode m_MO_check.2.1 92 = .ok (.istore 5, 2) := by decide +kernel
theorem d_MO_check_94 : decode m_MO_check.2.1 94 = .ok (.iconst 0, 1) := by decide +kernel
theorem d_MO_check_95 : decode m_MO_check.2.1 95 = .ok (.istore_n 2, 1) := by decide +kernel
theorem d_MO_check_96 : decode m_MO_check.2.1 96 = .ok (.goto 274, 3) := by decide +kernel
theorem d_MO_check_99 : decode m_MO_check.2.1 99 = .ok (.iload 4, 2) := by decide +kernel
theorem d_MO_check_101 : decode m_MO_check.2.1 101 = .ok (.bipush 124, 2) := by decide +kernel
theorem d_MO_check_103 : decode m_MO_check.2.1 103 = .ok (.if_icmp .ne 57, 3) := by decide +kernel
theorem d_MO_check_106 : decode m_MO_check.2.1 106 = .ok (.aload_n 0, 1) := by decide +kernel
theorem d_MO_check_107 : decode m_MO_check.2.1 107 = .ok (.iload_n 1, 1) := by decide +kernel
theorem d_MO_check_108 : decode m_MO_check.2.1 108 = .ok (.invokevirtual 114, 3) := by decide +kernel
theorem d_MO_check_111 : decode m_MO_check.2.1 111 = .ok (.aload_n 0, 1) := by decide +kernel
theorem d_MO_check_112 : decode m_MO_check.2.1 112 = .ok (.getfield 22, 3) := by decide +kernel
theorem d_MO_check_115 : decode m_MO_check.2.1 115 = .ok (.iload_n 1, 1) := by decide +kernel
theorem d_MO_check_116 : decode m_MO_check.2.1 116 = .ok (.aload_n 0, 1) := by decide +kernel
theorem d_MO_check_117 : decode m_MO_check.2.1 117 = .ok (.getfield 22, 3) := by decide +kernel
theorem d_MO_check_120 : decode m_MO_check.2.1 120 = .ok (.iload_n 1, 1) := by decide +kernel
theorem d_MO_check_121 : decode m_MO_check.2.1 121 = .ok (.iaload, 1) := by decide +kernel
theorem d_MO_check_122 : decode m_MO_check.2.1 122 = .ok (.aload_n 0, 1) := by decide +kernel
theorem d_MO_check_123 : decode m_MO_check.2.1 123 = .ok (.getfield 25, 3) := by decide +kernel
theorem d_MO_check_126 : decode m_MO_check.2.1 126 = .ok (.iload_n 1, 1) := by decide +kernel
theorem d_MO_check_127 : decode m_MO_check.2.1 127 = .ok (.iaload, 1) := by decide +kernel
theorem d_MO_check_128 : decode m_MO_check.2.1 128 = .ok (.iadd, 1) := by decide +kernel
theorem d_MO_check_129 : decode m_MO_check.2.1 129 = .ok (.iconst 2, 1) := by decide +kernel
theorem d_MO_check_130 : decode m_MO_check.2.1 130 = .ok (.iadd, 1) := by decide +kernel
theorem d_MO_check_131 : decode m_MO_check.2.1 131 = .ok (.invokestatic 79, 3) := by decide +kernel
theorem d_MO_check_134 : decode m_MO_check.2.1 134 = .ok (.iastore, 1) := by decide +kernel
theorem d_MO_check_135 : decode m_MO_check.2.1 135 = .ok (.aload_n 0, 1) := by decide +kernel
theorem d_MO_check_136 : decode m_MO_check.2.1 136 = .ok (.getfield 32, 3) := by decide +kernel
theorem d_MO_check_139 : decode m_MO_check.2.1 139 = .ok (.iload_n 1, 1) := by decide +kernel
theorem d_MO_check_140 : decode m_MO_check.2.1 140 = .ok (.dup2, 1) := by decide +kernel
theorem d_MO_check_141 : decode m_MO_check.2.1 141 = .ok (.baload, 1) := by decide +kernel
theorem d_MO_check_142 : decode m_MO_check.2.1 142 = .ok (.aload_n 0, 1) := by decide +kernel
theorem d_MO_check_143 : decode m_MO_check.2.1 143 = .ok (.getfield 28, 3) := by decide +kernel
theorem d_MO_check_146 : decode m_MO_check.2.1 146 = .ok (.iload_n 1, 1) := by decide +kernel
theorem d_MO_check_147 : decode m_MO_check.2.1 147 = .ok (.baload, 1) := by decide +kernel
theorem d_MO_check_148 : decode m_MO_check.2.1 148 = .ok (.ior, 1) := by decide +kernel
theorem d_MO_check_149 : decode m_MO_check.2.1 149 = .ok (.bastore, 1) := by decide +kernel
theorem d_MO_check_150 : decode m_MO_check.2.1 150 = .ok (.aload_n 0, 1) := by decide +kernel
theorem d_MO_check_151 : decode m_MO_check.2.1 151 = .ok (.iload_n 1, 1) := by decide +kernel
theorem d_MO_check_152 : decode m_MO_check.2.1 152 = .ok (.invokevirtual 107, 3) := by decide +kernel
theorem d_MO_check_155 : decode m_MO_check.2.1 155 = .ok (.iconst 0, 1) := by decide +kernel
theorem d_MO_check_156 : decode m_MO_check.2.1 156 = .ok (.istore_n 2, 1) := by decide +kernel
theorem d_MO_check_157 : decode m_MO_check.2.1 157 = .ok (.goto 213, 3) := by decide +kernel
theorem d_MO_check_160 : decode m_MO_check.2.1 160 = .ok (.iload 4, 2) := by decide +kernel
theorem d_MO_check_162 : decode m_MO_check.2.1 162 = .ok (.bipush 40, 2) := by decide +kernel
theorem d_MO_check_164 : decode m_MO_check.2.1 164 = .ok (.if_icmp .ne 56, 3) := by decide +kernel
theorem d_MO_check_167 : decode m_MO_check.2.1 167 = .ok (.aload_n 0, 1) := by decide +kernel
theorem d_MO_check_168 : decode m_MO_check.2.1 168 = .ok (.getfield 104, 3) := by decide +kernel
theorem d_MO_check_171 : decode m_MO_check.2.1 171 = .ok (.bipush 6, 2) := by decide +kernel
theorem d_MO_check_173 : decode m_MO_check.2.1 173 = .ok (.if_icmp .ne 5, 3) := by decide +kernel
theorem d_MO_check_176 : decode m_MO_check.2.1 176 = .ok (.iload_n 3, 1) := by decide +kernel
theorem d_MO_check_177 : decode m_MO_check.2.1 177 = .ok (.ireturn, 1) := by decide +kernel
theorem d_MO_check_178 : decode m_MO_check.2.1 178 = .ok (.aload_n 0, 1) := by decide +kernel
theorem d_MO_check_179 : decode m_MO_check.2.1 179 = .ok (.iload_n 1, 1) := by decide +kernel
theorem d_MO_check_180 : decode m_MO_check.2.1 180 = .ok (.invokevirtual 114, 3) := by decide +kernel
theorem d_MO_check_183 : decode m_MO_check.2.1 183 = .ok (.aload_n 0, 1) := by decide +kernel
theorem d_MO_check_184 : decode m_MO_check.2.1 184 = .ok (.dup, 1) := by decide +kernel
theorem d_MO_check_185 : decode m_MO_check.2.1 185 = .ok (.getfield 104, 3) := by decide +kernel
theorem d_MO_check_188 : decode m_MO_check.2.1 188 = .ok (.iconst 1, 1) := by decide +kernel
theorem d_MO_check_189 : decode m_MO_check.2.1 189 = .ok (.iadd, 1) := by decide +kernel
theorem d_MO_check_190 : decode m_MO_check.2.1 190 = .ok (.putfield 104, 3) := by decide +kernel
theorem d_MO_check_193 : decode m_MO_check.2.1 193 = .ok (.iinc 1 1, 3) := by decide +kernel
theorem d_MO_check_196 : decode m_MO_check.2.1 196 = .ok (.aload_n 0, 1) := by decide +kernel
theorem d_MO_check_197 : decode m_MO_check.2.1 197 = .ok (.getfield 22, 3) := by decide +kernel
theorem d_MO_check_200 : decode m_MO_check.2.1 200 = .ok (.iload_n 1, 1) := by decide +kernel
theorem d_MO_check_201 : decode m_MO_check.2.1 201 = .ok (.iconst 0, 1) := by decide +kernel
theorem d_MO_check_202 : decode m_MO_check.2.1 202 = .ok (.iastore, 1) := by decide +kernel
theorem d_MO_check_203 : decode m_MO_check.2.1 203 = .ok (.aload_n 0, 1) := by decide +kernel
theorem d_MO_check_204 : decode m_MO_check.2.1 204 = .ok (.getfield 32, 3) := by decide +kernel
theorem d_MO_check_207 : decode m_MO_check.2.1 207 = .ok (.iload_n 1, 1) := by decide +kernel
theorem d_MO_check_208 : decode m_MO_check.2.1 208 = .ok (.iconst 0, 1) := by decide +kernel
theorem d_MO_check_209 : decode m_MO_check.2.1 209 = .ok (.bastore, 1) := by decide +kernel
theorem d_MO_check_210 : decode m_MO_check.2.1 210 = .ok (.aload_n 0, 1) := by decide +kernel
theorem d_MO_check_211 : decode m_MO_check.2.1 211 = .ok (.iload_n 1, 1) := by decide +kernel
theorem d_MO_check_212 : decode m_MO_check.2.1 212 = .ok (.invokevirtual 107, 3) := by decide +kernel
theorem d_MO_check_215 : decode m_MO_check.2.1 215 = .ok (.iconst 0, 1) := by decide +kernel
theorem d_MO_check_216 : decode m_MO_check.2.1 216 = .ok (.istore_n 2, 1) := by decide +kernel
theorem d_MO_check_217 : decode m_MO_check.2.1 217 = .ok (.goto 153, 3) := by decide +kernel
theorem d_MO_check_220 : decode m_MO_check.2.1 220 = .ok (.iload 4, 2) := by decide +kernel
theorem d_MO_check_222 : decode m_MO_check.2.1 222 = .ok (.bipush 41, 2) := by decide +kernel
theorem d_MO_check_224 : decode m_MO_check.2.1 224 = .ok (.if_icmp .ne 71, 3) := by decide +kernel
theorem d_MO_check_227 : decode m_MO_check.2.1 227 = .ok (.iload_n 1, 1) := by decide +kernel
theorem d_MO_check_228 : decode m_MO_check.2.1 228 = .ok (.ifCond .ne 5, 3) := by decide +kernel
theorem d_MO_check_231 : decode m_MO_check.2.1 231 = .ok (.iload_n 3, 1) := by decide +kernel
theorem d_MO_check_232 : decode m_MO_check.2.1 232 = .ok (.ireturn, 1) := by decide +kernel
theorem d_MO_check_233 : decode m_MO_check.2.1 233 = .ok (.aload_n 0, 1) := by decide +kernel
theorem d_MO_check_234 : decode m_MO_check.2.1 234 = .ok (.iload_n 1, 1) := by decide +kernel
theorem d_MO_check_235 : decode m_MO_check.2.1 235 = .ok (.invokevirtual 114, 3) := by decide +kernel
theorem d_MO_check_238 : decode m_MO_check.2.1 238 = .ok (.aload_n 0, 1) := by decide +kernel
theorem d_MO_check_239 : decode m_MO_check.2.1 239 = .ok (.iconst 2, 1) := by decide +kernel
theorem d_MO_check_240 : decode m_MO_check.2.1 240 = .ok (.aload_n 0, 1) := by decide +kernel
theorem d_MO_check_241 : decode m_MO_check.2.1 241 = .ok (.getfield 22, 3) := by decide +kernel
theorem d_MO_check_244 : decode m_MO_check.2.1 244 = .ok (.iload_n 1, 1) := by decide +kernel
theorem d_MO_check_245 : decode m_MO_check.2.1 245 = .ok (.iaload, 1) := by decide +kernel
theorem d_MO_check_246 : decode m_MO_check.2.1 246 = .ok (.iadd, 1) := by decide +kernel
theorem d_MO_check_247 : decode m_MO_check.2.1 247 = .ok (.aload_n 0, 1) := by decide +kernel
theorem d_MO_check_248 : decode m_MO_check.2.1 248 = .ok (.getfield 25, 3) := by decide +kernel
theorem d_MO_check_251 : decode m_MO_check.2.1 251 = .ok (.iload_n 1, 1) := by decide +kernel
theorem d_MO_check_252 : decode m_MO_check.2.1 252 = .ok (.iaload, 1) := by decide +kernel
theorem d_MO_check_253 : decode m_MO_check.2.1 253 = .ok (.iadd, 1) := by decide +kernel
theorem d_MO_check_254 : decode m_MO_check.2.1 254 = .ok (.invokestatic 79, 3) := by decide +kernel
theorem d_MO_check_257 : decode m_MO_check.2.1 257 = .ok (.putfield 76, 3) := by decide +kernel
theorem d_MO_check_260 : decode m_MO_check.2.1 260 = .ok (.aload_n 0, 1) := by decide +kernel
theorem d_MO_check_261 : decode m_MO_check.2.1 261 = .ok (.aload_n 0, 1) := by decide +kernel
theorem d_MO_check_262 : decode m_MO_check.2.1 262 = .ok (.getfield 32, 3) := by decide +kernel
theorem d_MO_check_265 : decode m_MO_check.2.1 265 = .ok (.iload_n 1, 1) := by decide +kernel
theorem d_MO_check_266 : decode m_MO_check.2.1 266 = .ok (.baload, 1) := by decide +kernel
theorem d_MO_check_267 : decode m_MO_check.2.1 267 = .ok (.ifCond .ne 12, 3) := by decide +kernel
theorem d_MO_check_270 : decode m_MO_check.2.1 270 = .ok (.aload_n 0, 1) := by decide +kernel
theorem d_MO_check_271 : decode m_MO_check.2.1 271 = .ok (.getfield 28, 3) := by decide +kernel
theorem d_MO_check_274 : decode m_MO_check.2.1 274 = .ok (.iload_n 1, 1) := by decide +kernel
theorem d_MO_check_275 : decode m_MO_check.2.1 275 = .ok (.baload, 1) := by decide +kernel
theorem d_MO_check_276 : decode m_MO_check.2.1 276 = .ok (.ifCond .eq 7, 3) := by decide +kernel
theorem d_MO_check_279 : decode m_MO_check.2.1 279 = .ok (.iconst 1, 1) := by decide +kernel
theorem d_MO_check_280 : decode m_MO_check.2.1 280 = .ok (.goto 4, 3) := by decide +kernel
theorem d_MO_check_283 : decode m_MO_check.2.1 283 = .ok (.iconst 0, 1) := by decide +kernel
theorem d_MO_check_284 : decode m_MO_check.2.1 284 = .ok (.putfield 83, 3) := by decide +kernel
theorem d_MO_check_287 : decode m_MO_check.2.1 287 = .ok (.iinc 1 (-1), 3) := by decide +kernel
theorem d_MO_check_290 : decode m_MO_check.2.1 290 = .ok (.iconst 1, 1) := by decide +kernel
theorem d_MO_check_291 : decode m_MO_check.2.1 291 = .ok (.istore_n 2, 1) := by decide +kernel
theorem d_MO_check_292 : decode m_MO_check.2.1 292 = .ok (.goto 78, 3) := by decide +kernel
theorem d_MO_check_295 : decode m_MO_check.2.1 295 = .ok (.iload 4, 2) := by decide +kernel
theorem d_MO_check_297 : decode m_MO_check.2.1 297 = .ok (.invokestatic 117, 3) := by decide +kernel
theorem d_MO_check_300 : decode m_MO_check.2.1 300 = .ok (.ifCond .ne 21, 3) := by decide +kernel
theorem d_MO_check_303 : decode m_MO_check.2.1 303 = .ok (.iload 4, 2) := by decide +kernel
theorem d_MO_check_305 : decode m_MO_check.2.1 305 = .ok (.bipush 46, 2) := by decide +kernel
theorem d_MO_check_307 : decode m_MO_check.2.1 307 = .ok (.bipush 94, 2) := by decide +kernel
theorem d_MO_check_309 : decode m_MO_check.2.1 309 = .ok (.bipush 36, 2) := by decide +kernel
theorem d_MO_check_311 : decode m_MO_check.2.1 311 = .ok (.bipush 91, 2) := by decide +kernel
theorem d_MO_check_313 : decode m_MO_check.2.1 313 = .ok (.invokestatic 68, 3) := by decide +kernel
theorem d_MO_check_316 : decode m_MO_check.2.1 316 = .ok (.ifCond .ne 5, 3) := by decide +kernel
theorem d_MO_check_319 : decode m_MO_check.2.1 319 = .ok (.iload_n 3, 1) := by decide +kernel
theorem d_MO_check_320 : decode m_MO_check.2.1 320 = .ok (.ireturn, 1) := by decide +kernel
theorem d_MO_check_321 : decode m_MO_check.2.1 321 = .ok (.aload_n 0, 1) := by decide +kernel
theorem d_MO_check_322 : decode m_MO_check.2.1 322 = .ok (.iload_n 1, 1) := by decide +kernel
theorem d_MO_check_323 : decode m_MO_check.2.1 323 = .ok (.invokevirtual 114, 3) := by decide +kernel
theorem d_MO_check_326 : decode m_MO_check.2.1 326 = .ok (.aload_n 0, 1) := by decide +kernel
theorem d_MO_check_327 : decode m_MO_check.2.1 327 = .ok (.iconst 1, 1) := by decide +kernel
theorem d_MO_check_328 : decode m_MO_check.2.1 328 = .ok (.putfield 76, 3) := by decide +kernel
theorem d_MO_check_331 : decode m_MO_check.2.1 331 = .ok (.aload_n 0, 1) := by decide +kernel
theorem d_MO_check_332 : decode m_MO_check.2.1 332 = .ok (.iload 4, 2) := by decide +kernel
theorem d_MO_check_334 : decode m_MO_check.2.1 334 = .ok (.bipush 94, 2) := by decide +kernel
theorem d_MO_check_336 : decode m_MO_check.2.1 336 = .ok (.if_icmp .eq 10, 3) := by decide +kernel
theorem d_MO_check_339 : decode m_MO_check.2.1 339 = .ok (.iload 4, 2) := by decide +kernel
theorem d_MO_check_341 : decode m_MO_check.2.1 341 = .ok (.bipush 36, 2) := by decide +kernel
theorem d_MO_check_343 : decode m_MO_check.2.1 343 = .ok (.if_icmp .ne 7, 3) := by decide +kernel
theorem d_MO_check_346 : decode m_MO_check.2.1 346 = .ok (.iconst 1, 1) := by decide +kernel
theorem d_MO_check_347 : decode m_MO_check.2.1 347 = .ok (.goto 4, 3) := by decide +kernel
theorem d_MO_check_350 : decode m_MO_check.2.1 350 = .ok (.iconst 0, 1) := by decide +kernel
theorem d_MO_check_351 : decode m_MO_check.2.1 351 = .ok (.putfield 83, 3) := by decide +kernel
theorem d_MO_check_354 : decode m_MO_check.2.1 354 = .ok (.iload 4, 2) := by decide +kernel
theorem d_MO_check_356 : decode m_MO_check.2.1 356 = .ok (.bipush 91, 2) := by decide +kernel
theorem d_MO_check_358 : decode m_MO_check.2.1 358 = .ok (.if_icmp .ne 10, 3) := by decide +kernel
theorem d_MO_check_361 : decode m_MO_check.2.1 361 = .ok (.aload_n 0, 1) := by decide +kernel
theorem d_MO_check_362 : decode m_MO_check.2.1 362 = .ok (.iload_n 3, 1) := by decide +kernel
theorem d_MO_check_363 : decode m_MO_check.2.1 363 = .ok (.invokevirtual 120, 3) := by decide +kernel
theorem d_MO_check_366 : decode m_MO_check.2.1 366 = .ok (.istore 5, 2) := by decide +kernel
theorem d_MO_check_368 : decode m_MO_check.2.1 368 = .ok (.iconst 1, 1) := by decide +kernel
theorem d_MO_check_369 : decode m_MO_check.2.1 369 = .ok (.istore_n 2, 1) := by decide +kernel
theorem d_MO_check_370 : decode m_MO_check.2.1 370 = .ok (.iload 5, 2) := by decide +kernel
theorem d_MO_check_372 : decode m_MO_check.2.1 372 = .ok (.ifCond .ge 8, 3) := by decide +kernel
theorem d_MO_check_375 : decode m_MO_check.2.1 375 = .ok (.iconst (-1), 1) := by decide +kernel
theorem d_MO_check_376 : decode m_MO_check.2.1 376 = .ok (.iload 5, 2) := by decide +kernel
theorem d_MO_check_378 : decode m_MO_check.2.1 378 = .ok (.isub, 1) := by decide +kernel
theorem d_MO_check_379 : decode m_MO_check.2.1 379 = .ok (.ireturn, 1) := by decide +kernel
theorem d_MO_check_380 : decode m_MO_check.2.1 380 = .ok (.iload 5, 2) := by decide +kernel
theorem d_MO_check_382 : decode m_MO_check.2.1 382 = .ok (.istore_n 3, 1) := by decide +kernel
theorem d_MO_check_383 : decode m_MO_check.2.1 383 = .ok (.goto (-338), 3) := by decide +kernel
theorem d_MO_check_386 : decode m_MO_check.2.1 386 = .ok (.aload_n 0, 1) := by decide +kernel
theorem d_MO_check_387 : decode m_MO_check.2.1 387 = .ok (.iconst 0, 1) := by decide +kernel
theorem d_MO_check_388 : decode m_MO_check.2.1 388 = .ok (.invokevirtual 114, 3) := by decide +kernel
theorem d_MO_check_391 : decode m_MO_check.2.1 391 = .ok (.aload_n 0, 1) := by decide +kernel
theorem d_MO_check_392 : decode m_MO_check.2.1 392 = .ok (.aload_n 0, 1) := by decide +kernel
theorem d_MO_check_393 : decode m_MO_check.2.1 393 = .ok (.getfield 22, 3) := by decide +kernel
theorem d_MO_check_396 : decode m_MO_check.2.1 396 = .ok (.iconst 0, 1) := by decide +kernel
theorem d_MO_check_397 : decode m_MO_check.2.1 397 = .ok (.iaload, 1) := by decide +kernel
theorem d_MO_check_398 : decode m_MO_check.2.1 398 = .ok (.aload_n 0, 1) := by decide +kernel
theorem d_MO_check_399 : decode m_MO_check.2.1 399 = .ok (.getfield 25, 3) := by decide +kernel
theorem d_MO_check_402 : decode m_MO_check.2.1 402 = .ok (.iconst 0, 1) := by decide +kernel
theorem d_MO_check_403 : decode m_MO_check.2.1 403 = .ok (.iaload, 1) := by decide +kernel
theorem d_MO_check_404 : decode m_MO_check.2.1 404 = .ok (.iadd, 1) := by decide +kernel
theorem d_MO_check_405 : decode m_MO_check.2.1 405 = .ok (.invokestatic 79, 3) := by decide +kernel
theorem d_MO_check_408 : decode m_MO_check.2.1 408 = .ok (.putfield 123, 3) := by decide +kernel
theorem d_MO_check_411 : decode m_MO_check.2.1 411 = .ok (.iload_n 1, 1) := by decide +kernel
theorem d_MO_check_412 : decode m_MO_check.2.1 412 = .ok (.ifCond .ne 8, 3) := by decide +kernel
theorem d_MO_check_415 : decode m_MO_check.2.1 415 = .ok (.bipush (-2), 2) := by decide +kernel
theorem d_MO_check_417 : decode m_MO_check.2.1 417 = .ok (.goto 7, 3) := by decide +kernel
theorem d_MO_check_420 : decode m_MO_check.2.1 420 = .ok (.aload_n 0, 1) := by decide +kernel
theorem d_MO_check_421 : decode m_MO_check.2.1 421 = .ok (.getfield 72, 3) := by decide +kernel
theorem d_MO_check_424 : decode m_MO_check.2.1 424 = .ok (.ireturn, 1) := by decide +kernel
theorem d_law_0 : decode m_law.2.1 0 = .ok (.new 7, 3) := by decide +kernel
theorem d_law_3 : decode m_law.2.1 3 = .ok (.dup, 1) := by decide +kernel
theorem d_law_4 : decode m_law.2.1 4 = .ok (.invokespecial 9, 3) := by decide +kernel
theorem d_law_7 : decode m_law.2.1 7 = .ok (.astore_n 1, 1) := by decide +kernel
theorem d_law_8 : decode m_law.2.1 8 = .ok (.new 10, 3) := by decide +kernel
theorem d_law_11 : decode m_law.2.1 11 = .ok (.dup, 1) := by decide +kernel
theorem d_law_12 : decode m_law.2.1 12 = .ok (.invokespecial 12, 3) := by decide +kernel
theorem d_law_15 : decode m_law.2.1 15 = .ok (.astore_n 2, 1) := by decide +kernel
theorem d_law_16 : decode m_law.2.1 16 = .ok (.iconst 0, 1) := by decide +kernel
theorem d_law_17 : decode m_law.2.1 17 = .ok (.istore_n 3, 1) := by decide +kernel
theorem d_law_18 : decode m_law.2.1 18 = .ok (.iload_n 3, 1) := by decide +kernel
theorem d_law_19 : decode m_law.2.1 19 = .ok (.aload_n 0, 1) := by decide +kernel
theorem d_law_20 : decode m_law.2.1 20 = .ok (.arraylength, 1) := by decide +kernel
theorem d_law_21 : decode m_law.2.1 21 = .ok (.iconst 3, 1) := by decide +kernel
theorem d_law_22 : decode m_law.2.1 22 = .ok (.isub, 1) := by decide +kernel
theorem d_law_23 : decode m_law.2.1 23 = .ok (.if_icmp .gt 368, 3) := by decide +kernel
theorem d_law_26 : decode m_law.2.1 26 = .ok (.aload_n 0, 1) := by decide +kernel
theorem d_law_27 : decode m_law.2.1 27 = .ok (.iload_n 3, 1) := by decide +kernel
theorem d_law_28 : decode m_law.2.1 28 = .ok (.iaload, 1) := by decide +kernel
theorem d_law_29 : decode m_law.2.1 29 = .ok (.bipush 15, 2) := by decide +kernel
theorem d_law_31 : decode m_law.2.1 31 = .ok (.iand, 1) := by decide +kernel
theorem d_law_32 : decode m_law.2.1 32 = .ok (.tableswitch 353 0 12 #[68, 91, 104, 117, 130, 153, 166, 189, 238, 271, 284, 307, 330], 68) := by decide +kernel
theorem d_law_100 : decode m_law.2.1 100 = .ok (.aload_n 1, 1) := by decide +kernel
theorem d_law_101 : decode m_law.2.1 101 = .ok (.aload_n 0, 1) := by decide +kernel
theorem d_law_102 : decode m_law.2.1 102 = .ok (.iload_n 3, 1) := by decide +kernel
theorem d_law_103 : decode m_law.2.1 103 = .ok (.iconst 1, 1) := by decide +kernel
theorem d_law_104 : decode m_law.2.1 104 = .ok (.iadd, 1) := by decide +kernel
theorem d_law_105 : decode m_law.2.1 105 = .ok (.iaload, 1) := by decide +kernel
theorem d_law_106 : decode m_law.2.1 106 = .ok (.invokevirtual 13, 3) := by decide +kernel
theorem d_law_109 : decode m_law.2.1 109 = .ok (.aload_n 2, 1) := by decide +kernel
theorem d_law_110 : decode m_law.2.1 110 = .ok (.aload_n 0, 1) := by decide +kernel
theorem d_law_111 : decode m_law.2.1 111 = .ok (.iload_n 3, 1) := by decide +kernel
theorem d_law_112 : decode m_law.2.1 112 = .ok (.iconst 1, 1) := by decide +kernel
theorem d_law_113 : decode m_law.2.1 113 = .ok (.iadd, 1) := by decide +kernel
theorem d_law_114 : decode m_law.2.1 114 = .ok (.iaload, 1) := by decide +kernel
theorem d_law_115 : decode m_law.2.1 115 = .ok (.invokevirtual 17, 3) := by decide +kernel
theorem d_law_118 : decode m_law.2.1 118 = .ok (.if_icmp .eq 267, 3) := by decide +kernel
theorem d_law_121 : decode m_law.2.1 121 = .ok (.iconst 0, 1) := by decide +kernel
theorem d_law_122 : decode m_law.2.1 122 = .ok (.ireturn, 1) := by decide +kernel
theorem d_law_123 : decode m_law.2.1 123 = .ok (.aload_n 1, 1) := by decide +kernel
theorem d_law_124 : decode m_law.2.1 124 = .ok (.invokevirtual 18, 3) := by decide +kernel
theorem d_law_127 : decode m_law.2.1 127 = .ok (.aload_n 2, 1) := by decide +kernel
theorem d_law_128 : decode m_law.2.1 128 = .ok (.invokevirtual 22, 3) := by decide +kernel
theorem d_law_131 : decode m_law.2.1 131 = .ok (.if_icmp .eq 254, 3) := by decide +kernel
theorem d_law_134 : decode m_law.2.1 134 = .ok (.iconst 0, 1) := by decide +kernel
theorem d_law_135 : decode m_law.2.1 135 = .ok (.ireturn, 1) := by decide +kernel
theorem d_law_136 : decode m_law.2.1 136 = .ok (.aload_n 1, 1) := by decide +kernel
theorem d_law_137 : decode m_law.2.1 137 = .ok (.invokevirtual 23, 3) := by decide +kernel
theorem d_law_140 : decode m_law.2.1 140 = .ok (.aload_n 2, 1) := by decide +kernel
theorem d_law_141 : decode m_law.2.1 141 = .ok (.invokevirtual 26, 3) := by decide +kernel
theorem d_law_144 : decode m_law.2.1 144 = .ok (.if_icmp .eq 241, 3) := by decide +kernel
theorem d_law_147 : decode m_law.2.1 147 = .ok (.iconst 0, 1) := by decide +kernel
theorem d_law_148 : decode m_law.2.1 148 = .ok (.ireturn, 1) := by decide +kernel
theorem d_law_149 : decode m_law.2.1 149 = .ok (.aload_n 1, 1) := by decide +kernel
theorem d_law_150 : decode m_law.2.1 150 = .ok (.invokevirtual 27, 3) := by decide +kernel
theorem d_law_153 : decode m_law.2.1 153 = .ok (.aload_n 2, 1) := by decide +kernel
theorem d_law_154 : decode m_law.2.1 154 = .ok (.invokevirtual 30, 3) := by decide +kernel
theorem d_law_157 : decode m_law.2.1 157 = .ok (.if_icmp .eq 228, 3) := by decide +kernel
theorem d_law_160 : decode m_law.2.1 160 = .ok (.iconst 0, 1) := by decide +kernel
theorem d_law_161 : decode m_law.2.1 161 = .ok (.ireturn, 1) := by decide +kernel
theorem d_law_162 : decode m_law.2.1 162 = .ok (.aload_n 1, 1) := by decide +kernel
theorem d_law_163 : decode m_law.2.1 163 = .ok (.aload_n 0, 1) := by decide +kernel
theorem d_law_164 : decode m_law.2.1 164 = .ok (.iload_n 3, 1) := by decide +kernel
theorem d_law_165 : decode m_law.2.1 165 = .ok (.iconst 1, 1) := by decide +kernel
theorem d_law_166 : decode m_law.2.1 166 = .ok (.iadd, 1) := by decide +kernel
theorem d_law_167 : decode m_law.2.1 167 = .ok (.iaload, 1) := by decide +kernel
theorem d_law_168 : decode m_law.2.1 168 = .ok (.invokevirtual 31, 3) := by decide +kernel
theorem d_law_171 : decode m_law.2.1 171 = .ok (.aload_n 2, 1) := by decide +kernel
theorem d_law_172 : decode m_law.2.1 172 = .ok (.aload_n 0, 1) := by decide +kernel
theorem d_law_173 : decode m_law.2.1 173 = .ok (.iload_n 3, 1) := by decide +kernel
theorem d_law_174 : decode m_law.2.1 174 = .ok (.iconst 1, 1) := by decide +kernel
theorem d_law_175 : decode m_law.2.1 175 = .ok (.iadd, 1) := by decide +kernel
theorem d_law_176 : decode m_law.2.1 176 = .ok (.iaload, 1) := by decide +kernel
theorem d_law_177 : decode m_law.2.1 177 = .ok (.invokevirtual 34, 3) := by decide +kernel
theorem d_law_180 : decode m_law.2.1 180 = .ok (.if_icmp .eq 205, 3) := by decide +kernel
theorem d_law_183 : decode m_law.2.1 183 = .ok (.iconst 0, 1) := by decide +kernel
theorem d_law_184 : decode m_law.2.1 184 = .ok (.ireturn, 1) := by decide +kernel
theorem d_law_185 : decode m_law.2.1 185 = .ok (.aload_n 1, 1) := by decide +kernel
theorem d_law_186 : decode m_law.2.1 186 = .ok (.invokevirtual 35, 3) := by decide +kernel
theorem d_law_189 : decode m_law.2.1 189 = .ok (.aload_n 2, 1) := by decide +kernel
theorem d_law_190 : decode m_law.2.1 190 = .ok (.invokevirtual 38, 3) := by decide +kernel
theorem d_law_193 : decode m_law.2.1 193 = .ok (.if_icmp .eq 192, 3) := by decide +kernel
theorem d_law_196 : decode m_law.2.1 196 = .ok (.iconst 0, 1) := by decide +kernel
theorem d_law_197 : decode m_law.2.1 197 = .ok (.ireturn, 1) := by decide +kernel
theorem d_law_198 : decode m_law.2.1 198 = .ok (.aload_n 1, 1) := by decide +kernel
theorem d_law_199 : decode m_law.2.1 199 = .ok (.aload_n 0, 1) := by decide +kernel
theorem d_law_200 : decode m_law.2.1 200 = .ok (.iload_n 3, 1) := by decide +kernel
theorem d_law_201 : decode m_law.2.1 201 = .ok (.iconst 1, 1) := by decide +kernel
theorem d_law_202 : decode m_law.2.1 202 = .ok (.iadd, 1) := by decide +kernel
theorem d_law_203 : decode m_law.2.1 203 = .ok (.iaload, 1) := by decide +kernel
theorem d_law_204 : decode m_law.2.1 204 = .ok (.invokevirtual 39, 3) := by decide +kernel
theorem d_law_207 : decode m_law.2.1 207 = .ok (.aload_n 2, 1) := by decide +kernel
theorem d_law_208 : decode m_law.2.1 208 = .ok (.aload_n 0, 1) := by decide +kernel
theorem d_law_209 : decode m_law.2.1 209 = .ok (.iload_n 3, 1) := by decide +kernel
theorem d_law_210 : decode m_law.2.1 210 = .ok (.iconst 1, 1) := by decide +kernel
theorem d_law_211 : decode m_law.2.1 211 = .ok (.iadd, 1) := by decide +kernel
theorem d_law_212 : decode m_law.2.1 212 = .ok (.iaload, 1) := by decide +kernel
theorem d_law_213 : decode m_law.2.1 213 = .ok (.invokevirtual 42, 3) := by decide +kernel
theorem d_law_216 : decode m_law.2.1 216 = .ok (.if_icmp .eq 169, 3) := by decide +kernel
theorem d_law_219 : decode m_law.2.1 219 = .ok (.iconst 0, 1) := by decide +kernel
theorem d_law_220 : decode m_law.2.1 220 = .ok (.ireturn, 1) := by decide +kernel
theorem d_law_221 : decode m_law.2.1 221 = .ok (.aload_n 1, 1) := by decide +kernel
theorem d_law_222 : decode m_law.2.1 222 = .ok (.aload_n 0, 1) := by decide +kernel
theorem d_law_223 : decode m_law.2.1 223 = .ok (.iload_n 3, 1) := by decide +kernel
theorem d_law_224 : decode m_law.2.1 224 = .ok (.iconst 1, 1) := by decide +kernel
theorem d_law_225 : decode m_law.2.1 225 = .ok (.iadd, 1) := by decide +kernel
theorem d_law_226 : decode m_law.2.1 226 = .ok (.iaload, 1) := by decide +kernel
theorem d_law_227 : decode m_law.2.1 227 = .ok (.aload_n 0, 1) := by decide +kernel
theorem d_law_228 : decode m_law.2.1 228 = .ok (.iload_n 3, 1) := by decide +kernel
theorem d_law_229 : decode m_law.2.1 229 = .ok (.iconst 2, 1) := by decide +kernel
theorem d_law_230 : decode m_law.2.1 230 = .ok (.iadd, 1) := by decide +kernel
theorem d_law_231 : decode m_law.2.1 231 = .ok (.iaload, 1) := by decide +kernel
theorem d_law_232 : decode m_law.2.1 232 = .ok (.ifCond .eq 7, 3) := by decide +kernel
theorem d_law_235 : decode m_law.2.1 235 = .ok (.iconst 1, 1) := by decide +kernel
theorem d_law_236 : decode m_law.2.1 236 = .ok (.goto 4, 3) := by decide +kernel
theorem d_law_239 : decode m_law.2.1 239 = .ok (.iconst 0, 1) := by decide +kernel
theorem d_law_240 : decode m_law.2.1 240 = .ok (.invokevirtual 43, 3) := by decide +kernel
theorem d_law_243 : decode m_law.2.1 243 = .ok (.aload_n 2, 1) := by decide +kernel
theorem d_law_244 : decode m_law.2.1 244 = .ok (.aload_n 0, 1) := by decide +kernel
theorem d_law_245 : decode m_law.2.1 245 = .ok (.iload_n 3, 1) := by decide +kernel
theorem d_law_246 : decode m_law.2.1 246 = .ok (.iconst 1, 1) := by decide +kernel
theorem d_law_247 : decode m_law.2.1 247 = .ok (.iadd, 1) := by decide +kernel
theorem d_law_248 : decode m_law.2.1 248 = .ok (.iaload, 1) := by decide +kernel
theorem d_law_249 : decode m_law.2.1 249 = .ok (.aload_n 0, 1) := by decide +kernel
theorem d_law_250 : decode m_law.2.1 250 = .ok (.iload_n 3, 1) := by decide +kernel
theorem d_law_251 : decode m_law.2.1 251 = .ok (.iconst 2, 1) := by decide +kernel
theorem d_law_252 : decode m_law.2.1 252 = .ok (.iadd, 1) := by decide +kernel
theorem d_law_253 : decode m_law.2.1 253 = .ok (.iaload, 1) := by decide +kernel
theorem d_law_254 : decode m_law.2.1 254 = .ok (.ifCond .eq 7, 3) := by decide +kernel
theorem d_law_257 : decode m_law.2.1 257 = .ok (.iconst 1, 1) := by decide +kernel
theorem d_law_258 : decode m_law.2.1 258 = .ok (.goto 4, 3) := by decide +kernel
theorem d_law_261 : decode m_law.2.1 261 = .ok (.iconst 0, 1) := by decide +kernel
theorem d_law_262 : decode m_law.2.1 262 = .ok (.invokevirtual 47, 3) := by decide +kernel
theorem d_law_265 : decode m_law.2.1 265 = .ok (.if_icmp .eq 120, 3) := by decide +kernel
theorem d_law_268 : decode m_law.2.1 268 = .ok (.iconst 0, 1) := by decide +kernel
theorem d_law_269 : decode m_law.2.1 269 = .ok (.ireturn, 1) := by decide +kernel
theorem d_law_270 : decode m_law.2.1 270 = .ok (.aload_n 1, 1) := by decide +kernel
theorem d_law_271 : decode m_law.2.1 271 = .ok (.aload_n 0, 1) := by decide +kernel
theorem d_law_272 : decode m_law.2.1 272 = .ok (.iload_n 3, 1) := by decide +kernel
theorem d_law_273 : decode m_law.2.1 273 = .ok (.iconst 1, 1) := by decide +kernel
theorem d_law_274 : decode m_law.2.1 274 = .ok (.iadd, 1) := by decide +kernel
theorem d_law_275 : decode m_law.2.1 275 = .ok (.iaload, 1) := by decide +kernel
theorem d_law_276 : decode m_law.2.1 276 = .ok (.aload_n 0, 1) := by decide +kernel
theorem d_law_277 : decode m_law.2.1 277 = .ok (.iload_n 3, 1) := by decide +kernel
theorem d_law_278 : decode m_law.2.1 278 = .ok (.iconst 2, 1) := by decide +kernel
theorem d_law_279 : decode m_law.2.1 279 = .ok (.iadd, 1) := by decide +kernel
theorem d_law_280 : decode m_law.2.1 280 = .ok (.iaload, 1) := by decide +kernel
theorem d_law_281 : decode m_law.2.1 281 = .ok (.invokevirtual 48, 3) := by decide +kernel
theorem d_law_284 : decode m_law.2.1 284 = .ok (.aload_n 2, 1) := by decide +kernel
theorem d_law_285 : decode m_law.2.1 285 = .ok (.aload_n 0, 1) := by decide +kernel
theorem d_law_286 : decode m_law.2.1 286 = .ok (.iload_n 3, 1) := by decide +kernel
theorem d_law_287 : decode m_law.2.1 287 = .ok (.iconst 1, 1) := by decide +kernel
theorem d_law_288 : decode m_law.2.1 288 = .ok (.iadd, 1) := by decide +kernel
theorem d_law_289 : decode m_law.2.1 289 = .ok (.iaload, 1) := by decide +kernel
theorem d_law_290 : decode m_law.2.1 290 = .ok (.aload_n 0, 1) := by decide +kernel
theorem d_law_291 : decode m_law.2.1 291 = .ok (.iload_n 3, 1) := by decide +kernel
theorem d_law_292 : decode m_law.2.1 292 = .ok (.iconst 2, 1) := by decide +kernel
theorem d_law_293 : decode m_law.2.1 293 = .ok (.iadd, 1) := by decide +kernel
theorem d_law_294 : decode m_law.2.1 294 = .ok (.iaload, 1) := by decide +kernel
theorem d_law_295 : decode m_law.2.1 295 = .ok (.invokevirtual 52, 3) := by decide +kernel
theorem d_law_298 : decode m_law.2.1 298 = .ok (.if_icmp .eq 87, 3) := by decide +kernel
theorem d_law_301 : decode m_law.2.1 301 = .ok (.iconst 0, 1) := by decide +kernel
theorem d_law_302 : decode m_law.2.1 302 = .ok (.ireturn, 1) := by decide +kernel
theorem d_law_303 : decode m_law.2.1 303 = .ok (.aload_n 1, 1) := by decide +kernel
theorem d_law_304 : decode m_law.2.1 304 = .ok (.invokevirtual 53, 3) := by decide +kernel
theorem d_law_307 : decode m_law.2.1 307 = .ok (.aload_n 2, 1) := by decide +kernel
theorem d_law_308 : decode m_law.2.1 308 = .ok (.invokevirtual 56, 3) := by decide +kernel
theorem d_law_311 : decode m_law.2.1 311 = .ok (.if_icmp .eq 74, 3) := by decide +kernel
theorem d_law_314 : decode m_law.2.1 314 = .ok (.iconst 0, 1) := by decide +kernel
theorem d_law_315 : decode m_law.2.1 315 = .ok (.ireturn, 1) := by decide +kernel
theorem d_law_316 : decode m_law.2.1 316 = .ok (.aload_n 1, 1) := by decide +kernel
theorem d_law_317 : decode m_law.2.1 317 = .ok (.aload_n 0, 1) := by decide +kernel
theorem d_law_318 : decode m_law.2.1 318 = .ok (.iload_n 3, 1) := by decide +kernel
theorem d_law_319 : decode m_law.2.1 319 = .ok (.iconst 1, 1) := by decide +kernel
theorem d_law_320 : decode m_law.2.1 320 = .ok (.iadd, 1) := by decide +kernel
theorem d_law_321 : decode m_law.2.1 321 = .ok (.iaload, 1) := by decide +kernel
theorem d_law_322 : decode m_law.2.1 322 = .ok (.invokevirtual 57, 3) := by decide +kernel
theorem d_law_325 : decode m_law.2.1 325 = .ok (.aload_n 2, 1) := by decide +kernel
theorem d_law_326 : decode m_law.2.1 326 = .ok (.aload_n 0, 1) := by decide +kernel
theorem d_law_327 : decode m_law.2.1 327 = .ok (.iload_n 3, 1) := by decide +kernel
theorem d_law_328 : decode m_law.2.1 328 = .ok (.iconst 1, 1) := by decide +kernel
theorem d_law_329 : decode m_law.2.1 329 = .ok (.iadd, 1) := by decide +kernel
theorem d_law_330 : decode m_law.2.1 330 = .ok (.iaload, 1) := by decide +kernel
theorem d_law_331 : decode m_law.2.1 331 = .ok (.invokevirtual 60, 3) := by decide +kernel
theorem d_law_334 : decode m_law.2.1 334 = .ok (.if_icmp .eq 51, 3) := by decide +kernel
theorem d_law_337 : decode m_law.2.1 337 = .ok (.iconst 0, 1) := by decide +kernel
theorem d_law_338 : decode m_law.2.1 338 = .ok (.ireturn, 1) := by decide +kernel
theorem d_law_339 : decode m_law.2.1 339 = .ok (.aload_n 1, 1) := by decide +kernel
theorem d_law_340 : decode m_law.2.1 340 = .ok (.aload_n 0, 1) := by decide +kernel
theorem d_law_341 : decode m_law.2.1 341 = .ok (.iload_n 3, 1) := by decide +kernel
theorem d_law_342 : decode m_law.2.1 342 = .ok (.iconst 1, 1) := by decide +kernel
theorem d_law_343 : decode m_law.2.1 343 = .ok (.iadd, 1) := by decide +kernel
theorem d_law_344 : decode m_law.2.1 344 = .ok (.iaload, 1) := by decide +kernel
theorem d_law_345 : decode m_law.2.1 345 = .ok (.invokevirtual 61, 3) := by decide +kernel
theorem d_law_348 : decode m_law.2.1 348 = .ok (.aload_n 2, 1) := by decide +kernel
theorem d_law_349 : decode m_law.2.1 349 = .ok (.aload_n 0, 1) := by decide +kernel
theorem d_law_350 : decode m_law.2.1 350 = .ok (.iload_n 3, 1) := by decide +kernel
theorem d_law_351 : decode m_law.2.1 351 = .ok (.iconst 1, 1) := by decide +kernel
theorem d_law_352 : decode m_law.2.1 352 = .ok (.iadd, 1) := by decide +kernel
theorem d_law_353 : decode m_law.2.1 353 = .ok (.iaload, 1) := by decide +kernel
theorem d_law_354 : decode m_law.2.1 354 = .ok (.invokevirtual 64, 3) := by decide +kernel
theorem d_law_357 : decode m_law.2.1 357 = .ok (.if_icmp .eq 28, 3) := by decide +kernel
theorem d_law_360 : decode m_law.2.1 360 = .ok (.iconst 0, 1) := by decide +kernel
theorem d_law_361 : decode m_law.2.1 361 = .ok (.ireturn, 1) := by decide +kernel
theorem d_law_362 : decode m_law.2.1 362 = .ok (.aload_n 1, 1) := by decide +kernel
theorem d_law_363 : decode m_law.2.1 363 = .ok (.aload_n 0, 1) := by decide +kernel
theorem d_law_364 : decode m_law.2.1 364 = .ok (.iload_n 3, 1) := by decide +kernel
theorem d_law_365 : decode m_law.2.1 365 = .ok (.iconst 1, 1) := by decide +kernel
theorem d_law_366 : decode m_law.2.1 366 = .ok (.iadd, 1) := by decide +kernel
theorem d_law_367 : decode m_law.2.1 367 = .ok (.iaload, 1) := by decide +kernel
theorem d_law_368 : decode m_law.2.1 368 = .ok (.invokevirtual 65, 3) := by decide +kernel
theorem d_law_371 : decode m_law.2.1 371 = .ok (.aload_n 2, 1) := by decide +kernel
theorem d_law_372 : decode m_law.2.1 372 = .ok (.aload_n 0, 1) := by decide +kernel
theorem d_law_373 : decode m_law.2.1 373 = .ok (.iload_n 3, 1) := by decide +kernel
theorem d_law_374 : decode m_law.2.1 374 = .ok (.iconst 1, 1) := by decide +kernel
theorem d_law_375 : decode m_law.2.1 375 = .ok (.iadd, 1) := by decide +kernel
theorem d_law_376 : decode m_law.2.1 376 = .ok (.iaload, 1) := by decide +kernel
theorem d_law_377 : decode m_law.2.1 377 = .ok (.invokevirtual 68, 3) := by decide +kernel
theorem d_law_380 : decode m_law.2.1 380 = .ok (.if_icmp .eq 5, 3) := by decide +kernel
theorem d_law_383 : decode m_law.2.1 383 = .ok (.iconst 0, 1) := by decide +kernel
theorem d_law_384 : decode m_law.2.1 384 = .ok (.ireturn, 1) := by decide +kernel
theorem d_law_385 : decode m_law.2.1 385 = .ok (.iinc 3 3, 3) := by decide +kernel
theorem d_law_388 : decode m_law.2.1 388 = .ok (.goto (-370), 3) := by decide +kernel
theorem d_law_391 : decode m_law.2.1 391 = .ok (.iconst 1, 1) := by decide +kernel
theorem d_law_392 : decode m_law.2.1 392 = .ok (.ireturn, 1) := by decide +kernel
