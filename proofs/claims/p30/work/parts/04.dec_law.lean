theorem dL_cell_0 : decode cL_cell 0 = .ok (.iload_n 1, 1) := by decide +kernel
theorem dL_cell_1 : decode cL_cell 1 = .ok (.aload_n 0, 1) := by decide +kernel
theorem dL_cell_2 : decode cL_cell 2 = .ok (.arraylength, 1) := by decide +kernel
theorem dL_cell_3 : decode cL_cell 3 = .ok (.if_icmp .ge 9, 3) := by decide +kernel
theorem dL_cell_6 : decode cL_cell 6 = .ok (.aload_n 0, 1) := by decide +kernel
theorem dL_cell_7 : decode cL_cell 7 = .ok (.iload_n 1, 1) := by decide +kernel
theorem dL_cell_8 : decode cL_cell 8 = .ok (.iaload, 1) := by decide +kernel
theorem dL_cell_9 : decode cL_cell 9 = .ok (.goto 11, 3) := by decide +kernel
theorem dL_cell_12 : decode cL_cell 12 = .ok (.sipush 7919, 3) := by decide +kernel
theorem dL_cell_15 : decode cL_cell 15 = .ok (.iload_n 1, 1) := by decide +kernel
theorem dL_cell_16 : decode cL_cell 16 = .ok (.imul, 1) := by decide +kernel
theorem dL_cell_17 : decode cL_cell 17 = .ok (.bipush 13, 2) := by decide +kernel
theorem dL_cell_19 : decode cL_cell 19 = .ok (.iadd, 1) := by decide +kernel
theorem dL_cell_20 : decode cL_cell 20 = .ok (.ldc 7, 2) := by decide +kernel
theorem dL_cell_22 : decode cL_cell 22 = .ok (.iand, 1) := by decide +kernel
theorem dL_cell_23 : decode cL_cell 23 = .ok (.ireturn, 1) := by decide +kernel
theorem dL_put_0 : decode cL_put 0 = .ok (.aload_n 0, 1) := by decide +kernel
theorem dL_put_1 : decode cL_put 1 = .ok (.iload_n 1, 1) := by decide +kernel
theorem dL_put_2 : decode cL_put 2 = .ok (.i2l, 1) := by decide +kernel
theorem dL_put_3 : decode cL_put 3 = .ok (.invokevirtual 8, 3) := by decide +kernel
theorem dL_put_6 : decode cL_put 6 = .ok (.ifCond .le 7, 3) := by decide +kernel
theorem dL_put_9 : decode cL_put 9 = .ok (.iconst 1, 1) := by decide +kernel
theorem dL_put_10 : decode cL_put 10 = .ok (.goto 4, 3) := by decide +kernel
theorem dL_put_13 : decode cL_put 13 = .ok (.iconst 0, 1) := by decide +kernel
theorem dL_put_14 : decode cL_put 14 = .ok (.ireturn, 1) := by decide +kernel
theorem dL_ring_0 : decode cL_ring 0 = .ok (.iconst 3, 1) := by decide +kernel
theorem dL_ring_1 : decode cL_ring 1 = .ok (.aload_n 1, 1) := by decide +kernel
theorem dL_ring_2 : decode cL_ring 2 = .ok (.iload_n 2, 1) := by decide +kernel
theorem dL_ring_3 : decode cL_ring 3 = .ok (.invokestatic 14, 3) := by decide +kernel
theorem dL_ring_6 : decode cL_ring 6 = .ok (.iload_n 3, 1) := by decide +kernel
theorem dL_ring_7 : decode cL_ring 7 = .ok (.iconst 2, 1) := by decide +kernel
theorem dL_ring_8 : decode cL_ring 8 = .ok (.isub, 1) := by decide +kernel
theorem dL_ring_9 : decode cL_ring 9 = .ok (.irem, 1) := by decide +kernel
theorem dL_ring_10 : decode cL_ring 10 = .ok (.iadd, 1) := by decide +kernel
theorem dL_ring_11 : decode cL_ring 11 = .ok (.istore 6, 2) := by decide +kernel
theorem dL_ring_13 : decode cL_ring 13 = .ok (.iconst 1, 1) := by decide +kernel
theorem dL_ring_14 : decode cL_ring 14 = .ok (.istore 7, 2) := by decide +kernel
theorem dL_ring_16 : decode cL_ring 16 = .ok (.aload_n 1, 1) := by decide +kernel
theorem dL_ring_17 : decode cL_ring 17 = .ok (.iload_n 2, 1) := by decide +kernel
theorem dL_ring_18 : decode cL_ring 18 = .ok (.invokestatic 14, 3) := by decide +kernel
theorem dL_ring_21 : decode cL_ring 21 = .ok (.bipush 16, 2) := by decide +kernel
theorem dL_ring_23 : decode cL_ring 23 = .ok (.idiv, 1) := by decide +kernel
theorem dL_ring_24 : decode cL_ring 24 = .ok (.iconst 2, 1) := by decide +kernel
theorem dL_ring_25 : decode cL_ring 25 = .ok (.irem, 1) := by decide +kernel
theorem dL_ring_26 : decode cL_ring 26 = .ok (.ifCond .ne 7, 3) := by decide +kernel
theorem dL_ring_29 : decode cL_ring 29 = .ok (.iconst 1, 1) := by decide +kernel
theorem dL_ring_30 : decode cL_ring 30 = .ok (.goto 4, 3) := by decide +kernel
theorem dL_ring_33 : decode cL_ring 33 = .ok (.iconst 0, 1) := by decide +kernel
theorem dL_ring_34 : decode cL_ring 34 = .ok (.istore 8, 2) := by decide +kernel
theorem dL_ring_36 : decode cL_ring 36 = .ok (.iconst 0, 1) := by decide +kernel
theorem dL_ring_37 : decode cL_ring 37 = .ok (.istore 9, 2) := by decide +kernel
theorem dL_ring_39 : decode cL_ring 39 = .ok (.iload 9, 2) := by decide +kernel
theorem dL_ring_41 : decode cL_ring 41 = .ok (.iload 6, 2) := by decide +kernel
theorem dL_ring_43 : decode cL_ring 43 = .ok (.if_icmp .ge 141, 3) := by decide +kernel
theorem dL_ring_46 : decode cL_ring 46 = .ok (.aload_n 1, 1) := by decide +kernel
theorem dL_ring_47 : decode cL_ring 47 = .ok (.iload_n 2, 1) := by decide +kernel
theorem dL_ring_48 : decode cL_ring 48 = .ok (.invokestatic 14, 3) := by decide +kernel
theorem dL_ring_51 : decode cL_ring 51 = .ok (.bipush 8, 2) := by decide +kernel
theorem dL_ring_53 : decode cL_ring 53 = .ok (.iconst 3, 1) := by decide +kernel
theorem dL_ring_54 : decode cL_ring 54 = .ok (.iload 9, 2) := by decide +kernel
theorem dL_ring_56 : decode cL_ring 56 = .ok (.imul, 1) := by decide +kernel
theorem dL_ring_57 : decode cL_ring 57 = .ok (.iadd, 1) := by decide +kernel
theorem dL_ring_58 : decode cL_ring 58 = .ok (.ishr, 1) := by decide +kernel
theorem dL_ring_59 : decode cL_ring 59 = .ok (.bipush 7, 2) := by decide +kernel
theorem dL_ring_61 : decode cL_ring 61 = .ok (.iand, 1) := by decide +kernel
theorem dL_ring_62 : decode cL_ring 62 = .ok (.istore 10, 2) := by decide +kernel
theorem dL_ring_64 : decode cL_ring 64 = .ok (.aload 4, 2) := by decide +kernel
theorem dL_ring_66 : decode cL_ring 66 = .ok (.iload 9, 2) := by decide +kernel
theorem dL_ring_68 : decode cL_ring 68 = .ok (.iload 10, 2) := by decide +kernel
theorem dL_ring_70 : decode cL_ring 70 = .ok (.iconst 5, 1) := by decide +kernel
theorem dL_ring_71 : decode cL_ring 71 = .ok (.if_icmp .ge 7, 3) := by decide +kernel
theorem dL_ring_74 : decode cL_ring 74 = .ok (.iconst 0, 1) := by decide +kernel
theorem dL_ring_75 : decode cL_ring 75 = .ok (.goto 34, 3) := by decide +kernel
theorem dL_ring_78 : decode cL_ring 78 = .ok (.iload 10, 2) := by decide +kernel
theorem dL_ring_80 : decode cL_ring 80 = .ok (.iconst 5, 1) := by decide +kernel
theorem dL_ring_81 : decode cL_ring 81 = .ok (.if_icmp .ne 7, 3) := by decide +kernel
theorem dL_ring_84 : decode cL_ring 84 = .ok (.iconst 2, 1) := by decide +kernel
theorem dL_ring_85 : decode cL_ring 85 = .ok (.goto 24, 3) := by decide +kernel
theorem dL_ring_88 : decode cL_ring 88 = .ok (.iload 8, 2) := by decide +kernel
theorem dL_ring_90 : decode cL_ring 90 = .ok (.ifCond .eq 7, 3) := by decide +kernel
theorem dL_ring_93 : decode cL_ring 93 = .ok (.iconst 0, 1) := by decide +kernel
theorem dL_ring_94 : decode cL_ring 94 = .ok (.goto 15, 3) := by decide +kernel
theorem dL_ring_97 : decode cL_ring 97 = .ok (.iload 10, 2) := by decide +kernel
theorem dL_ring_99 : decode cL_ring 99 = .ok (.bipush 6, 2) := by decide +kernel
theorem dL_ring_101 : decode cL_ring 101 = .ok (.if_icmp .ne 7, 3) := by decide +kernel
theorem dL_ring_104 : decode cL_ring 104 = .ok (.iconst 1, 1) := by decide +kernel
theorem dL_ring_105 : decode cL_ring 105 = .ok (.goto 4, 3) := by decide +kernel
theorem dL_ring_108 : decode cL_ring 108 = .ok (.iconst 3, 1) := by decide +kernel
theorem dL_ring_109 : decode cL_ring 109 = .ok (.iastore, 1) := by decide +kernel
theorem dL_ring_110 : decode cL_ring 110 = .ok (.aload 5, 2) := by decide +kernel
theorem dL_ring_112 : decode cL_ring 112 = .ok (.iload 9, 2) := by decide +kernel
theorem dL_ring_114 : decode cL_ring 114 = .ok (.iconst 0, 1) := by decide +kernel
theorem dL_ring_115 : decode cL_ring 115 = .ok (.iastore, 1) := by decide +kernel
theorem dL_ring_116 : decode cL_ring 116 = .ok (.iload 7, 2) := by decide +kernel
theorem dL_ring_118 : decode cL_ring 118 = .ok (.ifCond .eq 57, 3) := by decide +kernel
theorem dL_ring_121 : decode cL_ring 121 = .ok (.aload_n 0, 1) := by decide +kernel
theorem dL_ring_122 : decode cL_ring 122 = .ok (.aload 4, 2) := by decide +kernel
theorem dL_ring_124 : decode cL_ring 124 = .ok (.iload 9, 2) := by decide +kernel
theorem dL_ring_126 : decode cL_ring 126 = .ok (.iaload, 1) := by decide +kernel
theorem dL_ring_127 : decode cL_ring 127 = .ok (.ifCond .ne 8, 3) := by decide +kernel
theorem dL_ring_130 : decode cL_ring 130 = .ok (.bipush 104, 2) := by decide +kernel
theorem dL_ring_132 : decode cL_ring 132 = .ok (.goto 33, 3) := by decide +kernel
theorem dL_ring_135 : decode cL_ring 135 = .ok (.aload 4, 2) := by decide +kernel
theorem dL_ring_137 : decode cL_ring 137 = .ok (.iload 9, 2) := by decide +kernel
theorem dL_ring_139 : decode cL_ring 139 = .ok (.iaload, 1) := by decide +kernel
theorem dL_ring_140 : decode cL_ring 140 = .ok (.iconst 1, 1) := by decide +kernel
theorem dL_ring_141 : decode cL_ring 141 = .ok (.if_icmp .ne 8, 3) := by decide +kernel
theorem dL_ring_144 : decode cL_ring 144 = .ok (.bipush 102, 2) := by decide +kernel
theorem dL_ring_146 : decode cL_ring 146 = .ok (.goto 19, 3) := by decide +kernel
theorem dL_ring_149 : decode cL_ring 149 = .ok (.aload 4, 2) := by decide +kernel
theorem dL_ring_151 : decode cL_ring 151 = .ok (.iload 9, 2) := by decide +kernel
theorem dL_ring_153 : decode cL_ring 153 = .ok (.iaload, 1) := by decide +kernel
theorem dL_ring_154 : decode cL_ring 154 = .ok (.iconst 2, 1) := by decide +kernel
theorem dL_ring_155 : decode cL_ring 155 = .ok (.if_icmp .ne 8, 3) := by decide +kernel
theorem dL_ring_158 : decode cL_ring 158 = .ok (.bipush 101, 2) := by decide +kernel
theorem dL_ring_160 : decode cL_ring 160 = .ok (.goto 5, 3) := by decide +kernel
theorem dL_ring_163 : decode cL_ring 163 = .ok (.bipush 119, 2) := by decide +kernel
theorem dL_ring_165 : decode cL_ring 165 = .ok (.invokestatic 20, 3) := by decide +kernel
theorem dL_ring_168 : decode cL_ring 168 = .ok (.ifCond .eq 7, 3) := by decide +kernel
theorem dL_ring_171 : decode cL_ring 171 = .ok (.iconst 1, 1) := by decide +kernel
theorem dL_ring_172 : decode cL_ring 172 = .ok (.goto 4, 3) := by decide +kernel
theorem dL_ring_175 : decode cL_ring 175 = .ok (.iconst 0, 1) := by decide +kernel
theorem dL_ring_176 : decode cL_ring 176 = .ok (.istore 7, 2) := by decide +kernel
theorem dL_ring_178 : decode cL_ring 178 = .ok (.iinc 9 1, 3) := by decide +kernel
theorem dL_ring_181 : decode cL_ring 181 = .ok (.goto (-142), 3) := by decide +kernel
theorem dL_ring_184 : decode cL_ring 184 = .ok (.aload_n 1, 1) := by decide +kernel
theorem dL_ring_185 : decode cL_ring 185 = .ok (.iload_n 2, 1) := by decide +kernel
theorem dL_ring_186 : decode cL_ring 186 = .ok (.iconst 1, 1) := by decide +kernel
theorem dL_ring_187 : decode cL_ring 187 = .ok (.iadd, 1) := by decide +kernel
theorem dL_ring_188 : decode cL_ring 188 = .ok (.invokestatic 14, 3) := by decide +kernel
theorem dL_ring_191 : decode cL_ring 191 = .ok (.bipush 7, 2) := by decide +kernel
theorem dL_ring_193 : decode cL_ring 193 = .ok (.irem, 1) := by decide +kernel
theorem dL_ring_194 : decode cL_ring 194 = .ok (.istore 9, 2) := by decide +kernel
theorem dL_ring_196 : decode cL_ring 196 = .ok (.iconst 0, 1) := by decide +kernel
theorem dL_ring_197 : decode cL_ring 197 = .ok (.istore 10, 2) := by decide +kernel
theorem dL_ring_199 : decode cL_ring 199 = .ok (.iload 10, 2) := by decide +kernel
theorem dL_ring_201 : decode cL_ring 201 = .ok (.iload 9, 2) := by decide +kernel
theorem dL_ring_203 : decode cL_ring 203 = .ok (.if_icmp .ge 147, 3) := by decide +kernel
theorem dL_ring_206 : decode cL_ring 206 = .ok (.aload_n 1, 1) := by decide +kernel
theorem dL_ring_207 : decode cL_ring 207 = .ok (.iload_n 2, 1) := by decide +kernel
theorem dL_ring_208 : decode cL_ring 208 = .ok (.iconst 1, 1) := by decide +kernel
theorem dL_ring_209 : decode cL_ring 209 = .ok (.iadd, 1) := by decide +kernel
theorem dL_ring_210 : decode cL_ring 210 = .ok (.invokestatic 14, 3) := by decide +kernel
theorem dL_ring_213 : decode cL_ring 213 = .ok (.bipush 8, 2) := by decide +kernel
theorem dL_ring_215 : decode cL_ring 215 = .ok (.idiv, 1) := by decide +kernel
theorem dL_ring_216 : decode cL_ring 216 = .ok (.sipush 7919, 3) := by decide +kernel
theorem dL_ring_219 : decode cL_ring 219 = .ok (.iload 10, 2) := by decide +kernel
theorem dL_ring_221 : decode cL_ring 221 = .ok (.imul, 1) := by decide +kernel
theorem dL_ring_222 : decode cL_ring 222 = .ok (.iconst 1, 1) := by decide +kernel
theorem dL_ring_223 : decode cL_ring 223 = .ok (.aload_n 1, 1) := by decide +kernel
theorem dL_ring_224 : decode cL_ring 224 = .ok (.iload_n 2, 1) := by decide +kernel
theorem dL_ring_225 : decode cL_ring 225 = .ok (.iconst 1, 1) := by decide +kernel
theorem dL_ring_226 : decode cL_ring 226 = .ok (.iadd, 1) := by decide +kernel
theorem dL_ring_227 : decode cL_ring 227 = .ok (.invokestatic 14, 3) := by decide +kernel
theorem dL_ring_230 : decode cL_ring 230 = .ok (.bipush 61, 2) := by decide +kernel
theorem dL_ring_232 : decode cL_ring 232 = .ok (.irem, 1) := by decide +kernel
theorem dL_ring_233 : decode cL_ring 233 = .ok (.iadd, 1) := by decide +kernel
theorem dL_ring_234 : decode cL_ring 234 = .ok (.imul, 1) := by decide +kernel
theorem dL_ring_235 : decode cL_ring 235 = .ok (.iadd, 1) := by decide +kernel
theorem dL_ring_236 : decode cL_ring 236 = .ok (.istore 11, 2) := by decide +kernel
theorem dL_ring_238 : decode cL_ring 238 = .ok (.iload 11, 2) := by decide +kernel
theorem dL_ring_240 : decode cL_ring 240 = .ok (.iload 6, 2) := by decide +kernel
theorem dL_ring_242 : decode cL_ring 242 = .ok (.irem, 1) := by decide +kernel
theorem dL_ring_243 : decode cL_ring 243 = .ok (.istore 12, 2) := by decide +kernel
theorem dL_ring_245 : decode cL_ring 245 = .ok (.iload 12, 2) := by decide +kernel
theorem dL_ring_247 : decode cL_ring 247 = .ok (.iconst 1, 1) := by decide +kernel
theorem dL_ring_248 : decode cL_ring 248 = .ok (.iadd, 1) := by decide +kernel
theorem dL_ring_249 : decode cL_ring 249 = .ok (.iload 11, 2) := by decide +kernel
theorem dL_ring_251 : decode cL_ring 251 = .ok (.bipush 8, 2) := by decide +kernel
theorem dL_ring_253 : decode cL_ring 253 = .ok (.idiv, 1) := by decide +kernel
theorem dL_ring_254 : decode cL_ring 254 = .ok (.iload 6, 2) := by decide +kernel
theorem dL_ring_256 : decode cL_ring 256 = .ok (.iconst 1, 1) := by decide +kernel
theorem dL_ring_257 : decode cL_ring 257 = .ok (.isub, 1) := by decide +kernel
theorem dL_ring_258 : decode cL_ring 258 = .ok (.irem, 1) := by decide +kernel
theorem dL_ring_259 : decode cL_ring 259 = .ok (.iadd, 1) := by decide +kernel
theorem dL_ring_260 : decode cL_ring 260 = .ok (.iload 6, 2) := by decide +kernel
theorem dL_ring_262 : decode cL_ring 262 = .ok (.irem, 1) := by decide +kernel
theorem dL_ring_263 : decode cL_ring 263 = .ok (.istore 13, 2) := by decide +kernel
theorem dL_ring_265 : decode cL_ring 265 = .ok (.aload 5, 2) := by decide +kernel
theorem dL_ring_267 : decode cL_ring 267 = .ok (.iload 12, 2) := by decide +kernel
theorem dL_ring_269 : decode cL_ring 269 = .ok (.dup2, 1) := by decide +kernel
theorem dL_ring_270 : decode cL_ring 270 = .ok (.iaload, 1) := by decide +kernel
theorem dL_ring_271 : decode cL_ring 271 = .ok (.iconst 1, 1) := by decide +kernel
theorem dL_ring_272 : decode cL_ring 272 = .ok (.iload 13, 2) := by decide +kernel
theorem dL_ring_274 : decode cL_ring 274 = .ok (.ishl, 1) := by decide +kernel
theorem dL_ring_275 : decode cL_ring 275 = .ok (.ior, 1) := by decide +kernel
theorem dL_ring_276 : decode cL_ring 276 = .ok (.iastore, 1) := by decide +kernel
theorem dL_ring_277 : decode cL_ring 277 = .ok (.aload 5, 2) := by decide +kernel
theorem dL_ring_279 : decode cL_ring 279 = .ok (.iload 13, 2) := by decide +kernel
theorem dL_ring_281 : decode cL_ring 281 = .ok (.dup2, 1) := by decide +kernel
theorem dL_ring_282 : decode cL_ring 282 = .ok (.iaload, 1) := by decide +kernel
theorem dL_ring_283 : decode cL_ring 283 = .ok (.iconst 1, 1) := by decide +kernel
theorem dL_ring_284 : decode cL_ring 284 = .ok (.iload 12, 2) := by decide +kernel
theorem dL_ring_286 : decode cL_ring 286 = .ok (.ishl, 1) := by decide +kernel
theorem dL_ring_287 : decode cL_ring 287 = .ok (.ior, 1) := by decide +kernel
theorem dL_ring_288 : decode cL_ring 288 = .ok (.iastore, 1) := by decide +kernel
theorem dL_ring_289 : decode cL_ring 289 = .ok (.iload 7, 2) := by decide +kernel
theorem dL_ring_291 : decode cL_ring 291 = .ok (.ifCond .eq 50, 3) := by decide +kernel
theorem dL_ring_294 : decode cL_ring 294 = .ok (.aload_n 0, 1) := by decide +kernel
theorem dL_ring_295 : decode cL_ring 295 = .ok (.iload 10, 2) := by decide +kernel
theorem dL_ring_297 : decode cL_ring 297 = .ok (.ifCond .ne 8, 3) := by decide +kernel
theorem dL_ring_300 : decode cL_ring 300 = .ok (.bipush 59, 2) := by decide +kernel
theorem dL_ring_302 : decode cL_ring 302 = .ok (.goto 5, 3) := by decide +kernel
theorem dL_ring_305 : decode cL_ring 305 = .ok (.bipush 44, 2) := by decide +kernel
theorem dL_ring_307 : decode cL_ring 307 = .ok (.invokestatic 20, 3) := by decide +kernel
theorem dL_ring_310 : decode cL_ring 310 = .ok (.ifCond .eq 31, 3) := by decide +kernel
theorem dL_ring_313 : decode cL_ring 313 = .ok (.aload_n 0, 1) := by decide +kernel
theorem dL_ring_314 : decode cL_ring 314 = .ok (.bipush 48, 2) := by decide +kernel
theorem dL_ring_316 : decode cL_ring 316 = .ok (.iload 12, 2) := by decide +kernel
theorem dL_ring_318 : decode cL_ring 318 = .ok (.iadd, 1) := by decide +kernel
theorem dL_ring_319 : decode cL_ring 319 = .ok (.invokestatic 20, 3) := by decide +kernel
theorem dL_ring_322 : decode cL_ring 322 = .ok (.ifCond .eq 19, 3) := by decide +kernel
theorem dL_ring_325 : decode cL_ring 325 = .ok (.aload_n 0, 1) := by decide +kernel
theorem dL_ring_326 : decode cL_ring 326 = .ok (.bipush 48, 2) := by decide +kernel
theorem dL_ring_328 : decode cL_ring 328 = .ok (.iload 13, 2) := by decide +kernel
theorem dL_ring_330 : decode cL_ring 330 = .ok (.iadd, 1) := by decide +kernel
theorem dL_ring_331 : decode cL_ring 331 = .ok (.invokestatic 20, 3) := by decide +kernel
theorem dL_ring_334 : decode cL_ring 334 = .ok (.ifCond .eq 7, 3) := by decide +kernel
theorem dL_ring_337 : decode cL_ring 337 = .ok (.iconst 1, 1) := by decide +kernel
theorem dL_ring_338 : decode cL_ring 338 = .ok (.goto 4, 3) := by decide +kernel
theorem dL_ring_341 : decode cL_ring 341 = .ok (.iconst 0, 1) := by decide +kernel
theorem dL_ring_342 : decode cL_ring 342 = .ok (.istore 7, 2) := by decide +kernel
theorem dL_ring_344 : decode cL_ring 344 = .ok (.iinc 10 1, 3) := by decide +kernel
theorem dL_ring_347 : decode cL_ring 347 = .ok (.goto (-148), 3) := by decide +kernel
theorem dL_ring_350 : decode cL_ring 350 = .ok (.iload 7, 2) := by decide +kernel
theorem dL_ring_352 : decode cL_ring 352 = .ok (.ifCond .eq 30, 3) := by decide +kernel
theorem dL_ring_355 : decode cL_ring 355 = .ok (.aload_n 0, 1) := by decide +kernel
theorem dL_ring_356 : decode cL_ring 356 = .ok (.iconst 0, 1) := by decide +kernel
theorem dL_ring_357 : decode cL_ring 357 = .ok (.invokevirtual 24, 3) := by decide +kernel
theorem dL_ring_360 : decode cL_ring 360 = .ok (.aload_n 0, 1) := by decide +kernel
theorem dL_ring_361 : decode cL_ring 361 = .ok (.iconst 4, 1) := by decide +kernel
theorem dL_ring_362 : decode cL_ring 362 = .ok (.invokevirtual 28, 3) := by decide +kernel
theorem dL_ring_365 : decode cL_ring 365 = .ok (.if_icmp .ne 17, 3) := by decide +kernel
theorem dL_ring_368 : decode cL_ring 368 = .ok (.aload_n 0, 1) := by decide +kernel
theorem dL_ring_369 : decode cL_ring 369 = .ok (.invokevirtual 31, 3) := by decide +kernel
theorem dL_ring_372 : decode cL_ring 372 = .ok (.iload 6, 2) := by decide +kernel
theorem dL_ring_374 : decode cL_ring 374 = .ok (.if_icmp .ne 8, 3) := by decide +kernel
theorem dL_ring_377 : decode cL_ring 377 = .ok (.iload 6, 2) := by decide +kernel
theorem dL_ring_379 : decode cL_ring 379 = .ok (.goto 4, 3) := by decide +kernel
theorem dL_ring_382 : decode cL_ring 382 = .ok (.iconst (-1), 1) := by decide +kernel
theorem dL_ring_383 : decode cL_ring 383 = .ok (.ireturn, 1) := by decide +kernel
theorem dL_at_0 : decode cL_at 0 = .ok (.iload_n 0, 1) := by decide +kernel
theorem dL_at_1 : decode cL_at 1 = .ok (.iconst 4, 1) := by decide +kernel
theorem dL_at_2 : decode cL_at 2 = .ok (.iload_n 1, 1) := by decide +kernel
theorem dL_at_3 : decode cL_at 3 = .ok (.imul, 1) := by decide +kernel
theorem dL_at_4 : decode cL_at 4 = .ok (.ishr, 1) := by decide +kernel
theorem dL_at_5 : decode cL_at 5 = .ok (.bipush 15, 2) := by decide +kernel
theorem dL_at_7 : decode cL_at 7 = .ok (.iand, 1) := by decide +kernel
theorem dL_at_8 : decode cL_at 8 = .ok (.ireturn, 1) := by decide +kernel
theorem dL_first_0 : decode cL_first 0 = .ok (.iconst 0, 1) := by decide +kernel
theorem dL_first_1 : decode cL_first 1 = .ok (.istore_n 1, 1) := by decide +kernel
theorem dL_first_2 : decode cL_first 2 = .ok (.iconst 0, 1) := by decide +kernel
theorem dL_first_3 : decode cL_first 3 = .ok (.istore_n 2, 1) := by decide +kernel
theorem dL_first_4 : decode cL_first 4 = .ok (.iload_n 2, 1) := by decide +kernel
theorem dL_first_5 : decode cL_first 5 = .ok (.iload_n 0, 1) := by decide +kernel
theorem dL_first_6 : decode cL_first 6 = .ok (.if_icmp .ge 17, 3) := by decide +kernel
theorem dL_first_9 : decode cL_first 9 = .ok (.iload_n 1, 1) := by decide +kernel
theorem dL_first_10 : decode cL_first 10 = .ok (.iload_n 2, 1) := by decide +kernel
theorem dL_first_11 : decode cL_first 11 = .ok (.iconst 4, 1) := by decide +kernel
theorem dL_first_12 : decode cL_first 12 = .ok (.iload_n 2, 1) := by decide +kernel
theorem dL_first_13 : decode cL_first 13 = .ok (.imul, 1) := by decide +kernel
theorem dL_first_14 : decode cL_first 14 = .ok (.ishl, 1) := by decide +kernel
theorem dL_first_15 : decode cL_first 15 = .ok (.iadd, 1) := by decide +kernel
theorem dL_first_16 : decode cL_first 16 = .ok (.istore_n 1, 1) := by decide +kernel
theorem dL_first_17 : decode cL_first 17 = .ok (.iinc 2 1, 3) := by decide +kernel
theorem dL_first_20 : decode cL_first 20 = .ok (.goto (-16), 3) := by decide +kernel
theorem dL_first_23 : decode cL_first 23 = .ok (.iload_n 1, 1) := by decide +kernel
theorem dL_first_24 : decode cL_first 24 = .ok (.ireturn, 1) := by decide +kernel
theorem dL_change_0 : decode cL_change 0 = .ok (.iload_n 3, 1) := by decide +kernel
theorem dL_change_1 : decode cL_change 1 = .ok (.iload_n 0, 1) := by decide +kernel
theorem dL_change_2 : decode cL_change 2 = .ok (.iadd, 1) := by decide +kernel
theorem dL_change_3 : decode cL_change 3 = .ok (.iload_n 0, 1) := by decide +kernel
theorem dL_change_4 : decode cL_change 4 = .ok (.irem, 1) := by decide +kernel
theorem dL_change_5 : decode cL_change 5 = .ok (.istore 4, 2) := by decide +kernel
theorem dL_change_7 : decode cL_change 7 = .ok (.iload 4, 2) := by decide +kernel
theorem dL_change_9 : decode cL_change 9 = .ok (.iconst 1, 1) := by decide +kernel
theorem dL_change_10 : decode cL_change 10 = .ok (.iadd, 1) := by decide +kernel
theorem dL_change_11 : decode cL_change 11 = .ok (.iload_n 0, 1) := by decide +kernel
theorem dL_change_12 : decode cL_change 12 = .ok (.irem, 1) := by decide +kernel
theorem dL_change_13 : decode cL_change 13 = .ok (.istore 5, 2) := by decide +kernel
theorem dL_change_15 : decode cL_change 15 = .ok (.iload_n 2, 1) := by decide +kernel
theorem dL_change_16 : decode cL_change 16 = .ok (.iload 4, 2) := by decide +kernel
theorem dL_change_18 : decode cL_change 18 = .ok (.invokestatic 35, 3) := by decide +kernel
theorem dL_change_21 : decode cL_change 21 = .ok (.istore 6, 2) := by decide +kernel
theorem dL_change_23 : decode cL_change 23 = .ok (.iload_n 2, 1) := by decide +kernel
theorem dL_change_24 : decode cL_change 24 = .ok (.iload 5, 2) := by decide +kernel
theorem dL_change_26 : decode cL_change 26 = .ok (.invokestatic 35, 3) := by decide +kernel
theorem dL_change_29 : decode cL_change 29 = .ok (.istore 7, 2) := by decide +kernel
theorem dL_change_31 : decode cL_change 31 = .ok (.aload_n 1, 1) := by decide +kernel
theorem dL_change_32 : decode cL_change 32 = .ok (.iload 6, 2) := by decide +kernel
theorem dL_change_34 : decode cL_change 34 = .ok (.iaload, 1) := by decide +kernel
theorem dL_change_35 : decode cL_change 35 = .ok (.iconst 1, 1) := by decide +kernel
theorem dL_change_36 : decode cL_change 36 = .ok (.if_icmp .eq 27, 3) := by decide +kernel
theorem dL_change_39 : decode cL_change 39 = .ok (.aload_n 1, 1) := by decide +kernel
theorem dL_change_40 : decode cL_change 40 = .ok (.iload 6, 2) := by decide +kernel
theorem dL_change_42 : decode cL_change 42 = .ok (.iaload, 1) := by decide +kernel
theorem dL_change_43 : decode cL_change 43 = .ok (.iconst 3, 1) := by decide +kernel
theorem dL_change_44 : decode cL_change 44 = .ok (.if_icmp .eq 19, 3) := by decide +kernel
theorem dL_change_47 : decode cL_change 47 = .ok (.aload_n 1, 1) := by decide +kernel
theorem dL_change_48 : decode cL_change 48 = .ok (.iload 7, 2) := by decide +kernel
theorem dL_change_50 : decode cL_change 50 = .ok (.iaload, 1) := by decide +kernel
theorem dL_change_51 : decode cL_change 51 = .ok (.iconst 1, 1) := by decide +kernel
theorem dL_change_52 : decode cL_change 52 = .ok (.if_icmp .eq 11, 3) := by decide +kernel
theorem dL_change_55 : decode cL_change 55 = .ok (.aload_n 1, 1) := by decide +kernel
theorem dL_change_56 : decode cL_change 56 = .ok (.iload 7, 2) := by decide +kernel
theorem dL_change_58 : decode cL_change 58 = .ok (.iaload, 1) := by decide +kernel
theorem dL_change_59 : decode cL_change 59 = .ok (.iconst 3, 1) := by decide +kernel
theorem dL_change_60 : decode cL_change 60 = .ok (.if_icmp .ne 7, 3) := by decide +kernel
theorem dL_change_63 : decode cL_change 63 = .ok (.iconst 1, 1) := by decide +kernel
theorem dL_change_64 : decode cL_change 64 = .ok (.goto 4, 3) := by decide +kernel
theorem dL_change_67 : decode cL_change 67 = .ok (.iconst 0, 1) := by decide +kernel
theorem dL_change_68 : decode cL_change 68 = .ok (.istore 8, 2) := by decide +kernel
theorem dL_change_70 : decode cL_change 70 = .ok (.iload 8, 2) := by decide +kernel
theorem dL_change_72 : decode cL_change 72 = .ok (.ifCond .eq 7, 3) := by decide +kernel
theorem dL_change_75 : decode cL_change 75 = .ok (.iload_n 2, 1) := by decide +kernel
theorem dL_change_76 : decode cL_change 76 = .ok (.goto 36, 3) := by decide +kernel
theorem dL_change_79 : decode cL_change 79 = .ok (.iload_n 2, 1) := by decide +kernel
theorem dL_change_80 : decode cL_change 80 = .ok (.iload 6, 2) := by decide +kernel
theorem dL_change_82 : decode cL_change 82 = .ok (.iconst 4, 1) := by decide +kernel
theorem dL_change_83 : decode cL_change 83 = .ok (.iload 4, 2) := by decide +kernel
theorem dL_change_85 : decode cL_change 85 = .ok (.imul, 1) := by decide +kernel
theorem dL_change_86 : decode cL_change 86 = .ok (.ishl, 1) := by decide +kernel
theorem dL_change_87 : decode cL_change 87 = .ok (.isub, 1) := by decide +kernel
theorem dL_change_88 : decode cL_change 88 = .ok (.iload 7, 2) := by decide +kernel
theorem dL_change_90 : decode cL_change 90 = .ok (.iconst 4, 1) := by decide +kernel
theorem dL_change_91 : decode cL_change 91 = .ok (.iload 5, 2) := by decide +kernel
theorem dL_change_93 : decode cL_change 93 = .ok (.imul, 1) := by decide +kernel
theorem dL_change_94 : decode cL_change 94 = .ok (.ishl, 1) := by decide +kernel
theorem dL_change_95 : decode cL_change 95 = .ok (.isub, 1) := by decide +kernel
theorem dL_change_96 : decode cL_change 96 = .ok (.iload 7, 2) := by decide +kernel
theorem dL_change_98 : decode cL_change 98 = .ok (.iconst 4, 1) := by decide +kernel
theorem dL_change_99 : decode cL_change 99 = .ok (.iload 4, 2) := by decide +kernel
theorem dL_change_101 : decode cL_change 101 = .ok (.imul, 1) := by decide +kernel
theorem dL_change_102 : decode cL_change 102 = .ok (.ishl, 1) := by decide +kernel
theorem dL_change_103 : decode cL_change 103 = .ok (.iadd, 1) := by decide +kernel
theorem dL_change_104 : decode cL_change 104 = .ok (.iload 6, 2) := by decide +kernel
theorem dL_change_106 : decode cL_change 106 = .ok (.iconst 4, 1) := by decide +kernel
theorem dL_change_107 : decode cL_change 107 = .ok (.iload 5, 2) := by decide +kernel
theorem dL_change_109 : decode cL_change 109 = .ok (.imul, 1) := by decide +kernel
theorem dL_change_110 : decode cL_change 110 = .ok (.ishl, 1) := by decide +kernel
theorem dL_change_111 : decode cL_change 111 = .ok (.iadd, 1) := by decide +kernel
theorem dL_change_112 : decode cL_change 112 = .ok (.ireturn, 1) := by decide +kernel
theorem dL_place_0 : decode cL_place 0 = .ok (.iconst 0, 1) := by decide +kernel
theorem dL_place_1 : decode cL_place 1 = .ok (.istore_n 3, 1) := by decide +kernel
theorem dL_place_2 : decode cL_place 2 = .ok (.iconst 0, 1) := by decide +kernel
theorem dL_place_3 : decode cL_place 3 = .ok (.istore 4, 2) := by decide +kernel
theorem dL_place_5 : decode cL_place 5 = .ok (.iload 4, 2) := by decide +kernel
theorem dL_place_7 : decode cL_place 7 = .ok (.iload_n 0, 1) := by decide +kernel
theorem dL_place_8 : decode cL_place 8 = .ok (.if_icmp .ge 26, 3) := by decide +kernel
theorem dL_place_11 : decode cL_place 11 = .ok (.iload_n 1, 1) := by decide +kernel
theorem dL_place_12 : decode cL_place 12 = .ok (.iload 4, 2) := by decide +kernel
theorem dL_place_14 : decode cL_place 14 = .ok (.invokestatic 35, 3) := by decide +kernel
theorem dL_place_17 : decode cL_place 17 = .ok (.iload_n 2, 1) := by decide +kernel
theorem dL_place_18 : decode cL_place 18 = .ok (.if_icmp .ne 8, 3) := by decide +kernel
theorem dL_place_21 : decode cL_place 21 = .ok (.iload 4, 2) := by decide +kernel
theorem dL_place_23 : decode cL_place 23 = .ok (.goto 4, 3) := by decide +kernel
theorem dL_place_26 : decode cL_place 26 = .ok (.iload_n 3, 1) := by decide +kernel
theorem dL_place_27 : decode cL_place 27 = .ok (.istore_n 3, 1) := by decide +kernel
theorem dL_place_28 : decode cL_place 28 = .ok (.iinc 4 1, 3) := by decide +kernel
theorem dL_place_31 : decode cL_place 31 = .ok (.goto (-26), 3) := by decide +kernel
theorem dL_place_34 : decode cL_place 34 = .ok (.iload_n 3, 1) := by decide +kernel
theorem dL_place_35 : decode cL_place 35 = .ok (.ireturn, 1) := by decide +kernel
theorem dL_beside_0 : decode cL_beside 0 = .ok (.iload_n 0, 1) := by decide +kernel
theorem dL_beside_1 : decode cL_beside 1 = .ok (.iload_n 1, 1) := by decide +kernel
theorem dL_beside_2 : decode cL_beside 2 = .ok (.iload_n 2, 1) := by decide +kernel
theorem dL_beside_3 : decode cL_beside 3 = .ok (.invokestatic 39, 3) := by decide +kernel
theorem dL_beside_6 : decode cL_beside 6 = .ok (.istore 4, 2) := by decide +kernel
theorem dL_beside_8 : decode cL_beside 8 = .ok (.iload_n 0, 1) := by decide +kernel
theorem dL_beside_9 : decode cL_beside 9 = .ok (.iload_n 1, 1) := by decide +kernel
theorem dL_beside_10 : decode cL_beside 10 = .ok (.iload_n 3, 1) := by decide +kernel
theorem dL_beside_11 : decode cL_beside 11 = .ok (.invokestatic 39, 3) := by decide +kernel
theorem dL_beside_14 : decode cL_beside 14 = .ok (.istore 5, 2) := by decide +kernel
theorem dL_beside_16 : decode cL_beside 16 = .ok (.iload 4, 2) := by decide +kernel
theorem dL_beside_18 : decode cL_beside 18 = .ok (.iconst 1, 1) := by decide +kernel
theorem dL_beside_19 : decode cL_beside 19 = .ok (.iadd, 1) := by decide +kernel
theorem dL_beside_20 : decode cL_beside 20 = .ok (.iload_n 0, 1) := by decide +kernel
theorem dL_beside_21 : decode cL_beside 21 = .ok (.irem, 1) := by decide +kernel
theorem dL_beside_22 : decode cL_beside 22 = .ok (.iload 5, 2) := by decide +kernel
theorem dL_beside_24 : decode cL_beside 24 = .ok (.if_icmp .eq 14, 3) := by decide +kernel
theorem dL_beside_27 : decode cL_beside 27 = .ok (.iload 5, 2) := by decide +kernel
theorem dL_beside_29 : decode cL_beside 29 = .ok (.iconst 1, 1) := by decide +kernel
theorem dL_beside_30 : decode cL_beside 30 = .ok (.iadd, 1) := by decide +kernel
theorem dL_beside_31 : decode cL_beside 31 = .ok (.iload_n 0, 1) := by decide +kernel
theorem dL_beside_32 : decode cL_beside 32 = .ok (.irem, 1) := by decide +kernel
theorem dL_beside_33 : decode cL_beside 33 = .ok (.iload 4, 2) := by decide +kernel
theorem dL_beside_35 : decode cL_beside 35 = .ok (.if_icmp .ne 7, 3) := by decide +kernel
theorem dL_beside_38 : decode cL_beside 38 = .ok (.iconst 1, 1) := by decide +kernel
theorem dL_beside_39 : decode cL_beside 39 = .ok (.goto 4, 3) := by decide +kernel
theorem dL_beside_42 : decode cL_beside 42 = .ok (.iconst 0, 1) := by decide +kernel
theorem dL_beside_43 : decode cL_beside 43 = .ok (.ireturn, 1) := by decide +kernel
theorem dL_touch_0 : decode cL_touch 0 = .ok (.iconst 0, 1) := by decide +kernel
theorem dL_touch_1 : decode cL_touch 1 = .ok (.istore 4, 2) := by decide +kernel
theorem dL_touch_3 : decode cL_touch 3 = .ok (.iconst 0, 1) := by decide +kernel
theorem dL_touch_4 : decode cL_touch 4 = .ok (.istore 5, 2) := by decide +kernel
theorem dL_touch_6 : decode cL_touch 6 = .ok (.iload 5, 2) := by decide +kernel
theorem dL_touch_8 : decode cL_touch 8 = .ok (.iload_n 0, 1) := by decide +kernel
theorem dL_touch_9 : decode cL_touch 9 = .ok (.if_icmp .ge 76, 3) := by decide +kernel
theorem dL_touch_12 : decode cL_touch 12 = .ok (.iconst 0, 1) := by decide +kernel
theorem dL_touch_13 : decode cL_touch 13 = .ok (.istore 6, 2) := by decide +kernel
theorem dL_touch_15 : decode cL_touch 15 = .ok (.iload 6, 2) := by decide +kernel
theorem dL_touch_17 : decode cL_touch 17 = .ok (.iload 5, 2) := by decide +kernel
theorem dL_touch_19 : decode cL_touch 19 = .ok (.if_icmp .ge 60, 3) := by decide +kernel
theorem dL_touch_22 : decode cL_touch 22 = .ok (.iload 4, 2) := by decide +kernel
theorem dL_touch_24 : decode cL_touch 24 = .ok (.aload_n 2, 1) := by decide +kernel
theorem dL_touch_25 : decode cL_touch 25 = .ok (.iload 5, 2) := by decide +kernel
theorem dL_touch_27 : decode cL_touch 27 = .ok (.iaload, 1) := by decide +kernel
theorem dL_touch_28 : decode cL_touch 28 = .ok (.iload 6, 2) := by decide +kernel
theorem dL_touch_30 : decode cL_touch 30 = .ok (.ishr, 1) := by decide +kernel
theorem dL_touch_31 : decode cL_touch 31 = .ok (.iconst 1, 1) := by decide +kernel
theorem dL_touch_32 : decode cL_touch 32 = .ok (.iand, 1) := by decide +kernel
theorem dL_touch_33 : decode cL_touch 33 = .ok (.iconst 1, 1) := by decide +kernel
theorem dL_touch_34 : decode cL_touch 34 = .ok (.if_icmp .ne 35, 3) := by decide +kernel
theorem dL_touch_37 : decode cL_touch 37 = .ok (.aload_n 1, 1) := by decide +kernel
theorem dL_touch_38 : decode cL_touch 38 = .ok (.iload 5, 2) := by decide +kernel
theorem dL_touch_40 : decode cL_touch 40 = .ok (.iaload, 1) := by decide +kernel
theorem dL_touch_41 : decode cL_touch 41 = .ok (.iconst 2, 1) := by decide +kernel
theorem dL_touch_42 : decode cL_touch 42 = .ok (.if_icmp .eq 27, 3) := by decide +kernel
theorem dL_touch_45 : decode cL_touch 45 = .ok (.aload_n 1, 1) := by decide +kernel
theorem dL_touch_46 : decode cL_touch 46 = .ok (.iload 6, 2) := by decide +kernel
theorem dL_touch_48 : decode cL_touch 48 = .ok (.iaload, 1) := by decide +kernel
theorem dL_touch_49 : decode cL_touch 49 = .ok (.iconst 2, 1) := by decide +kernel
theorem dL_touch_50 : decode cL_touch 50 = .ok (.if_icmp .eq 19, 3) := by decide +kernel
theorem dL_touch_53 : decode cL_touch 53 = .ok (.iload_n 0, 1) := by decide +kernel
theorem dL_touch_54 : decode cL_touch 54 = .ok (.iload_n 3, 1) := by decide +kernel
theorem dL_touch_55 : decode cL_touch 55 = .ok (.iload 5, 2) := by decide +kernel
theorem dL_touch_57 : decode cL_touch 57 = .ok (.iload 6, 2) := by decide +kernel
theorem dL_touch_59 : decode cL_touch 59 = .ok (.invokestatic 43, 3) := by decide +kernel
theorem dL_touch_62 : decode cL_touch 62 = .ok (.ifCond .eq 7, 3) := by decide +kernel
theorem dL_touch_65 : decode cL_touch 65 = .ok (.iconst 1, 1) := by decide +kernel
theorem dL_touch_66 : decode cL_touch 66 = .ok (.goto 4, 3) := by decide +kernel
theorem dL_touch_69 : decode cL_touch 69 = .ok (.iconst 0, 1) := by decide +kernel
theorem dL_touch_70 : decode cL_touch 70 = .ok (.iadd, 1) := by decide +kernel
theorem dL_touch_71 : decode cL_touch 71 = .ok (.istore 4, 2) := by decide +kernel
theorem dL_touch_73 : decode cL_touch 73 = .ok (.iinc 6 1, 3) := by decide +kernel
theorem dL_touch_76 : decode cL_touch 76 = .ok (.goto (-61), 3) := by decide +kernel
theorem dL_touch_79 : decode cL_touch 79 = .ok (.iinc 5 1, 3) := by decide +kernel
theorem dL_touch_82 : decode cL_touch 82 = .ok (.goto (-76), 3) := by decide +kernel
theorem dL_touch_85 : decode cL_touch 85 = .ok (.iload 4, 2) := by decide +kernel
theorem dL_touch_87 : decode cL_touch 87 = .ok (.ireturn, 1) := by decide +kernel
theorem dL_round_0 : decode cL_round 0 = .ok (.iload_n 1, 1) := by decide +kernel
theorem dL_round_1 : decode cL_round 1 = .ok (.iload_n 2, 1) := by decide +kernel
theorem dL_round_2 : decode cL_round 2 = .ok (.if_icmp .le 9, 3) := by decide +kernel
theorem dL_round_5 : decode cL_round 5 = .ok (.iload_n 1, 1) := by decide +kernel
theorem dL_round_6 : decode cL_round 6 = .ok (.iload_n 2, 1) := by decide +kernel
theorem dL_round_7 : decode cL_round 7 = .ok (.isub, 1) := by decide +kernel
theorem dL_round_8 : decode cL_round 8 = .ok (.goto 6, 3) := by decide +kernel
theorem dL_round_11 : decode cL_round 11 = .ok (.iload_n 2, 1) := by decide +kernel
theorem dL_round_12 : decode cL_round 12 = .ok (.iload_n 1, 1) := by decide +kernel
theorem dL_round_13 : decode cL_round 13 = .ok (.isub, 1) := by decide +kernel
theorem dL_round_14 : decode cL_round 14 = .ok (.istore_n 3, 1) := by decide +kernel
theorem dL_round_15 : decode cL_round 15 = .ok (.iload_n 3, 1) := by decide +kernel
theorem dL_round_16 : decode cL_round 16 = .ok (.iload_n 0, 1) := by decide +kernel
theorem dL_round_17 : decode cL_round 17 = .ok (.iload_n 3, 1) := by decide +kernel
theorem dL_round_18 : decode cL_round 18 = .ok (.isub, 1) := by decide +kernel
theorem dL_round_19 : decode cL_round 19 = .ok (.if_icmp .ge 7, 3) := by decide +kernel
theorem dL_round_22 : decode cL_round 22 = .ok (.iload_n 3, 1) := by decide +kernel
theorem dL_round_23 : decode cL_round 23 = .ok (.goto 6, 3) := by decide +kernel
theorem dL_round_26 : decode cL_round 26 = .ok (.iload_n 0, 1) := by decide +kernel
theorem dL_round_27 : decode cL_round 27 = .ok (.iload_n 3, 1) := by decide +kernel
theorem dL_round_28 : decode cL_round 28 = .ok (.isub, 1) := by decide +kernel
theorem dL_round_29 : decode cL_round 29 = .ok (.ireturn, 1) := by decide +kernel
theorem dL_terms_0 : decode cL_terms 0 = .ok (.lload 4, 2) := by decide +kernel
theorem dL_terms_2 : decode cL_terms 2 = .ok (.lstore 8, 2) := by decide +kernel
theorem dL_terms_4 : decode cL_terms 4 = .ok (.lload 6, 2) := by decide +kernel
theorem dL_terms_6 : decode cL_terms 6 = .ok (.lstore 10, 2) := by decide +kernel
theorem dL_terms_8 : decode cL_terms 8 = .ok (.lload 8, 2) := by decide +kernel
theorem dL_terms_10 : decode cL_terms 10 = .ok (.lconst 0, 1) := by decide +kernel
theorem dL_terms_11 : decode cL_terms 11 = .ok (.lcmp, 1) := by decide +kernel
theorem dL_terms_12 : decode cL_terms 12 = .ok (.ifCond .le 21, 3) := by decide +kernel
theorem dL_terms_15 : decode cL_terms 15 = .ok (.lload 10, 2) := by decide +kernel
theorem dL_terms_17 : decode cL_terms 17 = .ok (.lload 8, 2) := by decide +kernel
theorem dL_terms_19 : decode cL_terms 19 = .ok (.lrem, 1) := by decide +kernel
theorem dL_terms_20 : decode cL_terms 20 = .ok (.lstore 12, 2) := by decide +kernel
theorem dL_terms_22 : decode cL_terms 22 = .ok (.lload 8, 2) := by decide +kernel
theorem dL_terms_24 : decode cL_terms 24 = .ok (.lstore 10, 2) := by decide +kernel
theorem dL_terms_26 : decode cL_terms 26 = .ok (.lload 12, 2) := by decide +kernel
theorem dL_terms_28 : decode cL_terms 28 = .ok (.lstore 8, 2) := by decide +kernel
theorem dL_terms_30 : decode cL_terms 30 = .ok (.goto (-22), 3) := by decide +kernel
theorem dL_terms_33 : decode cL_terms 33 = .ok (.lload_n 2, 1) := by decide +kernel
theorem dL_terms_34 : decode cL_terms 34 = .ok (.lconst 0, 1) := by decide +kernel
theorem dL_terms_35 : decode cL_terms 35 = .ok (.lcmp, 1) := by decide +kernel
theorem dL_terms_36 : decode cL_terms 36 = .ok (.ifCond .le 27, 3) := by decide +kernel
theorem dL_terms_39 : decode cL_terms 39 = .ok (.lload_n 0, 1) := by decide +kernel
theorem dL_terms_40 : decode cL_terms 40 = .ok (.lload 4, 2) := by decide +kernel
theorem dL_terms_42 : decode cL_terms 42 = .ok (.lload 10, 2) := by decide +kernel
theorem dL_terms_44 : decode cL_terms 44 = .ok (.ldiv, 1) := by decide +kernel
theorem dL_terms_45 : decode cL_terms 45 = .ok (.lcmp, 1) := by decide +kernel
theorem dL_terms_46 : decode cL_terms 46 = .ok (.ifCond .ne 17, 3) := by decide +kernel
theorem dL_terms_49 : decode cL_terms 49 = .ok (.lload_n 2, 1) := by decide +kernel
theorem dL_terms_50 : decode cL_terms 50 = .ok (.lload 6, 2) := by decide +kernel
theorem dL_terms_52 : decode cL_terms 52 = .ok (.lload 10, 2) := by decide +kernel
theorem dL_terms_54 : decode cL_terms 54 = .ok (.ldiv, 1) := by decide +kernel
theorem dL_terms_55 : decode cL_terms 55 = .ok (.lcmp, 1) := by decide +kernel
theorem dL_terms_56 : decode cL_terms 56 = .ok (.ifCond .ne 7, 3) := by decide +kernel
theorem dL_terms_59 : decode cL_terms 59 = .ok (.iconst 1, 1) := by decide +kernel
theorem dL_terms_60 : decode cL_terms 60 = .ok (.goto 4, 3) := by decide +kernel
theorem dL_terms_63 : decode cL_terms 63 = .ok (.iconst 0, 1) := by decide +kernel
theorem dL_terms_64 : decode cL_terms 64 = .ok (.ireturn, 1) := by decide +kernel
theorem dL_law_0 : decode cL_law 0 = .ok (.new 9, 3) := by decide +kernel
theorem dL_law_3 : decode cL_law 3 = .ok (.dup, 1) := by decide +kernel
theorem dL_law_4 : decode cL_law 4 = .ok (.invokespecial 47, 3) := by decide +kernel
theorem dL_law_7 : decode cL_law 7 = .ok (.astore_n 1, 1) := by decide +kernel
theorem dL_law_8 : decode cL_law 8 = .ok (.bipush 6, 2) := by decide +kernel
theorem dL_law_10 : decode cL_law 10 = .ok (.newarray .int, 2) := by decide +kernel
theorem dL_law_12 : decode cL_law 12 = .ok (.astore_n 2, 1) := by decide +kernel
theorem dL_law_13 : decode cL_law 13 = .ok (.bipush 6, 2) := by decide +kernel
theorem dL_law_15 : decode cL_law 15 = .ok (.newarray .int, 2) := by decide +kernel
theorem dL_law_17 : decode cL_law 17 = .ok (.astore_n 3, 1) := by decide +kernel
theorem dL_law_18 : decode cL_law 18 = .ok (.aload_n 1, 1) := by decide +kernel
theorem dL_law_19 : decode cL_law 19 = .ok (.aload_n 0, 1) := by decide +kernel
theorem dL_law_20 : decode cL_law 20 = .ok (.iconst 0, 1) := by decide +kernel
theorem dL_law_21 : decode cL_law 21 = .ok (.bipush 6, 2) := by decide +kernel
theorem dL_law_23 : decode cL_law 23 = .ok (.aload_n 2, 1) := by decide +kernel
theorem dL_law_24 : decode cL_law 24 = .ok (.aload_n 3, 1) := by decide +kernel
theorem dL_law_25 : decode cL_law 25 = .ok (.invokestatic 48, 3) := by decide +kernel
theorem dL_law_28 : decode cL_law 28 = .ok (.istore 4, 2) := by decide +kernel
theorem dL_law_30 : decode cL_law 30 = .ok (.iload 4, 2) := by decide +kernel
theorem dL_law_32 : decode cL_law 32 = .ok (.ifCond .ge 5, 3) := by decide +kernel
theorem dL_law_35 : decode cL_law 35 = .ok (.iconst 0, 1) := by decide +kernel
theorem dL_law_36 : decode cL_law 36 = .ok (.ireturn, 1) := by decide +kernel
theorem dL_law_37 : decode cL_law 37 = .ok (.iload 4, 2) := by decide +kernel
theorem dL_law_39 : decode cL_law 39 = .ok (.invokestatic 51, 3) := by decide +kernel
theorem dL_law_42 : decode cL_law 42 = .ok (.istore 5, 2) := by decide +kernel
theorem dL_law_44 : decode cL_law 44 = .ok (.iload 5, 2) := by decide +kernel
theorem dL_law_46 : decode cL_law 46 = .ok (.istore 6, 2) := by decide +kernel
theorem dL_law_48 : decode cL_law 48 = .ok (.iload 5, 2) := by decide +kernel
theorem dL_law_50 : decode cL_law 50 = .ok (.istore 7, 2) := by decide +kernel
theorem dL_law_52 : decode cL_law 52 = .ok (.iconst 0, 1) := by decide +kernel
theorem dL_law_53 : decode cL_law 53 = .ok (.istore 8, 2) := by decide +kernel
theorem dL_law_55 : decode cL_law 55 = .ok (.iconst 0, 1) := by decide +kernel
theorem dL_law_56 : decode cL_law 56 = .ok (.istore 9, 2) := by decide +kernel
theorem dL_law_58 : decode cL_law 58 = .ok (.iconst 0, 1) := by decide +kernel
theorem dL_law_59 : decode cL_law 59 = .ok (.istore 10, 2) := by decide +kernel
theorem dL_law_61 : decode cL_law 61 = .ok (.iload 10, 2) := by decide +kernel
theorem dL_law_63 : decode cL_law 63 = .ok (.iload 4, 2) := by decide +kernel
theorem dL_law_65 : decode cL_law 65 = .ok (.if_icmp .ge 139, 3) := by decide +kernel
theorem dL_law_68 : decode cL_law 68 = .ok (.iconst 0, 1) := by decide +kernel
theorem dL_law_69 : decode cL_law 69 = .ok (.istore 11, 2) := by decide +kernel
theorem dL_law_71 : decode cL_law 71 = .ok (.iload 11, 2) := by decide +kernel
theorem dL_law_73 : decode cL_law 73 = .ok (.iload 4, 2) := by decide +kernel
theorem dL_law_75 : decode cL_law 75 = .ok (.if_icmp .ge 61, 3) := by decide +kernel
theorem dL_law_78 : decode cL_law 78 = .ok (.iload 9, 2) := by decide +kernel
theorem dL_law_80 : decode cL_law 80 = .ok (.aload_n 3, 1) := by decide +kernel
theorem dL_law_81 : decode cL_law 81 = .ok (.iload 10, 2) := by decide +kernel
theorem dL_law_83 : decode cL_law 83 = .ok (.iaload, 1) := by decide +kernel
theorem dL_law_84 : decode cL_law 84 = .ok (.iload 11, 2) := by decide +kernel
theorem dL_law_86 : decode cL_law 86 = .ok (.ishr, 1) := by decide +kernel
theorem dL_law_87 : decode cL_law 87 = .ok (.iconst 1, 1) := by decide +kernel
theorem dL_law_88 : decode cL_law 88 = .ok (.iand, 1) := by decide +kernel
theorem dL_law_89 : decode cL_law 89 = .ok (.iconst 1, 1) := by decide +kernel
theorem dL_law_90 : decode cL_law 90 = .ok (.if_icmp .ne 14, 3) := by decide +kernel
theorem dL_law_93 : decode cL_law 93 = .ok (.iload 10, 2) := by decide +kernel
theorem dL_law_95 : decode cL_law 95 = .ok (.iload 11, 2) := by decide +kernel
theorem dL_law_97 : decode cL_law 97 = .ok (.if_icmp .ge 7, 3) := by decide +kernel
theorem dL_law_100 : decode cL_law 100 = .ok (.iconst 1, 1) := by decide +kernel
theorem dL_law_101 : decode cL_law 101 = .ok (.goto 4, 3) := by decide +kernel
theorem dL_law_104 : decode cL_law 104 = .ok (.iconst 0, 1) := by decide +kernel
theorem dL_law_105 : decode cL_law 105 = .ok (.iadd, 1) := by decide +kernel
theorem dL_law_106 : decode cL_law 106 = .ok (.istore 9, 2) := by decide +kernel
theorem dL_law_108 : decode cL_law 108 = .ok (.aload_n 1, 1) := by decide +kernel
theorem dL_law_109 : decode cL_law 109 = .ok (.iload 10, 2) := by decide +kernel
theorem dL_law_111 : decode cL_law 111 = .ok (.iload 11, 2) := by decide +kernel
theorem dL_law_113 : decode cL_law 113 = .ok (.invokevirtual 54, 3) := by decide +kernel
theorem dL_law_116 : decode cL_law 116 = .ok (.aload_n 3, 1) := by decide +kernel
theorem dL_law_117 : decode cL_law 117 = .ok (.iload 10, 2) := by decide +kernel
theorem dL_law_119 : decode cL_law 119 = .ok (.iaload, 1) := by decide +kernel
theorem dL_law_120 : decode cL_law 120 = .ok (.iload 11, 2) := by decide +kernel
theorem dL_law_122 : decode cL_law 122 = .ok (.ishr, 1) := by decide +kernel
theorem dL_law_123 : decode cL_law 123 = .ok (.iconst 1, 1) := by decide +kernel
theorem dL_law_124 : decode cL_law 124 = .ok (.iand, 1) := by decide +kernel
theorem dL_law_125 : decode cL_law 125 = .ok (.if_icmp .eq 5, 3) := by decide +kernel
theorem dL_law_128 : decode cL_law 128 = .ok (.iconst 0, 1) := by decide +kernel
theorem dL_law_129 : decode cL_law 129 = .ok (.ireturn, 1) := by decide +kernel
theorem dL_law_130 : decode cL_law 130 = .ok (.iinc 11 1, 3) := by decide +kernel
theorem dL_law_133 : decode cL_law 133 = .ok (.goto (-62), 3) := by decide +kernel
theorem dL_law_136 : decode cL_law 136 = .ok (.iconst 0, 1) := by decide +kernel
theorem dL_law_137 : decode cL_law 137 = .ok (.istore 11, 2) := by decide +kernel
theorem dL_law_139 : decode cL_law 139 = .ok (.iload 11, 2) := by decide +kernel
theorem dL_law_141 : decode cL_law 141 = .ok (.iconst 4, 1) := by decide +kernel
theorem dL_law_142 : decode cL_law 142 = .ok (.if_icmp .ge 56, 3) := by decide +kernel
theorem dL_law_145 : decode cL_law 145 = .ok (.aload_n 1, 1) := by decide +kernel
theorem dL_law_146 : decode cL_law 146 = .ok (.iload 10, 2) := by decide +kernel
theorem dL_law_148 : decode cL_law 148 = .ok (.iload 11, 2) := by decide +kernel
theorem dL_law_150 : decode cL_law 150 = .ok (.invokevirtual 57, 3) := by decide +kernel
theorem dL_law_153 : decode cL_law 153 = .ok (.iload 11, 2) := by decide +kernel
theorem dL_law_155 : decode cL_law 155 = .ok (.ifCond .eq 26, 3) := by decide +kernel
theorem dL_law_158 : decode cL_law 158 = .ok (.iload 11, 2) := by decide +kernel
theorem dL_law_160 : decode cL_law 160 = .ok (.aload_n 2, 1) := by decide +kernel
theorem dL_law_161 : decode cL_law 161 = .ok (.iload 10, 2) := by decide +kernel
theorem dL_law_163 : decode cL_law 163 = .ok (.iaload, 1) := by decide +kernel
theorem dL_law_164 : decode cL_law 164 = .ok (.if_icmp .eq 17, 3) := by decide +kernel
theorem dL_law_167 : decode cL_law 167 = .ok (.iload 11, 2) := by decide +kernel
theorem dL_law_169 : decode cL_law 169 = .ok (.iconst 1, 1) := by decide +kernel
theorem dL_law_170 : decode cL_law 170 = .ok (.if_icmp .ne 16, 3) := by decide +kernel
theorem dL_law_173 : decode cL_law 173 = .ok (.aload_n 2, 1) := by decide +kernel
theorem dL_law_174 : decode cL_law 174 = .ok (.iload 10, 2) := by decide +kernel
theorem dL_law_176 : decode cL_law 176 = .ok (.iaload, 1) := by decide +kernel
theorem dL_law_177 : decode cL_law 177 = .ok (.iconst 3, 1) := by decide +kernel
theorem dL_law_178 : decode cL_law 178 = .ok (.if_icmp .ne 8, 3) := by decide +kernel
theorem dL_law_181 : decode cL_law 181 = .ok (.iload 10, 2) := by decide +kernel
theorem dL_law_183 : decode cL_law 183 = .ok (.goto 4, 3) := by decide +kernel
theorem dL_law_186 : decode cL_law 186 = .ok (.iconst (-1), 1) := by decide +kernel
theorem dL_law_187 : decode cL_law 187 = .ok (.if_icmp .eq 5, 3) := by decide +kernel
theorem dL_law_190 : decode cL_law 190 = .ok (.iconst 0, 1) := by decide +kernel
theorem dL_law_191 : decode cL_law 191 = .ok (.ireturn, 1) := by decide +kernel
theorem dL_law_192 : decode cL_law 192 = .ok (.iinc 11 1, 3) := by decide +kernel
theorem dL_law_195 : decode cL_law 195 = .ok (.goto (-56), 3) := by decide +kernel
theorem dL_law_198 : decode cL_law 198 = .ok (.iinc 10 1, 3) := by decide +kernel
theorem dL_law_201 : decode cL_law 201 = .ok (.goto (-140), 3) := by decide +kernel
theorem dL_law_204 : decode cL_law 204 = .ok (.aload_n 1, 1) := by decide +kernel
theorem dL_law_205 : decode cL_law 205 = .ok (.iconst 1, 1) := by decide +kernel
theorem dL_law_206 : decode cL_law 206 = .ok (.invokevirtual 28, 3) := by decide +kernel
theorem dL_law_209 : decode cL_law 209 = .ok (.iload 9, 2) := by decide +kernel
theorem dL_law_211 : decode cL_law 211 = .ok (.if_icmp .eq 5, 3) := by decide +kernel
theorem dL_law_214 : decode cL_law 214 = .ok (.iconst 0, 1) := by decide +kernel
theorem dL_law_215 : decode cL_law 215 = .ok (.ireturn, 1) := by decide +kernel
theorem dL_law_216 : decode cL_law 216 = .ok (.iconst 0, 1) := by decide +kernel
theorem dL_law_217 : decode cL_law 217 = .ok (.istore 10, 2) := by decide +kernel
theorem dL_law_219 : decode cL_law 219 = .ok (.iload 10, 2) := by decide +kernel
theorem dL_law_221 : decode cL_law 221 = .ok (.bipush 14, 2) := by decide +kernel
theorem dL_law_223 : decode cL_law 223 = .ok (.if_icmp .ge 1052, 3) := by decide +kernel
theorem dL_law_226 : decode cL_law 226 = .ok (.aload_n 0, 1) := by decide +kernel
theorem dL_law_227 : decode cL_law 227 = .ok (.iconst 2, 1) := by decide +kernel
theorem dL_law_228 : decode cL_law 228 = .ok (.iload 10, 2) := by decide +kernel
theorem dL_law_230 : decode cL_law 230 = .ok (.iadd, 1) := by decide +kernel
theorem dL_law_231 : decode cL_law 231 = .ok (.invokestatic 14, 3) := by decide +kernel
theorem dL_law_234 : decode cL_law 234 = .ok (.istore 11, 2) := by decide +kernel
theorem dL_law_236 : decode cL_law 236 = .ok (.iload 10, 2) := by decide +kernel
theorem dL_law_238 : decode cL_law 238 = .ok (.ifCond .le 72, 3) := by decide +kernel
theorem dL_law_241 : decode cL_law 241 = .ok (.iload 11, 2) := by decide +kernel
theorem dL_law_243 : decode cL_law 243 = .ok (.iload 4, 2) := by decide +kernel
theorem dL_law_245 : decode cL_law 245 = .ok (.irem, 1) := by decide +kernel
theorem dL_law_246 : decode cL_law 246 = .ok (.istore 12, 2) := by decide +kernel
theorem dL_law_248 : decode cL_law 248 = .ok (.iload 11, 2) := by decide +kernel
theorem dL_law_250 : decode cL_law 250 = .ok (.bipush 8, 2) := by decide +kernel
theorem dL_law_252 : decode cL_law 252 = .ok (.idiv, 1) := by decide +kernel
theorem dL_law_253 : decode cL_law 253 = .ok (.iconst 3, 1) := by decide +kernel
theorem dL_law_254 : decode cL_law 254 = .ok (.irem, 1) := by decide +kernel
theorem dL_law_255 : decode cL_law 255 = .ok (.iconst 1, 1) := by decide +kernel
theorem dL_law_256 : decode cL_law 256 = .ok (.isub, 1) := by decide +kernel
theorem dL_law_257 : decode cL_law 257 = .ok (.istore 13, 2) := by decide +kernel
theorem dL_law_259 : decode cL_law 259 = .ok (.iload 4, 2) := by decide +kernel
theorem dL_law_261 : decode cL_law 261 = .ok (.aload_n 2, 1) := by decide +kernel
theorem dL_law_262 : decode cL_law 262 = .ok (.iload 6, 2) := by decide +kernel
theorem dL_law_264 : decode cL_law 264 = .ok (.iload 12, 2) := by decide +kernel
theorem dL_law_266 : decode cL_law 266 = .ok (.iload 13, 2) := by decide +kernel
theorem dL_law_268 : decode cL_law 268 = .ok (.iadd, 1) := by decide +kernel
theorem dL_law_269 : decode cL_law 269 = .ok (.invokestatic 60, 3) := by decide +kernel
theorem dL_law_272 : decode cL_law 272 = .ok (.istore 14, 2) := by decide +kernel
theorem dL_law_274 : decode cL_law 274 = .ok (.aload_n 1, 1) := by decide +kernel
theorem dL_law_275 : decode cL_law 275 = .ok (.iload 12, 2) := by decide +kernel
theorem dL_law_277 : decode cL_law 277 = .ok (.iload 13, 2) := by decide +kernel
theorem dL_law_279 : decode cL_law 279 = .ok (.invokevirtual 64, 3) := by decide +kernel
theorem dL_law_282 : decode cL_law 282 = .ok (.iload 14, 2) := by decide +kernel
theorem dL_law_284 : decode cL_law 284 = .ok (.iload 6, 2) := by decide +kernel
theorem dL_law_286 : decode cL_law 286 = .ok (.if_icmp .eq 7, 3) := by decide +kernel
theorem dL_law_289 : decode cL_law 289 = .ok (.iconst 1, 1) := by decide +kernel
theorem dL_law_290 : decode cL_law 290 = .ok (.goto 4, 3) := by decide +kernel
theorem dL_law_293 : decode cL_law 293 = .ok (.iconst 0, 1) := by decide +kernel
theorem dL_law_294 : decode cL_law 294 = .ok (.if_icmp .eq 5, 3) := by decide +kernel
theorem dL_law_297 : decode cL_law 297 = .ok (.iconst 0, 1) := by decide +kernel
theorem dL_law_298 : decode cL_law 298 = .ok (.ireturn, 1) := by decide +kernel
theorem dL_law_299 : decode cL_law 299 = .ok (.iload 6, 2) := by decide +kernel
theorem dL_law_301 : decode cL_law 301 = .ok (.istore 7, 2) := by decide +kernel
theorem dL_law_303 : decode cL_law 303 = .ok (.iload 14, 2) := by decide +kernel
theorem dL_law_305 : decode cL_law 305 = .ok (.istore 6, 2) := by decide +kernel
theorem dL_law_307 : decode cL_law 307 = .ok (.iinc 8 1, 3) := by decide +kernel
theorem dL_law_310 : decode cL_law 310 = .ok (.iconst 0, 1) := by decide +kernel
theorem dL_law_311 : decode cL_law 311 = .ok (.istore 12, 2) := by decide +kernel
theorem dL_law_313 : decode cL_law 313 = .ok (.iconst 0, 1) := by decide +kernel
theorem dL_law_314 : decode cL_law 314 = .ok (.istore 13, 2) := by decide +kernel
theorem dL_law_316 : decode cL_law 316 = .ok (.iload 13, 2) := by decide +kernel
theorem dL_law_318 : decode cL_law 318 = .ok (.iload 4, 2) := by decide +kernel
theorem dL_law_320 : decode cL_law 320 = .ok (.if_icmp .ge 174, 3) := by decide +kernel
theorem dL_law_323 : decode cL_law 323 = .ok (.iload 4, 2) := by decide +kernel
theorem dL_law_325 : decode cL_law 325 = .ok (.iload 6, 2) := by decide +kernel
theorem dL_law_327 : decode cL_law 327 = .ok (.iload 13, 2) := by decide +kernel
theorem dL_law_329 : decode cL_law 329 = .ok (.invokestatic 39, 3) := by decide +kernel
theorem dL_law_332 : decode cL_law 332 = .ok (.istore 14, 2) := by decide +kernel
theorem dL_law_334 : decode cL_law 334 = .ok (.iload 4, 2) := by decide +kernel
theorem dL_law_336 : decode cL_law 336 = .ok (.iload 7, 2) := by decide +kernel
theorem dL_law_338 : decode cL_law 338 = .ok (.iload 13, 2) := by decide +kernel
theorem dL_law_340 : decode cL_law 340 = .ok (.invokestatic 39, 3) := by decide +kernel
theorem dL_law_343 : decode cL_law 343 = .ok (.istore 15, 2) := by decide +kernel
theorem dL_law_345 : decode cL_law 345 = .ok (.aload_n 1, 1) := by decide +kernel
theorem dL_law_346 : decode cL_law 346 = .ok (.iload 13, 2) := by decide +kernel
theorem dL_law_348 : decode cL_law 348 = .ok (.iconst 0, 1) := by decide +kernel
theorem dL_law_349 : decode cL_law 349 = .ok (.invokevirtual 67, 3) := by decide +kernel
theorem dL_law_352 : decode cL_law 352 = .ok (.aload_n 2, 1) := by decide +kernel
theorem dL_law_353 : decode cL_law 353 = .ok (.iload 13, 2) := by decide +kernel
theorem dL_law_355 : decode cL_law 355 = .ok (.iaload, 1) := by decide +kernel
theorem dL_law_356 : decode cL_law 356 = .ok (.if_icmp .ne 76, 3) := by decide +kernel
theorem dL_law_359 : decode cL_law 359 = .ok (.aload_n 1, 1) := by decide +kernel
theorem dL_law_360 : decode cL_law 360 = .ok (.iload 13, 2) := by decide +kernel
theorem dL_law_362 : decode cL_law 362 = .ok (.iconst 1, 1) := by decide +kernel
theorem dL_law_363 : decode cL_law 363 = .ok (.invokevirtual 67, 3) := by decide +kernel
theorem dL_law_366 : decode cL_law 366 = .ok (.iload 14, 2) := by decide +kernel
theorem dL_law_368 : decode cL_law 368 = .ok (.if_icmp .ne 64, 3) := by decide +kernel
theorem dL_law_371 : decode cL_law 371 = .ok (.aload_n 1, 1) := by decide +kernel
theorem dL_law_372 : decode cL_law 372 = .ok (.iload 13, 2) := by decide +kernel
theorem dL_law_374 : decode cL_law 374 = .ok (.iconst 2, 1) := by decide +kernel
theorem dL_law_375 : decode cL_law 375 = .ok (.invokevirtual 67, 3) := by decide +kernel
theorem dL_law_378 : decode cL_law 378 = .ok (.iload 15, 2) := by decide +kernel
theorem dL_law_380 : decode cL_law 380 = .ok (.if_icmp .ne 52, 3) := by decide +kernel
theorem dL_law_383 : decode cL_law 383 = .ok (.aload_n 1, 1) := by decide +kernel
theorem dL_law_384 : decode cL_law 384 = .ok (.iload 13, 2) := by decide +kernel
theorem dL_law_386 : decode cL_law 386 = .ok (.iconst 3, 1) := by decide +kernel
theorem dL_law_387 : decode cL_law 387 = .ok (.invokevirtual 67, 3) := by decide +kernel
theorem dL_law_390 : decode cL_law 390 = .ok (.iconst (-1), 1) := by decide +kernel
theorem dL_law_391 : decode cL_law 391 = .ok (.if_icmp .ne 41, 3) := by decide +kernel
theorem dL_law_394 : decode cL_law 394 = .ok (.aload_n 1, 1) := by decide +kernel
theorem dL_law_395 : decode cL_law 395 = .ok (.iload 14, 2) := by decide +kernel
theorem dL_law_397 : decode cL_law 397 = .ok (.invokevirtual 70, 3) := by decide +kernel
theorem dL_law_400 : decode cL_law 400 = .ok (.iload 13, 2) := by decide +kernel
theorem dL_law_402 : decode cL_law 402 = .ok (.if_icmp .ne 30, 3) := by decide +kernel
theorem dL_law_405 : decode cL_law 405 = .ok (.aload_n 1, 1) := by decide +kernel
theorem dL_law_406 : decode cL_law 406 = .ok (.iload 13, 2) := by decide +kernel
theorem dL_law_408 : decode cL_law 408 = .ok (.invokevirtual 72, 3) := by decide +kernel
theorem dL_law_411 : decode cL_law 411 = .ok (.iload 4, 2) := by decide +kernel
theorem dL_law_413 : decode cL_law 413 = .ok (.iconst 0, 1) := by decide +kernel
theorem dL_law_414 : decode cL_law 414 = .ok (.iload 15, 2) := by decide +kernel
theorem dL_law_416 : decode cL_law 416 = .ok (.invokestatic 75, 3) := by decide +kernel
theorem dL_law_419 : decode cL_law 419 = .ok (.iload 4, 2) := by decide +kernel
theorem dL_law_421 : decode cL_law 421 = .ok (.iload 15, 2) := by decide +kernel
theorem dL_law_423 : decode cL_law 423 = .ok (.iload 14, 2) := by decide +kernel
theorem dL_law_425 : decode cL_law 425 = .ok (.invokestatic 75, 3) := by decide +kernel
theorem dL_law_428 : decode cL_law 428 = .ok (.iadd, 1) := by decide +kernel
theorem dL_law_429 : decode cL_law 429 = .ok (.if_icmp .eq 5, 3) := by decide +kernel
theorem dL_law_432 : decode cL_law 432 = .ok (.iconst 0, 1) := by decide +kernel
theorem dL_law_433 : decode cL_law 433 = .ok (.ireturn, 1) := by decide +kernel
theorem dL_law_434 : decode cL_law 434 = .ok (.iconst 0, 1) := by decide +kernel
theorem dL_law_435 : decode cL_law 435 = .ok (.istore 16, 2) := by decide +kernel
theorem dL_law_437 : decode cL_law 437 = .ok (.iload 16, 2) := by decide +kernel
theorem dL_law_439 : decode cL_law 439 = .ok (.iload 13, 2) := by decide +kernel
theorem dL_law_441 : decode cL_law 441 = .ok (.if_icmp .ge 47, 3) := by decide +kernel
theorem dL_law_444 : decode cL_law 444 = .ok (.iload 12, 2) := by decide +kernel
theorem dL_law_446 : decode cL_law 446 = .ok (.iload 4, 2) := by decide +kernel
theorem dL_law_448 : decode cL_law 448 = .ok (.iload 6, 2) := by decide +kernel
theorem dL_law_450 : decode cL_law 450 = .ok (.iload 13, 2) := by decide +kernel
theorem dL_law_452 : decode cL_law 452 = .ok (.iload 16, 2) := by decide +kernel
theorem dL_law_454 : decode cL_law 454 = .ok (.invokestatic 43, 3) := by decide +kernel
theorem dL_law_457 : decode cL_law 457 = .ok (.ifCond .eq 21, 3) := by decide +kernel
theorem dL_law_460 : decode cL_law 460 = .ok (.iload 4, 2) := by decide +kernel
theorem dL_law_462 : decode cL_law 462 = .ok (.iload 7, 2) := by decide +kernel
theorem dL_law_464 : decode cL_law 464 = .ok (.iload 13, 2) := by decide +kernel
theorem dL_law_466 : decode cL_law 466 = .ok (.iload 16, 2) := by decide +kernel
theorem dL_law_468 : decode cL_law 468 = .ok (.invokestatic 43, 3) := by decide +kernel
theorem dL_law_471 : decode cL_law 471 = .ok (.ifCond .ne 7, 3) := by decide +kernel
theorem dL_law_474 : decode cL_law 474 = .ok (.iconst 1, 1) := by decide +kernel
theorem dL_law_475 : decode cL_law 475 = .ok (.goto 4, 3) := by decide +kernel
theorem dL_law_478 : decode cL_law 478 = .ok (.iconst 0, 1) := by decide +kernel
theorem dL_law_479 : decode cL_law 479 = .ok (.iadd, 1) := by decide +kernel
theorem dL_law_480 : decode cL_law 480 = .ok (.istore 12, 2) := by decide +kernel
theorem dL_law_482 : decode cL_law 482 = .ok (.iinc 16 1, 3) := by decide +kernel
theorem dL_law_485 : decode cL_law 485 = .ok (.goto (-48), 3) := by decide +kernel
theorem dL_law_488 : decode cL_law 488 = .ok (.iinc 13 1, 3) := by decide +kernel
theorem dL_law_491 : decode cL_law 491 = .ok (.goto (-175), 3) := by decide +kernel
theorem dL_law_494 : decode cL_law 494 = .ok (.aload_n 1, 1) := by decide +kernel
theorem dL_law_495 : decode cL_law 495 = .ok (.invokevirtual 78, 3) := by decide +kernel
theorem dL_law_498 : decode cL_law 498 = .ok (.iload 4, 2) := by decide +kernel
theorem dL_law_500 : decode cL_law 500 = .ok (.aload_n 2, 1) := by decide +kernel
theorem dL_law_501 : decode cL_law 501 = .ok (.aload_n 3, 1) := by decide +kernel
theorem dL_law_502 : decode cL_law 502 = .ok (.iload 6, 2) := by decide +kernel
theorem dL_law_504 : decode cL_law 504 = .ok (.invokestatic 81, 3) := by decide +kernel
theorem dL_law_507 : decode cL_law 507 = .ok (.if_icmp .ne 22, 3) := by decide +kernel
theorem dL_law_510 : decode cL_law 510 = .ok (.aload_n 1, 1) := by decide +kernel
theorem dL_law_511 : decode cL_law 511 = .ok (.invokevirtual 84, 3) := by decide +kernel
theorem dL_law_514 : decode cL_law 514 = .ok (.iload 12, 2) := by decide +kernel
theorem dL_law_516 : decode cL_law 516 = .ok (.if_icmp .ne 13, 3) := by decide +kernel
theorem dL_law_519 : decode cL_law 519 = .ok (.aload_n 1, 1) := by decide +kernel
theorem dL_law_520 : decode cL_law 520 = .ok (.iconst 2, 1) := by decide +kernel
theorem dL_law_521 : decode cL_law 521 = .ok (.invokevirtual 28, 3) := by decide +kernel
theorem dL_law_524 : decode cL_law 524 = .ok (.iload 8, 2) := by decide +kernel
theorem dL_law_526 : decode cL_law 526 = .ok (.if_icmp .eq 5, 3) := by decide +kernel
theorem dL_law_529 : decode cL_law 529 = .ok (.iconst 0, 1) := by decide +kernel
theorem dL_law_530 : decode cL_law 530 = .ok (.ireturn, 1) := by decide +kernel
theorem dL_law_531 : decode cL_law 531 = .ok (.iload 11, 2) := by decide +kernel
theorem dL_law_533 : decode cL_law 533 = .ok (.bipush 32, 2) := by decide +kernel
theorem dL_law_535 : decode cL_law 535 = .ok (.idiv, 1) := by decide +kernel
theorem dL_law_536 : decode cL_law 536 = .ok (.iload 4, 2) := by decide +kernel
theorem dL_law_538 : decode cL_law 538 = .ok (.irem, 1) := by decide +kernel
theorem dL_law_539 : decode cL_law 539 = .ok (.istore 13, 2) := by decide +kernel
theorem dL_law_541 : decode cL_law 541 = .ok (.iload 11, 2) := by decide +kernel
theorem dL_law_543 : decode cL_law 543 = .ok (.sipush 256, 3) := by decide +kernel
theorem dL_law_546 : decode cL_law 546 = .ok (.idiv, 1) := by decide +kernel
theorem dL_law_547 : decode cL_law 547 = .ok (.iload 4, 2) := by decide +kernel
theorem dL_law_549 : decode cL_law 549 = .ok (.irem, 1) := by decide +kernel
theorem dL_law_550 : decode cL_law 550 = .ok (.istore 14, 2) := by decide +kernel
theorem dL_law_552 : decode cL_law 552 = .ok (.iload 11, 2) := by decide +kernel
theorem dL_law_554 : decode cL_law 554 = .ok (.sipush 2048, 3) := by decide +kernel
theorem dL_law_557 : decode cL_law 557 = .ok (.idiv, 1) := by decide +kernel
theorem dL_law_558 : decode cL_law 558 = .ok (.iconst 4, 1) := by decide +kernel
theorem dL_law_559 : decode cL_law 559 = .ok (.irem, 1) := by decide +kernel
theorem dL_law_560 : decode cL_law 560 = .ok (.istore 15, 2) := by decide +kernel
theorem dL_law_562 : decode cL_law 562 = .ok (.iconst 1, 1) := by decide +kernel
theorem dL_law_563 : decode cL_law 563 = .ok (.istore 16, 2) := by decide +kernel
theorem dL_law_565 : decode cL_law 565 = .ok (.iconst 0, 1) := by decide +kernel
theorem dL_law_566 : decode cL_law 566 = .ok (.istore 17, 2) := by decide +kernel
theorem dL_law_568 : decode cL_law 568 = .ok (.iload 17, 2) := by decide +kernel
theorem dL_law_570 : decode cL_law 570 = .ok (.iload 15, 2) := by decide +kernel
theorem dL_law_572 : decode cL_law 572 = .ok (.if_icmp .ge 16, 3) := by decide +kernel
theorem dL_law_575 : decode cL_law 575 = .ok (.iload 16, 2) := by decide +kernel
theorem dL_law_577 : decode cL_law 577 = .ok (.iload 4, 2) := by decide +kernel
theorem dL_law_579 : decode cL_law 579 = .ok (.imul, 1) := by decide +kernel
theorem dL_law_580 : decode cL_law 580 = .ok (.istore 16, 2) := by decide +kernel
theorem dL_law_582 : decode cL_law 582 = .ok (.iinc 17 1, 3) := by decide +kernel
theorem dL_law_585 : decode cL_law 585 = .ok (.goto (-17), 3) := by decide +kernel
theorem dL_law_588 : decode cL_law 588 = .ok (.iconst 0, 1) := by decide +kernel
theorem dL_law_589 : decode cL_law 589 = .ok (.istore 17, 2) := by decide +kernel
theorem dL_law_591 : decode cL_law 591 = .ok (.iconst 0, 1) := by decide +kernel
theorem dL_law_592 : decode cL_law 592 = .ok (.istore 18, 2) := by decide +kernel
theorem dL_law_594 : decode cL_law 594 = .ok (.iload 18, 2) := by decide +kernel
theorem dL_law_596 : decode cL_law 596 = .ok (.iload 16, 2) := by decide +kernel
theorem dL_law_598 : decode cL_law 598 = .ok (.if_icmp .ge 77, 3) := by decide +kernel
theorem dL_law_601 : decode cL_law 601 = .ok (.iload 18, 2) := by decide +kernel
theorem dL_law_603 : decode cL_law 603 = .ok (.istore 19, 2) := by decide +kernel
theorem dL_law_605 : decode cL_law 605 = .ok (.iload 6, 2) := by decide +kernel
theorem dL_law_607 : decode cL_law 607 = .ok (.istore 20, 2) := by decide +kernel
theorem dL_law_609 : decode cL_law 609 = .ok (.iconst 0, 1) := by decide +kernel
theorem dL_law_610 : decode cL_law 610 = .ok (.istore 21, 2) := by decide +kernel
theorem dL_law_612 : decode cL_law 612 = .ok (.iload 21, 2) := by decide +kernel
theorem dL_law_614 : decode cL_law 614 = .ok (.iload 15, 2) := by decide +kernel
theorem dL_law_616 : decode cL_law 616 = .ok (.if_icmp .ge 31, 3) := by decide +kernel
theorem dL_law_619 : decode cL_law 619 = .ok (.iload 4, 2) := by decide +kernel
theorem dL_law_621 : decode cL_law 621 = .ok (.aload_n 2, 1) := by decide +kernel
theorem dL_law_622 : decode cL_law 622 = .ok (.iload 20, 2) := by decide +kernel
theorem dL_law_624 : decode cL_law 624 = .ok (.iload 19, 2) := by decide +kernel
theorem dL_law_626 : decode cL_law 626 = .ok (.iload 4, 2) := by decide +kernel
theorem dL_law_628 : decode cL_law 628 = .ok (.irem, 1) := by decide +kernel
theorem dL_law_629 : decode cL_law 629 = .ok (.invokestatic 60, 3) := by decide +kernel
theorem dL_law_632 : decode cL_law 632 = .ok (.istore 20, 2) := by decide +kernel
theorem dL_law_634 : decode cL_law 634 = .ok (.iload 19, 2) := by decide +kernel
theorem dL_law_636 : decode cL_law 636 = .ok (.iload 4, 2) := by decide +kernel
theorem dL_law_638 : decode cL_law 638 = .ok (.idiv, 1) := by decide +kernel
theorem dL_law_639 : decode cL_law 639 = .ok (.istore 19, 2) := by decide +kernel
theorem dL_law_641 : decode cL_law 641 = .ok (.iinc 21 1, 3) := by decide +kernel
theorem dL_law_644 : decode cL_law 644 = .ok (.goto (-32), 3) := by decide +kernel
theorem dL_law_647 : decode cL_law 647 = .ok (.iload 17, 2) := by decide +kernel
theorem dL_law_649 : decode cL_law 649 = .ok (.iload 20, 2) := by decide +kernel
theorem dL_law_651 : decode cL_law 651 = .ok (.iload 14, 2) := by decide +kernel
theorem dL_law_653 : decode cL_law 653 = .ok (.invokestatic 35, 3) := by decide +kernel
theorem dL_law_656 : decode cL_law 656 = .ok (.iload 13, 2) := by decide +kernel
theorem dL_law_658 : decode cL_law 658 = .ok (.if_icmp .ne 7, 3) := by decide +kernel
theorem dL_law_661 : decode cL_law 661 = .ok (.iconst 1, 1) := by decide +kernel
theorem dL_law_662 : decode cL_law 662 = .ok (.goto 4, 3) := by decide +kernel
theorem dL_law_665 : decode cL_law 665 = .ok (.iconst 0, 1) := by decide +kernel
theorem dL_law_666 : decode cL_law 666 = .ok (.iadd, 1) := by decide +kernel
theorem dL_law_667 : decode cL_law 667 = .ok (.istore 17, 2) := by decide +kernel
theorem dL_law_669 : decode cL_law 669 = .ok (.iinc 18 1, 3) := by decide +kernel
theorem dL_law_672 : decode cL_law 672 = .ok (.goto (-78), 3) := by decide +kernel
theorem dL_law_675 : decode cL_law 675 = .ok (.aload_n 1, 1) := by decide +kernel
theorem dL_law_676 : decode cL_law 676 = .ok (.iload 13, 2) := by decide +kernel
theorem dL_law_678 : decode cL_law 678 = .ok (.iload 14, 2) := by decide +kernel
theorem dL_law_680 : decode cL_law 680 = .ok (.iload 15, 2) := by decide +kernel
theorem dL_law_682 : decode cL_law 682 = .ok (.iconst 0, 1) := by decide +kernel
theorem dL_law_683 : decode cL_law 683 = .ok (.invokevirtual 87, 3) := by decide +kernel
theorem dL_law_686 : decode cL_law 686 = .ok (.i2l, 1) := by decide +kernel
theorem dL_law_687 : decode cL_law 687 = .ok (.aload_n 1, 1) := by decide +kernel
theorem dL_law_688 : decode cL_law 688 = .ok (.iload 13, 2) := by decide +kernel
theorem dL_law_690 : decode cL_law 690 = .ok (.iload 14, 2) := by decide +kernel
theorem dL_law_692 : decode cL_law 692 = .ok (.iload 15, 2) := by decide +kernel
theorem dL_law_694 : decode cL_law 694 = .ok (.iconst 1, 1) := by decide +kernel
theorem dL_law_695 : decode cL_law 695 = .ok (.invokevirtual 87, 3) := by decide +kernel
theorem dL_law_698 : decode cL_law 698 = .ok (.i2l, 1) := by decide +kernel
theorem dL_law_699 : decode cL_law 699 = .ok (.iload 17, 2) := by decide +kernel
theorem dL_law_701 : decode cL_law 701 = .ok (.i2l, 1) := by decide +kernel
theorem dL_law_702 : decode cL_law 702 = .ok (.iload 16, 2) := by decide +kernel
theorem dL_law_704 : decode cL_law 704 = .ok (.i2l, 1) := by decide +kernel
theorem dL_law_705 : decode cL_law 705 = .ok (.invokestatic 91, 3) := by decide +kernel
theorem dL_law_708 : decode cL_law 708 = .ok (.ifCond .ne 5, 3) := by decide +kernel
theorem dL_law_711 : decode cL_law 711 = .ok (.iconst 0, 1) := by decide +kernel
theorem dL_law_712 : decode cL_law 712 = .ok (.ireturn, 1) := by decide +kernel
theorem dL_law_713 : decode cL_law 713 = .ok (.iload 11, 2) := by decide +kernel
theorem dL_law_715 : decode cL_law 715 = .ok (.sipush 8192, 3) := by decide +kernel
theorem dL_law_718 : decode cL_law 718 = .ok (.idiv, 1) := by decide +kernel
theorem dL_law_719 : decode cL_law 719 = .ok (.iconst 5, 1) := by decide +kernel
theorem dL_law_720 : decode cL_law 720 = .ok (.irem, 1) := by decide +kernel
theorem dL_law_721 : decode cL_law 721 = .ok (.istore 18, 2) := by decide +kernel
theorem dL_law_723 : decode cL_law 723 = .ok (.iconst 1, 1) := by decide +kernel
theorem dL_law_724 : decode cL_law 724 = .ok (.istore 19, 2) := by decide +kernel
theorem dL_law_726 : decode cL_law 726 = .ok (.iconst 0, 1) := by decide +kernel
theorem dL_law_727 : decode cL_law 727 = .ok (.istore 20, 2) := by decide +kernel
theorem dL_law_729 : decode cL_law 729 = .ok (.iload 20, 2) := by decide +kernel
theorem dL_law_731 : decode cL_law 731 = .ok (.iload 18, 2) := by decide +kernel
theorem dL_law_733 : decode cL_law 733 = .ok (.if_icmp .ge 16, 3) := by decide +kernel
theorem dL_law_736 : decode cL_law 736 = .ok (.iload 19, 2) := by decide +kernel
theorem dL_law_738 : decode cL_law 738 = .ok (.iload 4, 2) := by decide +kernel
theorem dL_law_740 : decode cL_law 740 = .ok (.imul, 1) := by decide +kernel
theorem dL_law_741 : decode cL_law 741 = .ok (.istore 19, 2) := by decide +kernel
theorem dL_law_743 : decode cL_law 743 = .ok (.iinc 20 1, 3) := by decide +kernel
theorem dL_law_746 : decode cL_law 746 = .ok (.goto (-17), 3) := by decide +kernel
theorem dL_law_749 : decode cL_law 749 = .ok (.lconst 0, 1) := by decide +kernel
theorem dL_law_750 : decode cL_law 750 = .ok (.lstore 20, 2) := by decide +kernel
theorem dL_law_752 : decode cL_law 752 = .ok (.iconst 1, 1) := by decide +kernel
theorem dL_law_753 : decode cL_law 753 = .ok (.iload 4, 2) := by decide +kernel
theorem dL_law_755 : decode cL_law 755 = .ok (.ishl, 1) := by decide +kernel
theorem dL_law_756 : decode cL_law 756 = .ok (.iconst 1, 1) := by decide +kernel
theorem dL_law_757 : decode cL_law 757 = .ok (.isub, 1) := by decide +kernel
theorem dL_law_758 : decode cL_law 758 = .ok (.istore 22, 2) := by decide +kernel
theorem dL_law_760 : decode cL_law 760 = .ok (.iconst 0, 1) := by decide +kernel
theorem dL_law_761 : decode cL_law 761 = .ok (.istore 23, 2) := by decide +kernel
theorem dL_law_763 : decode cL_law 763 = .ok (.iload 23, 2) := by decide +kernel
theorem dL_law_765 : decode cL_law 765 = .ok (.iload 19, 2) := by decide +kernel
theorem dL_law_767 : decode cL_law 767 = .ok (.if_icmp .ge 141, 3) := by decide +kernel
theorem dL_law_770 : decode cL_law 770 = .ok (.iload 23, 2) := by decide +kernel
theorem dL_law_772 : decode cL_law 772 = .ok (.istore 24, 2) := by decide +kernel
theorem dL_law_774 : decode cL_law 774 = .ok (.iload 5, 2) := by decide +kernel
theorem dL_law_776 : decode cL_law 776 = .ok (.istore 25, 2) := by decide +kernel
theorem dL_law_778 : decode cL_law 778 = .ok (.iconst 0, 1) := by decide +kernel
theorem dL_law_779 : decode cL_law 779 = .ok (.istore 26, 2) := by decide +kernel
theorem dL_law_781 : decode cL_law 781 = .ok (.iconst 1, 1) := by decide +kernel
theorem dL_law_782 : decode cL_law 782 = .ok (.istore 27, 2) := by decide +kernel
theorem dL_law_784 : decode cL_law 784 = .ok (.iconst 0, 1) := by decide +kernel
theorem dL_law_785 : decode cL_law 785 = .ok (.istore 28, 2) := by decide +kernel
theorem dL_law_787 : decode cL_law 787 = .ok (.iload 28, 2) := by decide +kernel
theorem dL_law_789 : decode cL_law 789 = .ok (.iload 18, 2) := by decide +kernel
theorem dL_law_791 : decode cL_law 791 = .ok (.if_icmp .ge 66, 3) := by decide +kernel
theorem dL_law_794 : decode cL_law 794 = .ok (.iload 27, 2) := by decide +kernel
theorem dL_law_796 : decode cL_law 796 = .ok (.ifCond .eq 61, 3) := by decide +kernel
theorem dL_law_799 : decode cL_law 799 = .ok (.iload 4, 2) := by decide +kernel
theorem dL_law_801 : decode cL_law 801 = .ok (.aload_n 2, 1) := by decide +kernel
theorem dL_law_802 : decode cL_law 802 = .ok (.iload 25, 2) := by decide +kernel
theorem dL_law_804 : decode cL_law 804 = .ok (.iload 24, 2) := by decide +kernel
theorem dL_law_806 : decode cL_law 806 = .ok (.iload 4, 2) := by decide +kernel
theorem dL_law_808 : decode cL_law 808 = .ok (.irem, 1) := by decide +kernel
theorem dL_law_809 : decode cL_law 809 = .ok (.invokestatic 60, 3) := by decide +kernel
theorem dL_law_812 : decode cL_law 812 = .ok (.istore 29, 2) := by decide +kernel
theorem dL_law_814 : decode cL_law 814 = .ok (.iload 29, 2) := by decide +kernel
theorem dL_law_816 : decode cL_law 816 = .ok (.iload 25, 2) := by decide +kernel
theorem dL_law_818 : decode cL_law 818 = .ok (.if_icmp .eq 7, 3) := by decide +kernel
theorem dL_law_821 : decode cL_law 821 = .ok (.iconst 1, 1) := by decide +kernel
theorem dL_law_822 : decode cL_law 822 = .ok (.goto 4, 3) := by decide +kernel
theorem dL_law_825 : decode cL_law 825 = .ok (.iconst 0, 1) := by decide +kernel
theorem dL_law_826 : decode cL_law 826 = .ok (.istore 27, 2) := by decide +kernel
theorem dL_law_828 : decode cL_law 828 = .ok (.iload 26, 2) := by decide +kernel
theorem dL_law_830 : decode cL_law 830 = .ok (.iconst 1, 1) := by decide +kernel
theorem dL_law_831 : decode cL_law 831 = .ok (.iload 24, 2) := by decide +kernel
theorem dL_law_833 : decode cL_law 833 = .ok (.iload 4, 2) := by decide +kernel
theorem dL_law_835 : decode cL_law 835 = .ok (.irem, 1) := by decide +kernel
theorem dL_law_836 : decode cL_law 836 = .ok (.ishl, 1) := by decide +kernel
theorem dL_law_837 : decode cL_law 837 = .ok (.ior, 1) := by decide +kernel
theorem dL_law_838 : decode cL_law 838 = .ok (.istore 26, 2) := by decide +kernel
theorem dL_law_840 : decode cL_law 840 = .ok (.iload 29, 2) := by decide +kernel
theorem dL_law_842 : decode cL_law 842 = .ok (.istore 25, 2) := by decide +kernel
theorem dL_law_844 : decode cL_law 844 = .ok (.iload 24, 2) := by decide +kernel
theorem dL_law_846 : decode cL_law 846 = .ok (.iload 4, 2) := by decide +kernel
theorem dL_law_848 : decode cL_law 848 = .ok (.idiv, 1) := by decide +kernel
theorem dL_law_849 : decode cL_law 849 = .ok (.istore 24, 2) := by decide +kernel
theorem dL_law_851 : decode cL_law 851 = .ok (.iinc 28 1, 3) := by decide +kernel
theorem dL_law_854 : decode cL_law 854 = .ok (.goto (-67), 3) := by decide +kernel
theorem dL_law_857 : decode cL_law 857 = .ok (.lload 20, 2) := by decide +kernel
theorem dL_law_859 : decode cL_law 859 = .ok (.iload 27, 2) := by decide +kernel
theorem dL_law_861 : decode cL_law 861 = .ok (.ifCond .eq 14, 3) := by decide +kernel
theorem dL_law_864 : decode cL_law 864 = .ok (.iload 25, 2) := by decide +kernel
theorem dL_law_866 : decode cL_law 866 = .ok (.iload 6, 2) := by decide +kernel
theorem dL_law_868 : decode cL_law 868 = .ok (.if_icmp .ne 7, 3) := by decide +kernel
theorem dL_law_871 : decode cL_law 871 = .ok (.lconst 1, 1) := by decide +kernel
theorem dL_law_872 : decode cL_law 872 = .ok (.goto 4, 3) := by decide +kernel
theorem dL_law_875 : decode cL_law 875 = .ok (.lconst 0, 1) := by decide +kernel
theorem dL_law_876 : decode cL_law 876 = .ok (.ladd, 1) := by decide +kernel
theorem dL_law_877 : decode cL_law 877 = .ok (.lstore 20, 2) := by decide +kernel
theorem dL_law_879 : decode cL_law 879 = .ok (.iload 22, 2) := by decide +kernel
theorem dL_law_881 : decode cL_law 881 = .ok (.iload 27, 2) := by decide +kernel
theorem dL_law_883 : decode cL_law 883 = .ok (.ifCond .eq 15, 3) := by decide +kernel
theorem dL_law_886 : decode cL_law 886 = .ok (.iload 25, 2) := by decide +kernel
theorem dL_law_888 : decode cL_law 888 = .ok (.iload 6, 2) := by decide +kernel
theorem dL_law_890 : decode cL_law 890 = .ok (.if_icmp .ne 8, 3) := by decide +kernel
theorem dL_law_893 : decode cL_law 893 = .ok (.iload 26, 2) := by decide +kernel
theorem dL_law_895 : decode cL_law 895 = .ok (.goto 4, 3) := by decide +kernel
theorem dL_law_898 : decode cL_law 898 = .ok (.iconst (-1), 1) := by decide +kernel
theorem dL_law_899 : decode cL_law 899 = .ok (.iand, 1) := by decide +kernel
theorem dL_law_900 : decode cL_law 900 = .ok (.istore 22, 2) := by decide +kernel
theorem dL_law_902 : decode cL_law 902 = .ok (.iinc 23 1, 3) := by decide +kernel
theorem dL_law_905 : decode cL_law 905 = .ok (.goto (-142), 3) := by decide +kernel
theorem dL_law_908 : decode cL_law 908 = .ok (.aload_n 1, 1) := by decide +kernel
theorem dL_law_909 : decode cL_law 909 = .ok (.iload 18, 2) := by decide +kernel
theorem dL_law_911 : decode cL_law 911 = .ok (.invokevirtual 95, 3) := by decide +kernel
theorem dL_law_914 : decode cL_law 914 = .ok (.lload 20, 2) := by decide +kernel
theorem dL_law_916 : decode cL_law 916 = .ok (.lcmp, 1) := by decide +kernel
theorem dL_law_917 : decode cL_law 917 = .ok (.ifCond .ne 25, 3) := by decide +kernel
theorem dL_law_920 : decode cL_law 920 = .ok (.aload_n 1, 1) := by decide +kernel
theorem dL_law_921 : decode cL_law 921 = .ok (.iload 18, 2) := by decide +kernel
theorem dL_law_923 : decode cL_law 923 = .ok (.invokevirtual 99, 3) := by decide +kernel
theorem dL_law_926 : decode cL_law 926 = .ok (.lload 20, 2) := by decide +kernel
theorem dL_law_928 : decode cL_law 928 = .ok (.lconst 0, 1) := by decide +kernel
theorem dL_law_929 : decode cL_law 929 = .ok (.lcmp, 1) := by decide +kernel
theorem dL_law_930 : decode cL_law 930 = .ok (.ifCond .le 8, 3) := by decide +kernel
theorem dL_law_933 : decode cL_law 933 = .ok (.iload 22, 2) := by decide +kernel
theorem dL_law_935 : decode cL_law 935 = .ok (.goto 4, 3) := by decide +kernel
theorem dL_law_938 : decode cL_law 938 = .ok (.iconst 0, 1) := by decide +kernel
theorem dL_law_939 : decode cL_law 939 = .ok (.if_icmp .eq 5, 3) := by decide +kernel
theorem dL_law_942 : decode cL_law 942 = .ok (.iconst 0, 1) := by decide +kernel
theorem dL_law_943 : decode cL_law 943 = .ok (.ireturn, 1) := by decide +kernel
theorem dL_law_944 : decode cL_law 944 = .ok (.iconst 0, 1) := by decide +kernel
theorem dL_law_945 : decode cL_law 945 = .ok (.istore 23, 2) := by decide +kernel
theorem dL_law_947 : decode cL_law 947 = .ok (.iconst 0, 1) := by decide +kernel
theorem dL_law_948 : decode cL_law 948 = .ok (.istore 24, 2) := by decide +kernel
theorem dL_law_950 : decode cL_law 950 = .ok (.iload 4, 2) := by decide +kernel
theorem dL_law_952 : decode cL_law 952 = .ok (.aload_n 2, 1) := by decide +kernel
theorem dL_law_953 : decode cL_law 953 = .ok (.aload_n 3, 1) := by decide +kernel
theorem dL_law_954 : decode cL_law 954 = .ok (.iload 6, 2) := by decide +kernel
theorem dL_law_956 : decode cL_law 956 = .ok (.invokestatic 81, 3) := by decide +kernel
theorem dL_law_959 : decode cL_law 959 = .ok (.ifCond .ne 7, 3) := by decide +kernel
theorem dL_law_962 : decode cL_law 962 = .ok (.iconst 1, 1) := by decide +kernel
theorem dL_law_963 : decode cL_law 963 = .ok (.goto 4, 3) := by decide +kernel
theorem dL_law_966 : decode cL_law 966 = .ok (.iconst 0, 1) := by decide +kernel
theorem dL_law_967 : decode cL_law 967 = .ok (.istore 25, 2) := by decide +kernel
theorem dL_law_969 : decode cL_law 969 = .ok (.iconst 0, 1) := by decide +kernel
theorem dL_law_970 : decode cL_law 970 = .ok (.istore 26, 2) := by decide +kernel
theorem dL_law_972 : decode cL_law 972 = .ok (.iload 26, 2) := by decide +kernel
theorem dL_law_974 : decode cL_law 974 = .ok (.iload 4, 2) := by decide +kernel
theorem dL_law_976 : decode cL_law 976 = .ok (.if_icmp .ge 204, 3) := by decide +kernel
theorem dL_law_979 : decode cL_law 979 = .ok (.iload 25, 2) := by decide +kernel
theorem dL_law_981 : decode cL_law 981 = .ok (.ifCond .eq 199, 3) := by decide +kernel
theorem dL_law_984 : decode cL_law 984 = .ok (.iconst 0, 1) := by decide +kernel
theorem dL_law_985 : decode cL_law 985 = .ok (.istore 27, 2) := by decide +kernel
theorem dL_law_987 : decode cL_law 987 = .ok (.iconst 0, 1) := by decide +kernel
theorem dL_law_988 : decode cL_law 988 = .ok (.istore 28, 2) := by decide +kernel
theorem dL_law_990 : decode cL_law 990 = .ok (.iconst (-1), 1) := by decide +kernel
theorem dL_law_991 : decode cL_law 991 = .ok (.istore 29, 2) := by decide +kernel
theorem dL_law_993 : decode cL_law 993 = .ok (.iload 29, 2) := by decide +kernel
theorem dL_law_995 : decode cL_law 995 = .ok (.iconst 2, 1) := by decide +kernel
theorem dL_law_996 : decode cL_law 996 = .ok (.if_icmp .ge 164, 3) := by decide +kernel
theorem dL_law_999 : decode cL_law 999 = .ok (.iload 4, 2) := by decide +kernel
theorem dL_law_1001 : decode cL_law 1001 = .ok (.aload_n 2, 1) := by decide +kernel
theorem dL_law_1002 : decode cL_law 1002 = .ok (.iload 6, 2) := by decide +kernel
theorem dL_law_1004 : decode cL_law 1004 = .ok (.iload 26, 2) := by decide +kernel
theorem dL_law_1006 : decode cL_law 1006 = .ok (.iload 29, 2) := by decide +kernel
theorem dL_law_1008 : decode cL_law 1008 = .ok (.iadd, 1) := by decide +kernel
theorem dL_law_1009 : decode cL_law 1009 = .ok (.invokestatic 60, 3) := by decide +kernel
theorem dL_law_1012 : decode cL_law 1012 = .ok (.istore 30, 2) := by decide +kernel
theorem dL_law_1014 : decode cL_law 1014 = .ok (.iload 4, 2) := by decide +kernel
theorem dL_law_1016 : decode cL_law 1016 = .ok (.aload_n 2, 1) := by decide +kernel
theorem dL_law_1017 : decode cL_law 1017 = .ok (.aload_n 3, 1) := by decide +kernel
theorem dL_law_1018 : decode cL_law 1018 = .ok (.iload 30, 2) := by decide +kernel
theorem dL_law_1020 : decode cL_law 1020 = .ok (.invokestatic 81, 3) := by decide +kernel
theorem dL_law_1023 : decode cL_law 1023 = .ok (.ifCond .ne 7, 3) := by decide +kernel
theorem dL_law_1026 : decode cL_law 1026 = .ok (.iconst 1, 1) := by decide +kernel
theorem dL_law_1027 : decode cL_law 1027 = .ok (.goto 4, 3) := by decide +kernel
theorem dL_law_1030 : decode cL_law 1030 = .ok (.iconst 0, 1) := by decide +kernel
theorem dL_law_1031 : decode cL_law 1031 = .ok (.istore 31, 2) := by decide +kernel
theorem dL_law_1033 : decode cL_law 1033 = .ok (.iload 31, 2) := by decide +kernel
theorem dL_law_1035 : decode cL_law 1035 = .ok (.ifCond .eq 7, 3) := by decide +kernel
theorem dL_law_1038 : decode cL_law 1038 = .ok (.iconst 1, 1) := by decide +kernel
theorem dL_law_1039 : decode cL_law 1039 = .ok (.goto 5, 3) := by decide +kernel
theorem dL_law_1042 : decode cL_law 1042 = .ok (.iload 27, 2) := by decide +kernel
theorem dL_law_1044 : decode cL_law 1044 = .ok (.istore 27, 2) := by decide +kernel
theorem dL_law_1046 : decode cL_law 1046 = .ok (.iconst 0, 1) := by decide +kernel
theorem dL_law_1047 : decode cL_law 1047 = .ok (.istore 32, 2) := by decide +kernel
theorem dL_law_1049 : decode cL_law 1049 = .ok (.iconst 0, 1) := by decide +kernel
theorem dL_law_1050 : decode cL_law 1050 = .ok (.istore 33, 2) := by decide +kernel
theorem dL_law_1052 : decode cL_law 1052 = .ok (.iload 33, 2) := by decide +kernel
theorem dL_law_1054 : decode cL_law 1054 = .ok (.iload 4, 2) := by decide +kernel
theorem dL_law_1056 : decode cL_law 1056 = .ok (.if_icmp .ge 82, 3) := by decide +kernel
theorem dL_law_1059 : decode cL_law 1059 = .ok (.iload 31, 2) := by decide +kernel
theorem dL_law_1061 : decode cL_law 1061 = .ok (.ifCond .eq 77, 3) := by decide +kernel
theorem dL_law_1064 : decode cL_law 1064 = .ok (.iconst 0, 1) := by decide +kernel
theorem dL_law_1065 : decode cL_law 1065 = .ok (.istore 34, 2) := by decide +kernel
theorem dL_law_1067 : decode cL_law 1067 = .ok (.iconst (-1), 1) := by decide +kernel
theorem dL_law_1068 : decode cL_law 1068 = .ok (.istore 35, 2) := by decide +kernel
theorem dL_law_1070 : decode cL_law 1070 = .ok (.iload 35, 2) := by decide +kernel
theorem dL_law_1072 : decode cL_law 1072 = .ok (.iconst 2, 1) := by decide +kernel
theorem dL_law_1073 : decode cL_law 1073 = .ok (.if_icmp .ge 44, 3) := by decide +kernel
theorem dL_law_1076 : decode cL_law 1076 = .ok (.iload 34, 2) := by decide +kernel
theorem dL_law_1078 : decode cL_law 1078 = .ok (.ifCond .ne 26, 3) := by decide +kernel
theorem dL_law_1081 : decode cL_law 1081 = .ok (.iload 4, 2) := by decide +kernel
theorem dL_law_1083 : decode cL_law 1083 = .ok (.aload_n 2, 1) := by decide +kernel
theorem dL_law_1084 : decode cL_law 1084 = .ok (.aload_n 3, 1) := by decide +kernel
theorem dL_law_1085 : decode cL_law 1085 = .ok (.iload 4, 2) := by decide +kernel
theorem dL_law_1087 : decode cL_law 1087 = .ok (.aload_n 2, 1) := by decide +kernel
theorem dL_law_1088 : decode cL_law 1088 = .ok (.iload 30, 2) := by decide +kernel
theorem dL_law_1090 : decode cL_law 1090 = .ok (.iload 33, 2) := by decide +kernel
theorem dL_law_1092 : decode cL_law 1092 = .ok (.iload 35, 2) := by decide +kernel
theorem dL_law_1094 : decode cL_law 1094 = .ok (.iadd, 1) := by decide +kernel
theorem dL_law_1095 : decode cL_law 1095 = .ok (.invokestatic 60, 3) := by decide +kernel
theorem dL_law_1098 : decode cL_law 1098 = .ok (.invokestatic 81, 3) := by decide +kernel
theorem dL_law_1101 : decode cL_law 1101 = .ok (.ifCond .ne 7, 3) := by decide +kernel
theorem dL_law_1104 : decode cL_law 1104 = .ok (.iconst 1, 1) := by decide +kernel
theorem dL_law_1105 : decode cL_law 1105 = .ok (.goto 4, 3) := by decide +kernel
theorem dL_law_1108 : decode cL_law 1108 = .ok (.iconst 0, 1) := by decide +kernel
theorem dL_law_1109 : decode cL_law 1109 = .ok (.istore 34, 2) := by decide +kernel
theorem dL_law_1111 : decode cL_law 1111 = .ok (.iinc 35 1, 3) := by decide +kernel
theorem dL_law_1114 : decode cL_law 1114 = .ok (.goto (-44), 3) := by decide +kernel
theorem dL_law_1117 : decode cL_law 1117 = .ok (.iload 32, 2) := by decide +kernel
theorem dL_law_1119 : decode cL_law 1119 = .ok (.iload 34, 2) := by decide +kernel
theorem dL_law_1121 : decode cL_law 1121 = .ok (.ifCond .eq 7, 3) := by decide +kernel
theorem dL_law_1124 : decode cL_law 1124 = .ok (.iconst 1, 1) := by decide +kernel
theorem dL_law_1125 : decode cL_law 1125 = .ok (.goto 4, 3) := by decide +kernel
theorem dL_law_1128 : decode cL_law 1128 = .ok (.iconst 0, 1) := by decide +kernel
theorem dL_law_1129 : decode cL_law 1129 = .ok (.iadd, 1) := by decide +kernel
theorem dL_law_1130 : decode cL_law 1130 = .ok (.istore 32, 2) := by decide +kernel
theorem dL_law_1132 : decode cL_law 1132 = .ok (.iinc 33 1, 3) := by decide +kernel
theorem dL_law_1135 : decode cL_law 1135 = .ok (.goto (-83), 3) := by decide +kernel
theorem dL_law_1138 : decode cL_law 1138 = .ok (.iload 32, 2) := by decide +kernel
theorem dL_law_1140 : decode cL_law 1140 = .ok (.iload 28, 2) := by decide +kernel
theorem dL_law_1142 : decode cL_law 1142 = .ok (.if_icmp .le 8, 3) := by decide +kernel
theorem dL_law_1145 : decode cL_law 1145 = .ok (.iload 32, 2) := by decide +kernel
theorem dL_law_1147 : decode cL_law 1147 = .ok (.goto 5, 3) := by decide +kernel
theorem dL_law_1150 : decode cL_law 1150 = .ok (.iload 28, 2) := by decide +kernel
theorem dL_law_1152 : decode cL_law 1152 = .ok (.istore 28, 2) := by decide +kernel
theorem dL_law_1154 : decode cL_law 1154 = .ok (.iinc 29 1, 3) := by decide +kernel
theorem dL_law_1157 : decode cL_law 1157 = .ok (.goto (-164), 3) := by decide +kernel
theorem dL_law_1160 : decode cL_law 1160 = .ok (.iload 23, 2) := by decide +kernel
theorem dL_law_1162 : decode cL_law 1162 = .ok (.iload 27, 2) := by decide +kernel
theorem dL_law_1164 : decode cL_law 1164 = .ok (.iadd, 1) := by decide +kernel
theorem dL_law_1165 : decode cL_law 1165 = .ok (.istore 23, 2) := by decide +kernel
theorem dL_law_1167 : decode cL_law 1167 = .ok (.iload 24, 2) := by decide +kernel
theorem dL_law_1169 : decode cL_law 1169 = .ok (.iload 28, 2) := by decide +kernel
theorem dL_law_1171 : decode cL_law 1171 = .ok (.iadd, 1) := by decide +kernel
theorem dL_law_1172 : decode cL_law 1172 = .ok (.istore 24, 2) := by decide +kernel
theorem dL_law_1174 : decode cL_law 1174 = .ok (.iinc 26 1, 3) := by decide +kernel
theorem dL_law_1177 : decode cL_law 1177 = .ok (.goto (-205), 3) := by decide +kernel
theorem dL_law_1180 : decode cL_law 1180 = .ok (.aload_n 1, 1) := by decide +kernel
theorem dL_law_1181 : decode cL_law 1181 = .ok (.iconst 0, 1) := by decide +kernel
theorem dL_law_1182 : decode cL_law 1182 = .ok (.iconst 0, 1) := by decide +kernel
theorem dL_law_1183 : decode cL_law 1183 = .ok (.invokevirtual 102, 3) := by decide +kernel
theorem dL_law_1186 : decode cL_law 1186 = .ok (.i2l, 1) := by decide +kernel
theorem dL_law_1187 : decode cL_law 1187 = .ok (.aload_n 1, 1) := by decide +kernel
theorem dL_law_1188 : decode cL_law 1188 = .ok (.iconst 0, 1) := by decide +kernel
theorem dL_law_1189 : decode cL_law 1189 = .ok (.iconst 1, 1) := by decide +kernel
theorem dL_law_1190 : decode cL_law 1190 = .ok (.invokevirtual 102, 3) := by decide +kernel
theorem dL_law_1193 : decode cL_law 1193 = .ok (.i2l, 1) := by decide +kernel
theorem dL_law_1194 : decode cL_law 1194 = .ok (.iload 25, 2) := by decide +kernel
theorem dL_law_1196 : decode cL_law 1196 = .ok (.ifCond .eq 7, 3) := by decide +kernel
theorem dL_law_1199 : decode cL_law 1199 = .ok (.lconst 1, 1) := by decide +kernel
theorem dL_law_1200 : decode cL_law 1200 = .ok (.goto 4, 3) := by decide +kernel
theorem dL_law_1203 : decode cL_law 1203 = .ok (.lconst 0, 1) := by decide +kernel
theorem dL_law_1204 : decode cL_law 1204 = .ok (.lconst 1, 1) := by decide +kernel
theorem dL_law_1205 : decode cL_law 1205 = .ok (.invokestatic 91, 3) := by decide +kernel
theorem dL_law_1208 : decode cL_law 1208 = .ok (.ifCond .eq 59, 3) := by decide +kernel
theorem dL_law_1211 : decode cL_law 1211 = .ok (.aload_n 1, 1) := by decide +kernel
theorem dL_law_1212 : decode cL_law 1212 = .ok (.iconst 1, 1) := by decide +kernel
theorem dL_law_1213 : decode cL_law 1213 = .ok (.iconst 0, 1) := by decide +kernel
theorem dL_law_1214 : decode cL_law 1214 = .ok (.invokevirtual 102, 3) := by decide +kernel
theorem dL_law_1217 : decode cL_law 1217 = .ok (.i2l, 1) := by decide +kernel
theorem dL_law_1218 : decode cL_law 1218 = .ok (.aload_n 1, 1) := by decide +kernel
theorem dL_law_1219 : decode cL_law 1219 = .ok (.iconst 1, 1) := by decide +kernel
theorem dL_law_1220 : decode cL_law 1220 = .ok (.iconst 1, 1) := by decide +kernel
theorem dL_law_1221 : decode cL_law 1221 = .ok (.invokevirtual 102, 3) := by decide +kernel
theorem dL_law_1224 : decode cL_law 1224 = .ok (.i2l, 1) := by decide +kernel
theorem dL_law_1225 : decode cL_law 1225 = .ok (.iload 23, 2) := by decide +kernel
theorem dL_law_1227 : decode cL_law 1227 = .ok (.i2l, 1) := by decide +kernel
theorem dL_law_1228 : decode cL_law 1228 = .ok (.iload 4, 2) := by decide +kernel
theorem dL_law_1230 : decode cL_law 1230 = .ok (.i2l, 1) := by decide +kernel
theorem dL_law_1231 : decode cL_law 1231 = .ok (.invokestatic 91, 3) := by decide +kernel
theorem dL_law_1234 : decode cL_law 1234 = .ok (.ifCond .eq 33, 3) := by decide +kernel
theorem dL_law_1237 : decode cL_law 1237 = .ok (.aload_n 1, 1) := by decide +kernel
theorem dL_law_1238 : decode cL_law 1238 = .ok (.iconst 2, 1) := by decide +kernel
theorem dL_law_1239 : decode cL_law 1239 = .ok (.iconst 0, 1) := by decide +kernel
theorem dL_law_1240 : decode cL_law 1240 = .ok (.invokevirtual 102, 3) := by decide +kernel
theorem dL_law_1243 : decode cL_law 1243 = .ok (.i2l, 1) := by decide +kernel
theorem dL_law_1244 : decode cL_law 1244 = .ok (.aload_n 1, 1) := by decide +kernel
theorem dL_law_1245 : decode cL_law 1245 = .ok (.iconst 2, 1) := by decide +kernel
theorem dL_law_1246 : decode cL_law 1246 = .ok (.iconst 1, 1) := by decide +kernel
theorem dL_law_1247 : decode cL_law 1247 = .ok (.invokevirtual 102, 3) := by decide +kernel
theorem dL_law_1250 : decode cL_law 1250 = .ok (.i2l, 1) := by decide +kernel
theorem dL_law_1251 : decode cL_law 1251 = .ok (.iload 24, 2) := by decide +kernel
theorem dL_law_1253 : decode cL_law 1253 = .ok (.i2l, 1) := by decide +kernel
theorem dL_law_1254 : decode cL_law 1254 = .ok (.iload 4, 2) := by decide +kernel
theorem dL_law_1256 : decode cL_law 1256 = .ok (.i2l, 1) := by decide +kernel
theorem dL_law_1257 : decode cL_law 1257 = .ok (.iload 4, 2) := by decide +kernel
theorem dL_law_1259 : decode cL_law 1259 = .ok (.i2l, 1) := by decide +kernel
theorem dL_law_1260 : decode cL_law 1260 = .ok (.lmul, 1) := by decide +kernel
theorem dL_law_1261 : decode cL_law 1261 = .ok (.invokestatic 91, 3) := by decide +kernel
theorem dL_law_1264 : decode cL_law 1264 = .ok (.ifCond .ne 5, 3) := by decide +kernel
theorem dL_law_1267 : decode cL_law 1267 = .ok (.iconst 0, 1) := by decide +kernel
theorem dL_law_1268 : decode cL_law 1268 = .ok (.ireturn, 1) := by decide +kernel
theorem dL_law_1269 : decode cL_law 1269 = .ok (.iinc 10 1, 3) := by decide +kernel
theorem dL_law_1272 : decode cL_law 1272 = .ok (.goto (-1053), 3) := by decide +kernel
theorem dL_law_1275 : decode cL_law 1275 = .ok (.aload_n 1, 1) := by decide +kernel
theorem dL_law_1276 : decode cL_law 1276 = .ok (.iload 4, 2) := by decide +kernel
theorem dL_law_1278 : decode cL_law 1278 = .ok (.iconst 0, 1) := by decide +kernel
theorem dL_law_1279 : decode cL_law 1279 = .ok (.invokevirtual 67, 3) := by decide +kernel
theorem dL_law_1282 : decode cL_law 1282 = .ok (.bipush (-101), 2) := by decide +kernel
theorem dL_law_1284 : decode cL_law 1284 = .ok (.if_icmp .ne 274, 3) := by decide +kernel
theorem dL_law_1287 : decode cL_law 1287 = .ok (.aload_n 1, 1) := by decide +kernel
theorem dL_law_1288 : decode cL_law 1288 = .ok (.iconst 0, 1) := by decide +kernel
theorem dL_law_1289 : decode cL_law 1289 = .ok (.iconst 4, 1) := by decide +kernel
theorem dL_law_1290 : decode cL_law 1290 = .ok (.invokevirtual 67, 3) := by decide +kernel
theorem dL_law_1293 : decode cL_law 1293 = .ok (.bipush (-102), 2) := by decide +kernel
theorem dL_law_1295 : decode cL_law 1295 = .ok (.if_icmp .ne 263, 3) := by decide +kernel
theorem dL_law_1298 : decode cL_law 1298 = .ok (.aload_n 1, 1) := by decide +kernel
theorem dL_law_1299 : decode cL_law 1299 = .ok (.iload 4, 2) := by decide +kernel
theorem dL_law_1301 : decode cL_law 1301 = .ok (.iconst 0, 1) := by decide +kernel
theorem dL_law_1302 : decode cL_law 1302 = .ok (.invokevirtual 57, 3) := by decide +kernel
theorem dL_law_1305 : decode cL_law 1305 = .ok (.bipush (-101), 2) := by decide +kernel
theorem dL_law_1307 : decode cL_law 1307 = .ok (.if_icmp .ne 251, 3) := by decide +kernel
theorem dL_law_1310 : decode cL_law 1310 = .ok (.aload_n 1, 1) := by decide +kernel
theorem dL_law_1311 : decode cL_law 1311 = .ok (.iconst 0, 1) := by decide +kernel
theorem dL_law_1312 : decode cL_law 1312 = .ok (.iconst 4, 1) := by decide +kernel
theorem dL_law_1313 : decode cL_law 1313 = .ok (.invokevirtual 57, 3) := by decide +kernel
theorem dL_law_1316 : decode cL_law 1316 = .ok (.bipush (-102), 2) := by decide +kernel
theorem dL_law_1318 : decode cL_law 1318 = .ok (.if_icmp .ne 240, 3) := by decide +kernel
theorem dL_law_1321 : decode cL_law 1321 = .ok (.aload_n 1, 1) := by decide +kernel
theorem dL_law_1322 : decode cL_law 1322 = .ok (.iload 4, 2) := by decide +kernel
theorem dL_law_1324 : decode cL_law 1324 = .ok (.invokevirtual 70, 3) := by decide +kernel
theorem dL_law_1327 : decode cL_law 1327 = .ok (.bipush (-101), 2) := by decide +kernel
theorem dL_law_1329 : decode cL_law 1329 = .ok (.if_icmp .ne 229, 3) := by decide +kernel
theorem dL_law_1332 : decode cL_law 1332 = .ok (.aload_n 1, 1) := by decide +kernel
theorem dL_law_1333 : decode cL_law 1333 = .ok (.iconst (-1), 1) := by decide +kernel
theorem dL_law_1334 : decode cL_law 1334 = .ok (.invokevirtual 70, 3) := by decide +kernel
theorem dL_law_1337 : decode cL_law 1337 = .ok (.bipush (-101), 2) := by decide +kernel
theorem dL_law_1339 : decode cL_law 1339 = .ok (.if_icmp .ne 219, 3) := by decide +kernel
theorem dL_law_1342 : decode cL_law 1342 = .ok (.aload_n 1, 1) := by decide +kernel
theorem dL_law_1343 : decode cL_law 1343 = .ok (.iconst 0, 1) := by decide +kernel
theorem dL_law_1344 : decode cL_law 1344 = .ok (.iload 4, 2) := by decide +kernel
theorem dL_law_1346 : decode cL_law 1346 = .ok (.invokevirtual 54, 3) := by decide +kernel
theorem dL_law_1349 : decode cL_law 1349 = .ok (.bipush (-101), 2) := by decide +kernel
theorem dL_law_1351 : decode cL_law 1351 = .ok (.if_icmp .ne 207, 3) := by decide +kernel
theorem dL_law_1354 : decode cL_law 1354 = .ok (.aload_n 1, 1) := by decide +kernel
theorem dL_law_1355 : decode cL_law 1355 = .ok (.iload 4, 2) := by decide +kernel
theorem dL_law_1357 : decode cL_law 1357 = .ok (.invokevirtual 72, 3) := by decide +kernel
theorem dL_law_1360 : decode cL_law 1360 = .ok (.bipush (-101), 2) := by decide +kernel
theorem dL_law_1362 : decode cL_law 1362 = .ok (.if_icmp .ne 196, 3) := by decide +kernel
theorem dL_law_1365 : decode cL_law 1365 = .ok (.aload_n 1, 1) := by decide +kernel
theorem dL_law_1366 : decode cL_law 1366 = .ok (.iload 4, 2) := by decide +kernel
theorem dL_law_1368 : decode cL_law 1368 = .ok (.iconst 0, 1) := by decide +kernel
theorem dL_law_1369 : decode cL_law 1369 = .ok (.invokevirtual 64, 3) := by decide +kernel
theorem dL_law_1372 : decode cL_law 1372 = .ok (.bipush (-101), 2) := by decide +kernel
theorem dL_law_1374 : decode cL_law 1374 = .ok (.if_icmp .ne 184, 3) := by decide +kernel
theorem dL_law_1377 : decode cL_law 1377 = .ok (.aload_n 1, 1) := by decide +kernel
theorem dL_law_1378 : decode cL_law 1378 = .ok (.iconst 0, 1) := by decide +kernel
theorem dL_law_1379 : decode cL_law 1379 = .ok (.iconst 2, 1) := by decide +kernel
theorem dL_law_1380 : decode cL_law 1380 = .ok (.invokevirtual 64, 3) := by decide +kernel
theorem dL_law_1383 : decode cL_law 1383 = .ok (.bipush (-102), 2) := by decide +kernel
theorem dL_law_1385 : decode cL_law 1385 = .ok (.if_icmp .ne 173, 3) := by decide +kernel
theorem dL_law_1388 : decode cL_law 1388 = .ok (.aload_n 1, 1) := by decide +kernel
theorem dL_law_1389 : decode cL_law 1389 = .ok (.iconst 0, 1) := by decide +kernel
theorem dL_law_1390 : decode cL_law 1390 = .ok (.bipush (-2), 2) := by decide +kernel
theorem dL_law_1392 : decode cL_law 1392 = .ok (.invokevirtual 64, 3) := by decide +kernel
theorem dL_law_1395 : decode cL_law 1395 = .ok (.bipush (-102), 2) := by decide +kernel
theorem dL_law_1397 : decode cL_law 1397 = .ok (.if_icmp .ne 161, 3) := by decide +kernel
theorem dL_law_1400 : decode cL_law 1400 = .ok (.aload_n 1, 1) := by decide +kernel
theorem dL_law_1401 : decode cL_law 1401 = .ok (.bipush 6, 2) := by decide +kernel
theorem dL_law_1403 : decode cL_law 1403 = .ok (.iconst 0, 1) := by decide +kernel
theorem dL_law_1404 : decode cL_law 1404 = .ok (.invokevirtual 102, 3) := by decide +kernel
theorem dL_law_1407 : decode cL_law 1407 = .ok (.bipush (-102), 2) := by decide +kernel
theorem dL_law_1409 : decode cL_law 1409 = .ok (.if_icmp .ne 149, 3) := by decide +kernel
theorem dL_law_1412 : decode cL_law 1412 = .ok (.aload_n 1, 1) := by decide +kernel
theorem dL_law_1413 : decode cL_law 1413 = .ok (.iconst 0, 1) := by decide +kernel
theorem dL_law_1414 : decode cL_law 1414 = .ok (.iconst 2, 1) := by decide +kernel
theorem dL_law_1415 : decode cL_law 1415 = .ok (.invokevirtual 102, 3) := by decide +kernel
theorem dL_law_1418 : decode cL_law 1418 = .ok (.bipush (-102), 2) := by decide +kernel
theorem dL_law_1420 : decode cL_law 1420 = .ok (.if_icmp .ne 138, 3) := by decide +kernel
theorem dL_law_1423 : decode cL_law 1423 = .ok (.aload_n 1, 1) := by decide +kernel
theorem dL_law_1424 : decode cL_law 1424 = .ok (.iload 4, 2) := by decide +kernel
theorem dL_law_1426 : decode cL_law 1426 = .ok (.iconst 1, 1) := by decide +kernel
theorem dL_law_1427 : decode cL_law 1427 = .ok (.invokevirtual 105, 3) := by decide +kernel
theorem dL_law_1430 : decode cL_law 1430 = .ok (.bipush (-101), 2) := by decide +kernel
theorem dL_law_1432 : decode cL_law 1432 = .ok (.if_icmp .ne 126, 3) := by decide +kernel
theorem dL_law_1435 : decode cL_law 1435 = .ok (.aload_n 1, 1) := by decide +kernel
theorem dL_law_1436 : decode cL_law 1436 = .ok (.iconst 0, 1) := by decide +kernel
theorem dL_law_1437 : decode cL_law 1437 = .ok (.iconst 0, 1) := by decide +kernel
theorem dL_law_1438 : decode cL_law 1438 = .ok (.invokevirtual 105, 3) := by decide +kernel
theorem dL_law_1441 : decode cL_law 1441 = .ok (.bipush (-102), 2) := by decide +kernel
theorem dL_law_1443 : decode cL_law 1443 = .ok (.if_icmp .ne 115, 3) := by decide +kernel
theorem dL_law_1446 : decode cL_law 1446 = .ok (.aload_n 1, 1) := by decide +kernel
theorem dL_law_1447 : decode cL_law 1447 = .ok (.iconst 0, 1) := by decide +kernel
theorem dL_law_1448 : decode cL_law 1448 = .ok (.bipush 6, 2) := by decide +kernel
theorem dL_law_1450 : decode cL_law 1450 = .ok (.invokevirtual 105, 3) := by decide +kernel
theorem dL_law_1453 : decode cL_law 1453 = .ok (.bipush (-102), 2) := by decide +kernel
theorem dL_law_1455 : decode cL_law 1455 = .ok (.if_icmp .ne 103, 3) := by decide +kernel
theorem dL_law_1458 : decode cL_law 1458 = .ok (.aload_n 1, 1) := by decide +kernel
theorem dL_law_1459 : decode cL_law 1459 = .ok (.iload 4, 2) := by decide +kernel
theorem dL_law_1461 : decode cL_law 1461 = .ok (.iconst 0, 1) := by decide +kernel
theorem dL_law_1462 : decode cL_law 1462 = .ok (.iconst 0, 1) := by decide +kernel
theorem dL_law_1463 : decode cL_law 1463 = .ok (.iconst 0, 1) := by decide +kernel
theorem dL_law_1464 : decode cL_law 1464 = .ok (.invokevirtual 87, 3) := by decide +kernel
theorem dL_law_1467 : decode cL_law 1467 = .ok (.bipush (-101), 2) := by decide +kernel
theorem dL_law_1469 : decode cL_law 1469 = .ok (.if_icmp .ne 89, 3) := by decide +kernel
theorem dL_law_1472 : decode cL_law 1472 = .ok (.aload_n 1, 1) := by decide +kernel
theorem dL_law_1473 : decode cL_law 1473 = .ok (.iconst 0, 1) := by decide +kernel
theorem dL_law_1474 : decode cL_law 1474 = .ok (.iload 4, 2) := by decide +kernel
theorem dL_law_1476 : decode cL_law 1476 = .ok (.iconst 0, 1) := by decide +kernel
theorem dL_law_1477 : decode cL_law 1477 = .ok (.iconst 0, 1) := by decide +kernel
theorem dL_law_1478 : decode cL_law 1478 = .ok (.invokevirtual 87, 3) := by decide +kernel
theorem dL_law_1481 : decode cL_law 1481 = .ok (.bipush (-101), 2) := by decide +kernel
theorem dL_law_1483 : decode cL_law 1483 = .ok (.if_icmp .ne 75, 3) := by decide +kernel
theorem dL_law_1486 : decode cL_law 1486 = .ok (.aload_n 1, 1) := by decide +kernel
theorem dL_law_1487 : decode cL_law 1487 = .ok (.iconst 0, 1) := by decide +kernel
theorem dL_law_1488 : decode cL_law 1488 = .ok (.iconst 0, 1) := by decide +kernel
theorem dL_law_1489 : decode cL_law 1489 = .ok (.bipush 9, 2) := by decide +kernel
theorem dL_law_1491 : decode cL_law 1491 = .ok (.iconst 0, 1) := by decide +kernel
theorem dL_law_1492 : decode cL_law 1492 = .ok (.invokevirtual 87, 3) := by decide +kernel
theorem dL_law_1495 : decode cL_law 1495 = .ok (.bipush (-102), 2) := by decide +kernel
theorem dL_law_1497 : decode cL_law 1497 = .ok (.if_icmp .ne 61, 3) := by decide +kernel
theorem dL_law_1500 : decode cL_law 1500 = .ok (.aload_n 1, 1) := by decide +kernel
theorem dL_law_1501 : decode cL_law 1501 = .ok (.iconst 0, 1) := by decide +kernel
theorem dL_law_1502 : decode cL_law 1502 = .ok (.iconst 0, 1) := by decide +kernel
theorem dL_law_1503 : decode cL_law 1503 = .ok (.iconst 0, 1) := by decide +kernel
theorem dL_law_1504 : decode cL_law 1504 = .ok (.iconst 2, 1) := by decide +kernel
theorem dL_law_1505 : decode cL_law 1505 = .ok (.invokevirtual 87, 3) := by decide +kernel
theorem dL_law_1508 : decode cL_law 1508 = .ok (.bipush (-102), 2) := by decide +kernel
theorem dL_law_1510 : decode cL_law 1510 = .ok (.if_icmp .ne 48, 3) := by decide +kernel
theorem dL_law_1513 : decode cL_law 1513 = .ok (.aload_n 1, 1) := by decide +kernel
theorem dL_law_1514 : decode cL_law 1514 = .ok (.bipush 13, 2) := by decide +kernel
theorem dL_law_1516 : decode cL_law 1516 = .ok (.invokevirtual 95, 3) := by decide +kernel
theorem dL_law_1519 : decode cL_law 1519 = .ok (.ldc2_w 108, 3) := by decide +kernel
theorem dL_law_1522 : decode cL_law 1522 = .ok (.lcmp, 1) := by decide +kernel
theorem dL_law_1523 : decode cL_law 1523 = .ok (.ifCond .ne 35, 3) := by decide +kernel
theorem dL_law_1526 : decode cL_law 1526 = .ok (.aload_n 1, 1) := by decide +kernel
theorem dL_law_1527 : decode cL_law 1527 = .ok (.iconst (-1), 1) := by decide +kernel
theorem dL_law_1528 : decode cL_law 1528 = .ok (.invokevirtual 99, 3) := by decide +kernel
theorem dL_law_1531 : decode cL_law 1531 = .ok (.bipush (-102), 2) := by decide +kernel
theorem dL_law_1533 : decode cL_law 1533 = .ok (.if_icmp .ne 25, 3) := by decide +kernel
theorem dL_law_1536 : decode cL_law 1536 = .ok (.aload_n 1, 1) := by decide +kernel
theorem dL_law_1537 : decode cL_law 1537 = .ok (.invokevirtual 110, 3) := by decide +kernel
theorem dL_law_1540 : decode cL_law 1540 = .ok (.bipush (-103), 2) := by decide +kernel
theorem dL_law_1542 : decode cL_law 1542 = .ok (.if_icmp .ne 16, 3) := by decide +kernel
theorem dL_law_1545 : decode cL_law 1545 = .ok (.aload_n 1, 1) := by decide +kernel
theorem dL_law_1546 : decode cL_law 1546 = .ok (.invokevirtual 113, 3) := by decide +kernel
theorem dL_law_1549 : decode cL_law 1549 = .ok (.bipush (-103), 2) := by decide +kernel
theorem dL_law_1551 : decode cL_law 1551 = .ok (.if_icmp .ne 7, 3) := by decide +kernel
theorem dL_law_1554 : decode cL_law 1554 = .ok (.iconst 1, 1) := by decide +kernel
theorem dL_law_1555 : decode cL_law 1555 = .ok (.goto 4, 3) := by decide +kernel
theorem dL_law_1558 : decode cL_law 1558 = .ok (.iconst 0, 1) := by decide +kernel
theorem dL_law_1559 : decode cL_law 1559 = .ok (.ireturn, 1) := by decide +kernel
