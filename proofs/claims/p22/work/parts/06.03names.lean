theorem dX6_pass_1 : decode cX6_pass 1 = .ok (.istore_n 1, 1) := by decide +kernel
theorem dX6_pass_2 : decode cX6_pass 2 = .ok (.iload_n 1, 1) := by decide +kernel
theorem dX6_pass_3 : decode cX6_pass 3 = .ok (.bipush 12, 2) := by decide +kernel
theorem dX6_pass_5 : decode cX6_pass 5 = .ok (.if_icmp .ge 113, 3) := by decide +kernel
theorem dX6_pass_8 : decode cX6_pass 8 = .ok (.aload_n 0, 1) := by decide +kernel
theorem dX6_pass_9 : decode cX6_pass 9 = .ok (.getfield 30, 3) := by decide +kernel
theorem dX6_pass_12 : decode cX6_pass 12 = .ok (.ifCond .ge 10, 3) := by decide +kernel
theorem dX6_pass_15 : decode cX6_pass 15 = .ok (.bipush 11, 2) := by decide +kernel
theorem dX6_pass_17 : decode cX6_pass 17 = .ok (.iload_n 1, 1) := by decide +kernel
theorem dX6_pass_18 : decode cX6_pass 18 = .ok (.isub, 1) := by decide +kernel
theorem dX6_pass_19 : decode cX6_pass 19 = .ok (.goto 4, 3) := by decide +kernel
theorem dX6_pass_22 : decode cX6_pass 22 = .ok (.iload_n 1, 1) := by decide +kernel
theorem dX6_pass_23 : decode cX6_pass 23 = .ok (.istore_n 2, 1) := by decide +kernel
theorem dX6_pass_24 : decode cX6_pass 24 = .ok (.aload_n 0, 1) := by decide +kernel
theorem dX6_pass_25 : decode cX6_pass 25 = .ok (.getfield 30, 3) := by decide +kernel
theorem dX6_pass_28 : decode cX6_pass 28 = .ok (.ifCond .ge 11, 3) := by decide +kernel
theorem dX6_pass_31 : decode cX6_pass 31 = .ok (.aload_n 0, 1) := by decide +kernel
theorem dX6_pass_32 : decode cX6_pass 32 = .ok (.getfield 30, 3) := by decide +kernel
theorem dX6_pass_35 : decode cX6_pass 35 = .ok (.ineg, 1) := by decide +kernel
theorem dX6_pass_36 : decode cX6_pass 36 = .ok (.goto 7, 3) := by decide +kernel
theorem dX6_pass_39 : decode cX6_pass 39 = .ok (.aload_n 0, 1) := by decide +kernel
theorem dX6_pass_40 : decode cX6_pass 40 = .ok (.getfield 30, 3) := by decide +kernel
theorem dX6_pass_43 : decode cX6_pass 43 = .ok (.iload_n 2, 1) := by decide +kernel
theorem dX6_pass_44 : decode cX6_pass 44 = .ok (.iconst 2, 1) := by decide +kernel
theorem dX6_pass_45 : decode cX6_pass 45 = .ok (.idiv, 1) := by decide +kernel
theorem dX6_pass_46 : decode cX6_pass 46 = .ok (.isub, 1) := by decide +kernel
theorem dX6_pass_47 : decode cX6_pass 47 = .ok (.istore_n 3, 1) := by decide +kernel
theorem dX6_pass_48 : decode cX6_pass 48 = .ok (.iconst 0, 1) := by decide +kernel
theorem dX6_pass_49 : decode cX6_pass 49 = .ok (.istore 4, 2) := by decide +kernel
theorem dX6_pass_51 : decode cX6_pass 51 = .ok (.iload 4, 2) := by decide +kernel
theorem dX6_pass_53 : decode cX6_pass 53 = .ok (.bipush 8, 2) := by decide +kernel
theorem dX6_pass_55 : decode cX6_pass 55 = .ok (.if_icmp .ge 57, 3) := by decide +kernel
theorem dX6_pass_58 : decode cX6_pass 58 = .ok (.aload_n 0, 1) := by decide +kernel
theorem dX6_pass_59 : decode cX6_pass 59 = .ok (.getfield 9, 3) := by decide +kernel
theorem dX6_pass_62 : decode cX6_pass 62 = .ok (.iload_n 1, 1) := by decide +kernel
theorem dX6_pass_63 : decode cX6_pass 63 = .ok (.aaload, 1) := by decide +kernel
theorem dX6_pass_64 : decode cX6_pass 64 = .ok (.iload 4, 2) := by decide +kernel
theorem dX6_pass_66 : decode cX6_pass 66 = .ok (.dup2, 1) := by decide +kernel
theorem dX6_pass_67 : decode cX6_pass 67 = .ok (.iaload, 1) := by decide +kernel
theorem dX6_pass_68 : decode cX6_pass 68 = .ok (.iconst 1, 1) := by decide +kernel
theorem dX6_pass_69 : decode cX6_pass 69 = .ok (.iload_n 3, 1) := by decide +kernel
theorem dX6_pass_70 : decode cX6_pass 70 = .ok (.ifCond .le 7, 3) := by decide +kernel
theorem dX6_pass_73 : decode cX6_pass 73 = .ok (.iload_n 3, 1) := by decide +kernel
theorem dX6_pass_74 : decode cX6_pass 74 = .ok (.goto 4, 3) := by decide +kernel
theorem dX6_pass_77 : decode cX6_pass 77 = .ok (.iconst 0, 1) := by decide +kernel
theorem dX6_pass_78 : decode cX6_pass 78 = .ok (.iadd, 1) := by decide +kernel
theorem dX6_pass_79 : decode cX6_pass 79 = .ok (.iadd, 1) := by decide +kernel
theorem dX6_pass_80 : decode cX6_pass 80 = .ok (.iastore, 1) := by decide +kernel
theorem dX6_pass_81 : decode cX6_pass 81 = .ok (.aload_n 0, 1) := by decide +kernel
theorem dX6_pass_82 : decode cX6_pass 82 = .ok (.getfield 9, 3) := by decide +kernel
theorem dX6_pass_85 : decode cX6_pass 85 = .ok (.iload_n 1, 1) := by decide +kernel
theorem dX6_pass_86 : decode cX6_pass 86 = .ok (.aaload, 1) := by decide +kernel
theorem dX6_pass_87 : decode cX6_pass 87 = .ok (.iload 4, 2) := by decide +kernel
theorem dX6_pass_89 : decode cX6_pass 89 = .ok (.iaload, 1) := by decide +kernel
theorem dX6_pass_90 : decode cX6_pass 90 = .ok (.bipush 20, 2) := by decide +kernel
theorem dX6_pass_92 : decode cX6_pass 92 = .ok (.if_icmp .le 14, 3) := by decide +kernel
theorem dX6_pass_95 : decode cX6_pass 95 = .ok (.aload_n 0, 1) := by decide +kernel
theorem dX6_pass_96 : decode cX6_pass 96 = .ok (.getfield 9, 3) := by decide +kernel
theorem dX6_pass_99 : decode cX6_pass 99 = .ok (.iload_n 1, 1) := by decide +kernel
theorem dX6_pass_100 : decode cX6_pass 100 = .ok (.aaload, 1) := by decide +kernel
theorem dX6_pass_101 : decode cX6_pass 101 = .ok (.iload 4, 2) := by decide +kernel
theorem dX6_pass_103 : decode cX6_pass 103 = .ok (.bipush 20, 2) := by decide +kernel
theorem dX6_pass_105 : decode cX6_pass 105 = .ok (.iastore, 1) := by decide +kernel
theorem dX6_pass_106 : decode cX6_pass 106 = .ok (.iinc 4 1, 3) := by decide +kernel
theorem dX6_pass_109 : decode cX6_pass 109 = .ok (.goto (-58), 3) := by decide +kernel
theorem dX6_pass_112 : decode cX6_pass 112 = .ok (.iinc 1 1, 3) := by decide +kernel
theorem dX6_pass_115 : decode cX6_pass 115 = .ok (.goto (-113), 3) := by decide +kernel
theorem dX6_pass_118 : decode cX6_pass 118 = .ok (.aload_n 0, 1) := by decide +kernel
theorem dX6_pass_119 : decode cX6_pass 119 = .ok (.aload_n 0, 1) := by decide +kernel
theorem dX6_pass_120 : decode cX6_pass 120 = .ok (.getfield 26, 3) := by decide +kernel
theorem dX6_pass_123 : decode cX6_pass 123 = .ok (.invokevirtual 51, 3) := by decide +kernel
theorem dX6_pass_126 : decode cX6_pass 126 = .ok (.ifCond .eq 29, 3) := by decide +kernel
theorem dX6_pass_129 : decode cX6_pass 129 = .ok (.aload_n 0, 1) := by decide +kernel
theorem dX6_pass_130 : decode cX6_pass 130 = .ok (.dup, 1) := by decide +kernel
theorem dX6_pass_131 : decode cX6_pass 131 = .ok (.getfield 33, 3) := by decide +kernel
theorem dX6_pass_134 : decode cX6_pass 134 = .ok (.aload_n 0, 1) := by decide +kernel
theorem dX6_pass_135 : decode cX6_pass 135 = .ok (.invokevirtual 55, 3) := by decide +kernel
theorem dX6_pass_138 : decode cX6_pass 138 = .ok (.iadd, 1) := by decide +kernel
theorem dX6_pass_139 : decode cX6_pass 139 = .ok (.putfield 33, 3) := by decide +kernel
theorem dX6_pass_142 : decode cX6_pass 142 = .ok (.aload_n 0, 1) := by decide +kernel
theorem dX6_pass_143 : decode cX6_pass 143 = .ok (.dup, 1) := by decide +kernel
theorem dX6_pass_144 : decode cX6_pass 144 = .ok (.getfield 36, 3) := by decide +kernel
theorem dX6_pass_147 : decode cX6_pass 147 = .ok (.iconst 1, 1) := by decide +kernel
theorem dX6_pass_148 : decode cX6_pass 148 = .ok (.iadd, 1) := by decide +kernel
theorem dX6_pass_149 : decode cX6_pass 149 = .ok (.putfield 36, 3) := by decide +kernel
theorem dX6_pass_152 : decode cX6_pass 152 = .ok (.goto 236, 3) := by decide +kernel
theorem dX6_pass_155 : decode cX6_pass 155 = .ok (.aload_n 0, 1) := by decide +kernel
theorem dX6_pass_156 : decode cX6_pass 156 = .ok (.getfield 19, 3) := by decide +kernel
theorem dX6_pass_159 : decode cX6_pass 159 = .ok (.astore_n 1, 1) := by decide +kernel
theorem dX6_pass_160 : decode cX6_pass 160 = .ok (.aload_n 1, 1) := by decide +kernel
theorem dX6_pass_161 : decode cX6_pass 161 = .ok (.arraylength, 1) := by decide +kernel
theorem dX6_pass_162 : decode cX6_pass 162 = .ok (.istore_n 2, 1) := by decide +kernel
theorem dX6_pass_163 : decode cX6_pass 163 = .ok (.iconst 0, 1) := by decide +kernel
theorem dX6_pass_164 : decode cX6_pass 164 = .ok (.istore_n 3, 1) := by decide +kernel
theorem dX6_pass_165 : decode cX6_pass 165 = .ok (.iload_n 3, 1) := by decide +kernel
theorem dX6_pass_166 : decode cX6_pass 166 = .ok (.iload_n 2, 1) := by decide +kernel
theorem dX6_pass_167 : decode cX6_pass 167 = .ok (.if_icmp .ge 221, 3) := by decide +kernel
theorem dX6_pass_170 : decode cX6_pass 170 = .ok (.aload_n 1, 1) := by decide +kernel
theorem dX6_pass_171 : decode cX6_pass 171 = .ok (.iload_n 3, 1) := by decide +kernel
theorem dX6_pass_172 : decode cX6_pass 172 = .ok (.aaload, 1) := by decide +kernel
theorem dX6_pass_173 : decode cX6_pass 173 = .ok (.astore 4, 2) := by decide +kernel
theorem dX6_pass_175 : decode cX6_pass 175 = .ok (.aload 4, 2) := by decide +kernel
theorem dX6_pass_177 : decode cX6_pass 177 = .ok (.iconst 2, 1) := by decide +kernel
theorem dX6_pass_178 : decode cX6_pass 178 = .ok (.iaload, 1) := by decide +kernel
theorem dX6_pass_179 : decode cX6_pass 179 = .ok (.istore 5, 2) := by decide +kernel
theorem dX6_pass_181 : decode cX6_pass 181 = .ok (.iconst 0, 1) := by decide +kernel
theorem dX6_pass_182 : decode cX6_pass 182 = .ok (.istore 6, 2) := by decide +kernel
theorem dX6_pass_184 : decode cX6_pass 184 = .ok (.iload 6, 2) := by decide +kernel
theorem dX6_pass_186 : decode cX6_pass 186 = .ok (.ifCond .ne 196, 3) := by decide +kernel
theorem dX6_pass_189 : decode cX6_pass 189 = .ok (.iload 5, 2) := by decide +kernel
theorem dX6_pass_191 : decode cX6_pass 191 = .ok (.ifCond .le 52, 3) := by decide +kernel
theorem dX6_pass_194 : decode cX6_pass 194 = .ok (.aload_n 0, 1) := by decide +kernel
theorem dX6_pass_195 : decode cX6_pass 195 = .ok (.getfield 9, 3) := by decide +kernel
theorem dX6_pass_198 : decode cX6_pass 198 = .ok (.aload 4, 2) := by decide +kernel
theorem dX6_pass_200 : decode cX6_pass 200 = .ok (.iconst 0, 1) := by decide +kernel
theorem dX6_pass_201 : decode cX6_pass 201 = .ok (.iaload, 1) := by decide +kernel
theorem dX6_pass_202 : decode cX6_pass 202 = .ok (.aaload, 1) := by decide +kernel
theorem dX6_pass_203 : decode cX6_pass 203 = .ok (.aload 4, 2) := by decide +kernel
theorem dX6_pass_205 : decode cX6_pass 205 = .ok (.iconst 1, 1) := by decide +kernel
theorem dX6_pass_206 : decode cX6_pass 206 = .ok (.iaload, 1) := by decide +kernel
theorem dX6_pass_207 : decode cX6_pass 207 = .ok (.iaload, 1) := by decide +kernel
theorem dX6_pass_208 : decode cX6_pass 208 = .ok (.ifCond .le 35, 3) := by decide +kernel
theorem dX6_pass_211 : decode cX6_pass 211 = .ok (.aload_n 0, 1) := by decide +kernel
theorem dX6_pass_212 : decode cX6_pass 212 = .ok (.getfield 9, 3) := by decide +kernel
theorem dX6_pass_215 : decode cX6_pass 215 = .ok (.aload 4, 2) := by decide +kernel
theorem dX6_pass_217 : decode cX6_pass 217 = .ok (.iconst 0, 1) := by decide +kernel
theorem dX6_pass_218 : decode cX6_pass 218 = .ok (.iaload, 1) := by decide +kernel
theorem dX6_pass_219 : decode cX6_pass 219 = .ok (.aaload, 1) := by decide +kernel
theorem dX6_pass_220 : decode cX6_pass 220 = .ok (.aload 4, 2) := by decide +kernel
theorem dX6_pass_222 : decode cX6_pass 222 = .ok (.iconst 1, 1) := by decide +kernel
theorem dX6_pass_223 : decode cX6_pass 223 = .ok (.iaload, 1) := by decide +kernel
theorem dX6_pass_224 : decode cX6_pass 224 = .ok (.dup2, 1) := by decide +kernel
theorem dX6_pass_225 : decode cX6_pass 225 = .ok (.iaload, 1) := by decide +kernel
theorem dX6_pass_226 : decode cX6_pass 226 = .ok (.iconst 1, 1) := by decide +kernel
theorem dX6_pass_227 : decode cX6_pass 227 = .ok (.isub, 1) := by decide +kernel
theorem dX6_pass_228 : decode cX6_pass 228 = .ok (.iastore, 1) := by decide +kernel
theorem dX6_pass_229 : decode cX6_pass 229 = .ok (.aload 4, 2) := by decide +kernel
theorem dX6_pass_231 : decode cX6_pass 231 = .ok (.iconst 4, 1) := by decide +kernel
theorem dX6_pass_232 : decode cX6_pass 232 = .ok (.dup2, 1) := by decide +kernel
theorem dX6_pass_233 : decode cX6_pass 233 = .ok (.iaload, 1) := by decide +kernel
theorem dX6_pass_234 : decode cX6_pass 234 = .ok (.iconst 1, 1) := by decide +kernel
theorem dX6_pass_235 : decode cX6_pass 235 = .ok (.iadd, 1) := by decide +kernel
theorem dX6_pass_236 : decode cX6_pass 236 = .ok (.iastore, 1) := by decide +kernel
theorem dX6_pass_237 : decode cX6_pass 237 = .ok (.iinc 5 (-1), 3) := by decide +kernel
theorem dX6_pass_240 : decode cX6_pass 240 = .ok (.goto (-51), 3) := by decide +kernel
theorem dX6_pass_243 : decode cX6_pass 243 = .ok (.aload 4, 2) := by decide +kernel
theorem dX6_pass_245 : decode cX6_pass 245 = .ok (.iconst 1, 1) := by decide +kernel
theorem dX6_pass_246 : decode cX6_pass 246 = .ok (.iaload, 1) := by decide +kernel
theorem dX6_pass_247 : decode cX6_pass 247 = .ok (.bipush 7, 2) := by decide +kernel
theorem dX6_pass_249 : decode cX6_pass 249 = .ok (.if_icmp .ge 7, 3) := by decide +kernel
theorem dX6_pass_252 : decode cX6_pass 252 = .ok (.iconst 1, 1) := by decide +kernel
theorem dX6_pass_253 : decode cX6_pass 253 = .ok (.goto 4, 3) := by decide +kernel
theorem dX6_pass_256 : decode cX6_pass 256 = .ok (.iconst 3, 1) := by decide +kernel
theorem dX6_pass_257 : decode cX6_pass 257 = .ok (.istore 7, 2) := by decide +kernel
theorem dX6_pass_259 : decode cX6_pass 259 = .ok (.iload 5, 2) := by decide +kernel
theorem dX6_pass_261 : decode cX6_pass 261 = .ok (.iload 7, 2) := by decide +kernel
theorem dX6_pass_263 : decode cX6_pass 263 = .ok (.if_icmp .ge 9, 3) := by decide +kernel
theorem dX6_pass_266 : decode cX6_pass 266 = .ok (.iconst 1, 1) := by decide +kernel
theorem dX6_pass_267 : decode cX6_pass 267 = .ok (.istore 6, 2) := by decide +kernel
theorem dX6_pass_269 : decode cX6_pass 269 = .ok (.goto 93, 3) := by decide +kernel
theorem dX6_pass_272 : decode cX6_pass 272 = .ok (.aload 4, 2) := by decide +kernel
theorem dX6_pass_274 : decode cX6_pass 274 = .ok (.iconst 1, 1) := by decide +kernel
theorem dX6_pass_275 : decode cX6_pass 275 = .ok (.iaload, 1) := by decide +kernel
theorem dX6_pass_276 : decode cX6_pass 276 = .ok (.bipush 7, 2) := by decide +kernel
theorem dX6_pass_278 : decode cX6_pass 278 = .ok (.if_icmp .ge 17, 3) := by decide +kernel
theorem dX6_pass_281 : decode cX6_pass 281 = .ok (.aload 4, 2) := by decide +kernel
theorem dX6_pass_283 : decode cX6_pass 283 = .ok (.iconst 1, 1) := by decide +kernel
theorem dX6_pass_284 : decode cX6_pass 284 = .ok (.dup2, 1) := by decide +kernel
theorem dX6_pass_285 : decode cX6_pass 285 = .ok (.iaload, 1) := by decide +kernel
theorem dX6_pass_286 : decode cX6_pass 286 = .ok (.iconst 1, 1) := by decide +kernel
theorem dX6_pass_287 : decode cX6_pass 287 = .ok (.iadd, 1) := by decide +kernel
theorem dX6_pass_288 : decode cX6_pass 288 = .ok (.iastore, 1) := by decide +kernel
theorem dX6_pass_289 : decode cX6_pass 289 = .ok (.iinc 5 (-1), 3) := by decide +kernel
theorem dX6_pass_292 : decode cX6_pass 292 = .ok (.goto 70, 3) := by decide +kernel
theorem dX6_pass_295 : decode cX6_pass 295 = .ok (.aload 4, 2) := by decide +kernel
theorem dX6_pass_297 : decode cX6_pass 297 = .ok (.iconst 0, 1) := by decide +kernel
theorem dX6_pass_298 : decode cX6_pass 298 = .ok (.iaload, 1) := by decide +kernel
theorem dX6_pass_299 : decode cX6_pass 299 = .ok (.istore 8, 2) := by decide +kernel
theorem dX6_pass_301 : decode cX6_pass 301 = .ok (.aload_n 0, 1) := by decide +kernel
theorem dX6_pass_302 : decode cX6_pass 302 = .ok (.iload 8, 2) := by decide +kernel
theorem dX6_pass_304 : decode cX6_pass 304 = .ok (.invokevirtual 59, 3) := by decide +kernel
theorem dX6_pass_307 : decode cX6_pass 307 = .ok (.ifCond .lt 33, 3) := by decide +kernel
theorem dX6_pass_310 : decode cX6_pass 310 = .ok (.aload 4, 2) := by decide +kernel
theorem dX6_pass_312 : decode cX6_pass 312 = .ok (.iconst 3, 1) := by decide +kernel
theorem dX6_pass_313 : decode cX6_pass 313 = .ok (.iaload, 1) := by decide +kernel
theorem dX6_pass_314 : decode cX6_pass 314 = .ok (.ifCond .ne 13, 3) := by decide +kernel
theorem dX6_pass_317 : decode cX6_pass 317 = .ok (.iload 8, 2) := by decide +kernel
theorem dX6_pass_319 : decode cX6_pass 319 = .ok (.iconst 1, 1) := by decide +kernel
theorem dX6_pass_320 : decode cX6_pass 320 = .ok (.iadd, 1) := by decide +kernel
theorem dX6_pass_321 : decode cX6_pass 321 = .ok (.bipush 12, 2) := by decide +kernel
theorem dX6_pass_323 : decode cX6_pass 323 = .ok (.irem, 1) := by decide +kernel
theorem dX6_pass_324 : decode cX6_pass 324 = .ok (.goto 11, 3) := by decide +kernel
theorem dX6_pass_327 : decode cX6_pass 327 = .ok (.iload 8, 2) := by decide +kernel
theorem dX6_pass_329 : decode cX6_pass 329 = .ok (.bipush 11, 2) := by decide +kernel
theorem dX6_pass_331 : decode cX6_pass 331 = .ok (.iadd, 1) := by decide +kernel
theorem dX6_pass_332 : decode cX6_pass 332 = .ok (.bipush 12, 2) := by decide +kernel
theorem dX6_pass_334 : decode cX6_pass 334 = .ok (.irem, 1) := by decide +kernel
theorem dX6_pass_335 : decode cX6_pass 335 = .ok (.istore 8, 2) := by decide +kernel
theorem dX6_pass_337 : decode cX6_pass 337 = .ok (.goto (-36), 3) := by decide +kernel
theorem dX6_pass_340 : decode cX6_pass 340 = .ok (.aload 4, 2) := by decide +kernel
theorem dX6_pass_342 : decode cX6_pass 342 = .ok (.iconst 0, 1) := by decide +kernel
theorem dX6_pass_343 : decode cX6_pass 343 = .ok (.iload 8, 2) := by decide +kernel
theorem dX6_pass_345 : decode cX6_pass 345 = .ok (.iastore, 1) := by decide +kernel
theorem dX6_pass_346 : decode cX6_pass 346 = .ok (.aload 4, 2) := by decide +kernel
theorem dX6_pass_348 : decode cX6_pass 348 = .ok (.iconst 1, 1) := by decide +kernel
theorem dX6_pass_349 : decode cX6_pass 349 = .ok (.iconst 0, 1) := by decide +kernel
theorem dX6_pass_350 : decode cX6_pass 350 = .ok (.iastore, 1) := by decide +kernel
theorem dX6_pass_351 : decode cX6_pass 351 = .ok (.aload 4, 2) := by decide +kernel
theorem dX6_pass_353 : decode cX6_pass 353 = .ok (.iconst 5, 1) := by decide +kernel
theorem dX6_pass_354 : decode cX6_pass 354 = .ok (.dup2, 1) := by decide +kernel
theorem dX6_pass_355 : decode cX6_pass 355 = .ok (.iaload, 1) := by decide +kernel
theorem dX6_pass_356 : decode cX6_pass 356 = .ok (.iconst 1, 1) := by decide +kernel
theorem dX6_pass_357 : decode cX6_pass 357 = .ok (.iadd, 1) := by decide +kernel
theorem dX6_pass_358 : decode cX6_pass 358 = .ok (.iastore, 1) := by decide +kernel
theorem dX6_pass_359 : decode cX6_pass 359 = .ok (.iinc 5 (-3), 3) := by decide +kernel
theorem dX6_pass_362 : decode cX6_pass 362 = .ok (.iload 6, 2) := by decide +kernel
theorem dX6_pass_364 : decode cX6_pass 364 = .ok (.ifCond .ne 8, 3) := by decide +kernel
theorem dX6_pass_367 : decode cX6_pass 367 = .ok (.iload 5, 2) := by decide +kernel
theorem dX6_pass_369 : decode cX6_pass 369 = .ok (.ifCond .ne 7, 3) := by decide +kernel
theorem dX6_pass_372 : decode cX6_pass 372 = .ok (.iconst 1, 1) := by decide +kernel
theorem dX6_pass_373 : decode cX6_pass 373 = .ok (.goto 4, 3) := by decide +kernel
theorem dX6_pass_376 : decode cX6_pass 376 = .ok (.iconst 0, 1) := by decide +kernel
theorem dX6_pass_377 : decode cX6_pass 377 = .ok (.istore 6, 2) := by decide +kernel
theorem dX6_pass_379 : decode cX6_pass 379 = .ok (.goto (-195), 3) := by decide +kernel
theorem dX6_pass_382 : decode cX6_pass 382 = .ok (.iinc 3 1, 3) := by decide +kernel
theorem dX6_pass_385 : decode cX6_pass 385 = .ok (.goto (-220), 3) := by decide +kernel
theorem dX6_pass_388 : decode cX6_pass 388 = .ok (.aload_n 0, 1) := by decide +kernel
theorem dX6_pass_389 : decode cX6_pass 389 = .ok (.dup, 1) := by decide +kernel
theorem dX6_pass_390 : decode cX6_pass 390 = .ok (.getfield 26, 3) := by decide +kernel
theorem dX6_pass_393 : decode cX6_pass 393 = .ok (.iconst 1, 1) := by decide +kernel
theorem dX6_pass_394 : decode cX6_pass 394 = .ok (.iadd, 1) := by decide +kernel
theorem dX6_pass_395 : decode cX6_pass 395 = .ok (.putfield 26, 3) := by decide +kernel
theorem dX6_pass_398 : decode cX6_pass 398 = .ok (.return_, 1) := by decide +kernel
set_option maxRecDepth 20000 in
theorem ggX6_behind_X6_pass : GoodIn wsX6_behind wsX6_pass := goodIn_r _ [5, 6, 7, 8, 9, 10, 11, 12, 13, 14, 4, 15, 16, 17, 18, 19, 20, 21, 22, 23, 24, 25, 26, 27, 28, 29, 30, 31, 32, 33, 34, 35, 36, 37, 38] (by decide +kernel) (by decide +kernel)
set_option maxRecDepth 20000 in
theorem gX6_behind_X6_pass : GoodIn wsX6_behind (wsV RX6 63 RX6 yX6_pass wsX6_pass) := goodIn_app (goodIn_of _ (by decide +kernel)) ggX6_behind_X6_pass
theorem dX6_behind_0 : decode cX6_behind 0 = .ok (.iconst 0, 1) := by decide +kernel
theorem dX6_behind_1 : decode cX6_behind 1 = .ok (.istore_n 2, 1) := by decide +kernel
theorem dX6_behind_2 : decode cX6_behind 2 = .ok (.iload_n 2, 1) := by decide +kernel
theorem dX6_behind_3 : decode cX6_behind 3 = .ok (.iload_n 1, 1) := by decide +kernel
theorem dX6_behind_4 : decode cX6_behind 4 = .ok (.if_icmp .ge 13, 3) := by decide +kernel
theorem dX6_behind_7 : decode cX6_behind 7 = .ok (.aload_n 0, 1) := by decide +kernel
theorem dX6_behind_8 : decode cX6_behind 8 = .ok (.invokevirtual 63, 3) := by decide +kernel
theorem dX6_behind_11 : decode cX6_behind 11 = .ok (.iinc 2 1, 3) := by decide +kernel
theorem dX6_behind_14 : decode cX6_behind 14 = .ok (.goto (-12), 3) := by decide +kernel
theorem dX6_behind_17 : decode cX6_behind 17 = .ok (.aload_n 0, 1) := by decide +kernel
theorem dX6_behind_18 : decode cX6_behind 18 = .ok (.areturn, 1) := by decide +kernel
set_option maxRecDepth 20000 in
theorem ggX6_next_X6_isFeast : GoodIn wsX6_next wsX6_isFeast := goodIn_r _ [6, 7, 8, 9, 10, 11, 12, 13, 14, 15] (by decide +kernel) (by decide +kernel)
set_option maxRecDepth 20000 in
theorem gX6_next_X6_isFeast : GoodIn wsX6_next (wsV RX6 51 RX6 yX6_isFeast wsX6_isFeast) := goodIn_app (goodIn_of _ (by decide +kernel)) ggX6_next_X6_isFeast
theorem dX6_next_0 : decode cX6_next 0 = .ok (.iconst 0, 1) := by decide +kernel
theorem dX6_next_1 : decode cX6_next 1 = .ok (.istore_n 1, 1) := by decide +kernel
theorem dX6_next_2 : decode cX6_next 2 = .ok (.iload_n 1, 1) := by decide +kernel
theorem dX6_next_3 : decode cX6_next 3 = .ok (.bipush 61, 2) := by decide +kernel
theorem dX6_next_5 : decode cX6_next 5 = .ok (.if_icmp .ge 22, 3) := by decide +kernel
theorem dX6_next_8 : decode cX6_next 8 = .ok (.aload_n 0, 1) := by decide +kernel
theorem dX6_next_9 : decode cX6_next 9 = .ok (.aload_n 0, 1) := by decide +kernel
theorem dX6_next_10 : decode cX6_next 10 = .ok (.getfield 26, 3) := by decide +kernel
theorem dX6_next_13 : decode cX6_next 13 = .ok (.iload_n 1, 1) := by decide +kernel
theorem dX6_next_14 : decode cX6_next 14 = .ok (.iadd, 1) := by decide +kernel
theorem dX6_next_15 : decode cX6_next 15 = .ok (.invokevirtual 51, 3) := by decide +kernel
theorem dX6_next_18 : decode cX6_next 18 = .ok (.ifCond .ne 9, 3) := by decide +kernel
theorem dX6_next_21 : decode cX6_next 21 = .ok (.iinc 1 1, 3) := by decide +kernel
theorem dX6_next_24 : decode cX6_next 24 = .ok (.goto (-22), 3) := by decide +kernel
theorem dX6_next_27 : decode cX6_next 27 = .ok (.iload_n 1, 1) := by decide +kernel
theorem dX6_next_28 : decode cX6_next 28 = .ok (.bipush 61, 2) := by decide +kernel
theorem dX6_next_30 : decode cX6_next 30 = .ok (.if_icmp .ne 7, 3) := by decide +kernel
theorem dX6_next_33 : decode cX6_next 33 = .ok (.iconst (-1), 1) := by decide +kernel
theorem dX6_next_34 : decode cX6_next 34 = .ok (.goto 4, 3) := by decide +kernel
theorem dX6_next_37 : decode cX6_next 37 = .ok (.iload_n 1, 1) := by decide +kernel
theorem dX6_next_38 : decode cX6_next 38 = .ok (.ireturn, 1) := by decide +kernel
theorem dX6_sums_0 : decode cX6_sums 0 = .ok (.iconst 3, 1) := by decide +kernel
theorem dX6_sums_1 : decode cX6_sums 1 = .ok (.newarray .int, 2) := by decide +kernel
theorem dX6_sums_3 : decode cX6_sums 3 = .ok (.astore_n 1, 1) := by decide +kernel
theorem dX6_sums_4 : decode cX6_sums 4 = .ok (.aload_n 0, 1) := by decide +kernel
theorem dX6_sums_5 : decode cX6_sums 5 = .ok (.getfield 9, 3) := by decide +kernel
theorem dX6_sums_8 : decode cX6_sums 8 = .ok (.astore_n 2, 1) := by decide +kernel
theorem dX6_sums_9 : decode cX6_sums 9 = .ok (.aload_n 2, 1) := by decide +kernel
theorem dX6_sums_10 : decode cX6_sums 10 = .ok (.arraylength, 1) := by decide +kernel
theorem dX6_sums_11 : decode cX6_sums 11 = .ok (.istore_n 3, 1) := by decide +kernel
theorem dX6_sums_12 : decode cX6_sums 12 = .ok (.iconst 0, 1) := by decide +kernel
theorem dX6_sums_13 : decode cX6_sums 13 = .ok (.istore 4, 2) := by decide +kernel
theorem dX6_sums_15 : decode cX6_sums 15 = .ok (.iload 4, 2) := by decide +kernel
theorem dX6_sums_17 : decode cX6_sums 17 = .ok (.iload_n 3, 1) := by decide +kernel
theorem dX6_sums_18 : decode cX6_sums 18 = .ok (.if_icmp .ge 71, 3) := by decide +kernel
theorem dX6_sums_21 : decode cX6_sums 21 = .ok (.aload_n 2, 1) := by decide +kernel
theorem dX6_sums_22 : decode cX6_sums 22 = .ok (.iload 4, 2) := by decide +kernel
theorem dX6_sums_24 : decode cX6_sums 24 = .ok (.aaload, 1) := by decide +kernel
theorem dX6_sums_25 : decode cX6_sums 25 = .ok (.astore 5, 2) := by decide +kernel
theorem dX6_sums_27 : decode cX6_sums 27 = .ok (.aload 5, 2) := by decide +kernel
theorem dX6_sums_29 : decode cX6_sums 29 = .ok (.astore 6, 2) := by decide +kernel
theorem dX6_sums_31 : decode cX6_sums 31 = .ok (.aload 6, 2) := by decide +kernel
theorem dX6_sums_33 : decode cX6_sums 33 = .ok (.arraylength, 1) := by decide +kernel
theorem dX6_sums_34 : decode cX6_sums 34 = .ok (.istore 7, 2) := by decide +kernel
theorem dX6_sums_36 : decode cX6_sums 36 = .ok (.iconst 0, 1) := by decide +kernel
theorem dX6_sums_37 : decode cX6_sums 37 = .ok (.istore 8, 2) := by decide +kernel
theorem dX6_sums_39 : decode cX6_sums 39 = .ok (.iload 8, 2) := by decide +kernel
theorem dX6_sums_41 : decode cX6_sums 41 = .ok (.iload 7, 2) := by decide +kernel
theorem dX6_sums_43 : decode cX6_sums 43 = .ok (.if_icmp .ge 40, 3) := by decide +kernel
theorem dX6_sums_46 : decode cX6_sums 46 = .ok (.aload 6, 2) := by decide +kernel
theorem dX6_sums_48 : decode cX6_sums 48 = .ok (.iload 8, 2) := by decide +kernel
theorem dX6_sums_50 : decode cX6_sums 50 = .ok (.iaload, 1) := by decide +kernel
theorem dX6_sums_51 : decode cX6_sums 51 = .ok (.istore 9, 2) := by decide +kernel
theorem dX6_sums_53 : decode cX6_sums 53 = .ok (.aload_n 1, 1) := by decide +kernel
theorem dX6_sums_54 : decode cX6_sums 54 = .ok (.iconst 0, 1) := by decide +kernel
theorem dX6_sums_55 : decode cX6_sums 55 = .ok (.dup2, 1) := by decide +kernel
theorem dX6_sums_56 : decode cX6_sums 56 = .ok (.iaload, 1) := by decide +kernel
theorem dX6_sums_57 : decode cX6_sums 57 = .ok (.iload 9, 2) := by decide +kernel
theorem dX6_sums_59 : decode cX6_sums 59 = .ok (.iadd, 1) := by decide +kernel
theorem dX6_sums_60 : decode cX6_sums 60 = .ok (.iastore, 1) := by decide +kernel
theorem dX6_sums_61 : decode cX6_sums 61 = .ok (.aload_n 1, 1) := by decide +kernel
theorem dX6_sums_62 : decode cX6_sums 62 = .ok (.iconst 1, 1) := by decide +kernel
theorem dX6_sums_63 : decode cX6_sums 63 = .ok (.dup2, 1) := by decide +kernel
theorem dX6_sums_64 : decode cX6_sums 64 = .ok (.iaload, 1) := by decide +kernel
theorem dX6_sums_65 : decode cX6_sums 65 = .ok (.iload 9, 2) := by decide +kernel
theorem dX6_sums_67 : decode cX6_sums 67 = .ok (.ifCond .ne 7, 3) := by decide +kernel
theorem dX6_sums_70 : decode cX6_sums 70 = .ok (.iconst 1, 1) := by decide +kernel
theorem dX6_sums_71 : decode cX6_sums 71 = .ok (.goto 4, 3) := by decide +kernel
theorem dX6_sums_74 : decode cX6_sums 74 = .ok (.iconst 0, 1) := by decide +kernel
theorem dX6_sums_75 : decode cX6_sums 75 = .ok (.iadd, 1) := by decide +kernel
theorem dX6_sums_76 : decode cX6_sums 76 = .ok (.iastore, 1) := by decide +kernel
theorem dX6_sums_77 : decode cX6_sums 77 = .ok (.iinc 8 1, 3) := by decide +kernel
theorem dX6_sums_80 : decode cX6_sums 80 = .ok (.goto (-41), 3) := by decide +kernel
theorem dX6_sums_83 : decode cX6_sums 83 = .ok (.iinc 4 1, 3) := by decide +kernel
theorem dX6_sums_86 : decode cX6_sums 86 = .ok (.goto (-71), 3) := by decide +kernel
theorem dX6_sums_89 : decode cX6_sums 89 = .ok (.aload_n 0, 1) := by decide +kernel
theorem dX6_sums_90 : decode cX6_sums 90 = .ok (.getfield 19, 3) := by decide +kernel
theorem dX6_sums_93 : decode cX6_sums 93 = .ok (.astore_n 2, 1) := by decide +kernel
theorem dX6_sums_94 : decode cX6_sums 94 = .ok (.aload_n 2, 1) := by decide +kernel
theorem dX6_sums_95 : decode cX6_sums 95 = .ok (.arraylength, 1) := by decide +kernel
theorem dX6_sums_96 : decode cX6_sums 96 = .ok (.istore_n 3, 1) := by decide +kernel
theorem dX6_sums_97 : decode cX6_sums 97 = .ok (.iconst 0, 1) := by decide +kernel
theorem dX6_sums_98 : decode cX6_sums 98 = .ok (.istore 4, 2) := by decide +kernel
theorem dX6_sums_100 : decode cX6_sums 100 = .ok (.iload 4, 2) := by decide +kernel
theorem dX6_sums_102 : decode cX6_sums 102 = .ok (.iload_n 3, 1) := by decide +kernel
theorem dX6_sums_103 : decode cX6_sums 103 = .ok (.if_icmp .ge 25, 3) := by decide +kernel
theorem dX6_sums_106 : decode cX6_sums 106 = .ok (.aload_n 2, 1) := by decide +kernel
theorem dX6_sums_107 : decode cX6_sums 107 = .ok (.iload 4, 2) := by decide +kernel
theorem dX6_sums_109 : decode cX6_sums 109 = .ok (.aaload, 1) := by decide +kernel
theorem dX6_sums_110 : decode cX6_sums 110 = .ok (.astore 5, 2) := by decide +kernel
theorem dX6_sums_112 : decode cX6_sums 112 = .ok (.aload_n 1, 1) := by decide +kernel
theorem dX6_sums_113 : decode cX6_sums 113 = .ok (.iconst 2, 1) := by decide +kernel
theorem dX6_sums_114 : decode cX6_sums 114 = .ok (.dup2, 1) := by decide +kernel
theorem dX6_sums_115 : decode cX6_sums 115 = .ok (.iaload, 1) := by decide +kernel
theorem dX6_sums_116 : decode cX6_sums 116 = .ok (.aload 5, 2) := by decide +kernel
theorem dX6_sums_118 : decode cX6_sums 118 = .ok (.iconst 4, 1) := by decide +kernel
theorem dX6_sums_119 : decode cX6_sums 119 = .ok (.iaload, 1) := by decide +kernel
theorem dX6_sums_120 : decode cX6_sums 120 = .ok (.iadd, 1) := by decide +kernel
theorem dX6_sums_121 : decode cX6_sums 121 = .ok (.iastore, 1) := by decide +kernel
theorem dX6_sums_122 : decode cX6_sums 122 = .ok (.iinc 4 1, 3) := by decide +kernel
theorem dX6_sums_125 : decode cX6_sums 125 = .ok (.goto (-25), 3) := by decide +kernel
theorem dX6_sums_128 : decode cX6_sums 128 = .ok (.aload_n 1, 1) := by decide +kernel
theorem dX6_sums_129 : decode cX6_sums 129 = .ok (.areturn, 1) := by decide +kernel
set_option maxRecDepth 20000 in
theorem ggX6_isSame_X6_sums : GoodIn wsX6_isSame wsX6_sums := goodIn_r _ [15, 1, 9, 4, 163, 164, 165, 166, 167, 168, 169, 170] (by decide +kernel) (by decide +kernel)
set_option maxRecDepth 20000 in
theorem gX6_isSame_X6_sums : GoodIn wsX6_isSame (wsV RX6 66 RX6 yX6_sums wsX6_sums) := goodIn_app (goodIn_of _ (by decide +kernel)) ggX6_isSame_X6_sums
set_option maxRecDepth 20000 in
theorem ggX6_isSame_X6_bring : GoodIn wsX6_isSame wsX6_bring := goodIn_r _ [19, 3, 20, 21, 22, 14, 23, 1, 9, 163, 164, 165, 166, 167, 168, 169, 170] (by decide +kernel) (by decide +kernel)
set_option maxRecDepth 20000 in
theorem gX6_isSame_X6_bring : GoodIn wsX6_isSame (wsV RX6 55 RX6 yX6_bring wsX6_bring) := goodIn_app (goodIn_of _ (by decide +kernel)) ggX6_isSame_X6_bring
set_option maxRecDepth 20000 in
theorem ggX6_isSame_X5_count : GoodIn wsX6_isSame wsX5_count := goodIn_ca (goodIn_r _ [28, 29, 30, 31, 32, 33, 27, 34, 35, 36, 37, 38, 39, 40, 41, 42, 43, 44, 45, 46, 47, 48, 49, 50, 51, 52, 53, 54, 55, 56, 57, 58, 59, 60, 61, 62, 63, 64, 65, 66, 67, 68, 69, 70, 71, 72, 73, 74, 75, 76, 77, 78, 79, 80, 81, 82, 83, 84, 85, 171, 172, 173, 174, 175, 176, 177, 178, 179, 180, 181, 182, 183, 184, 185, 186, 187, 188, 189, 190, 191, 192, 193, 194, 195, 196, 197] (by decide +kernel) (by decide +kernel)) (goodIn_sub (fun _ h => List.mem_cons_of_mem _ (List.mem_append_left _ (List.mem_append_right _ h))) (by decide +kernel))
set_option maxRecDepth 20000 in
theorem gX6_isSame_X5_count : GoodIn wsX6_isSame (wsV RX6 70 RX5 yX5_count wsX5_count) := goodIn_app (goodIn_of _ (by decide +kernel)) ggX6_isSame_X5_count
set_option maxRecDepth 20000 in
theorem ggX6_isSame_X5_soot : GoodIn wsX6_isSame wsX5_soot := goodIn_ca (goodIn_r _ [89, 29, 30, 35, 90, 91, 27, 92, 93, 83, 84, 41, 85, 43, 171, 172, 173, 174, 175, 176, 177, 178, 179, 180, 197] (by decide +kernel) (by decide +kernel)) (goodIn_sub (fun _ h => List.mem_cons_of_mem _ (List.mem_append_left _ (List.mem_append_right _ h))) (by decide +kernel))
set_option maxRecDepth 20000 in
theorem gX6_isSame_X5_soot : GoodIn wsX6_isSame (wsV RX6 75 RX5 yX5_soot wsX5_soot) := goodIn_app (goodIn_of _ (by decide +kernel)) ggX6_isSame_X5_soot
set_option maxRecDepth 20000 in
theorem ggX6_isSame_X6_of : GoodIn wsX6_isSame wsX6_of := goodIn_r _ [23, 1, 9, 163, 164, 165, 166, 167, 168, 169, 170] (by decide +kernel) (by decide +kernel)
set_option maxRecDepth 20000 in
theorem gX6_isSame_X6_of : GoodIn wsX6_isSame (wsV RX6 47 RX6 yX6_of wsX6_of) := goodIn_app (goodIn_of _ (by decide +kernel)) ggX6_isSame_X6_of
set_option maxRecDepth 20000 in
theorem ggX6_isSame_X5_about : GoodIn wsX6_isSame wsX5_about := goodIn_ca (goodIn_r _ [97, 29, 30, 36, 35, 98, 99, 100, 27, 101, 102, 103, 104, 58, 105, 80, 81, 74, 75, 65, 76, 77, 78, 79, 82, 83, 84, 41, 85, 43, 106, 107, 108, 109, 66, 67, 68, 69, 61, 62, 63, 64, 70, 71, 72, 73, 171, 172, 173, 174, 175, 176, 177, 178, 179, 180, 181, 182, 183, 184, 185, 186, 197] (by decide +kernel) (by decide +kernel)) (goodIn_sub (fun _ h => List.mem_cons_of_mem _ (List.mem_append_left _ (List.mem_append_right _ h))) (by decide +kernel))
set_option maxRecDepth 20000 in
theorem gX6_isSame_X5_about : GoodIn wsX6_isSame (wsV RX6 78 RX5 yX5_about wsX5_about) := goodIn_app (goodIn_of _ (by decide +kernel)) ggX6_isSame_X5_about
set_option maxRecDepth 20000 in
theorem ggX6_isSame_X5_told : GoodIn wsX6_isSame wsX5_told := goodIn_ca (goodIn_r _ [113, 29, 30, 35, 114, 115, 116, 27, 117, 118, 119, 120, 51, 121, 122, 123, 124, 125, 54, 126, 171, 172, 173, 174, 175, 176, 177, 178, 179, 180, 187, 188, 189, 190, 191, 192, 193] (by decide +kernel) (by decide +kernel)) (goodIn_sub (fun _ h => List.mem_cons_of_mem _ (List.mem_append_left _ (List.mem_append_right _ h))) (by decide +kernel))
set_option maxRecDepth 20000 in
theorem gX6_isSame_X5_told : GoodIn wsX6_isSame (wsV RX6 81 RX5 yX5_told wsX5_told) := goodIn_app (goodIn_of _ (by decide +kernel)) ggX6_isSame_X5_told
set_option maxRecDepth 20000 in
theorem ggX6_isSame_X5_mean : GoodIn wsX6_isSame wsX5_mean := goodIn_r _ [130, 35, 131, 38, 39, 40, 41, 42, 43, 171, 172, 173, 174, 175, 176, 177, 178, 179, 180, 197] (by decide +kernel) (by decide +kernel)
set_option maxRecDepth 20000 in
theorem gX6_isSame_X5_mean : GoodIn wsX6_isSame (wsV RX6 84 RX5 yX5_mean wsX5_mean) := goodIn_app (goodIn_of _ (by decide +kernel)) ggX6_isSame_X5_mean
set_option maxRecDepth 20000 in
theorem ggX6_isSame_X5_next : GoodIn wsX6_isSame wsX5_next := goodIn_r _ [135, 37, 35, 136, 137, 138, 139, 140, 141, 142, 143, 144, 145, 146, 147, 171, 172, 173, 174, 175, 176, 177, 178, 179, 180, 194, 195, 196] (by decide +kernel) (by decide +kernel)
set_option maxRecDepth 20000 in
theorem gX6_isSame_X5_next : GoodIn wsX6_isSame (wsV RX6 90 RX5 yX5_next wsX5_next) := goodIn_app (goodIn_of _ (by decide +kernel)) ggX6_isSame_X5_next
set_option maxRecDepth 20000 in
theorem ggX6_isSame_X6_next : GoodIn wsX6_isSame wsX6_next := goodIn_r _ [151, 2, 152, 153, 154, 14, 155, 5, 163, 164, 165, 166, 167, 168, 169, 170] (by decide +kernel) (by decide +kernel)
set_option maxRecDepth 20000 in
theorem gX6_isSame_X6_next : GoodIn wsX6_isSame (wsV RX6 93 RX6 yX6_next wsX6_next) := goodIn_app (goodIn_of _ (by decide +kernel)) ggX6_isSame_X6_next
set_option maxRecDepth 20000 in
theorem ggX6_isSame_X5_isFeast : GoodIn wsX6_isSame wsX5_isFeast := goodIn_ca (goodIn_r _ [159, 160, 161, 37, 35, 162, 142, 143, 139, 144, 145, 146, 147, 171, 172, 173, 174, 175, 176, 177, 178, 179, 180, 194, 195, 196] (by decide +kernel) (by decide +kernel)) (goodIn_sub (fun _ h => List.mem_cons_of_mem _ (List.mem_append_right _ h)) (by decide +kernel))
set_option maxRecDepth 20000 in
theorem gX6_isSame_X5_isFeast : GoodIn wsX6_isSame (wsV RX6 94 RX5 yX5_isFeast wsX5_isFeast) := goodIn_app (goodIn_of _ (by decide +kernel)) ggX6_isSame_X5_isFeast
set_option maxRecDepth 20000 in
theorem ggX6_isSame_X6_isFeast : GoodIn wsX6_isSame wsX6_isFeast := goodIn_r _ [155, 5, 163, 164, 165, 166, 167, 168, 169, 170] (by decide +kernel) (by decide +kernel)
set_option maxRecDepth 20000 in
theorem gX6_isSame_X6_isFeast : GoodIn wsX6_isSame (wsV RX6 51 RX6 yX6_isFeast wsX6_isFeast) := goodIn_app (goodIn_of _ (by decide +kernel)) ggX6_isSame_X6_isFeast
theorem dX6_isSame_0 : decode cX6_isSame 0 = .ok (.aload_n 0, 1) := by decide +kernel
theorem dX6_isSame_1 : decode cX6_isSame 1 = .ok (.invokevirtual 66, 3) := by decide +kernel
theorem dX6_isSame_4 : decode cX6_isSame 4 = .ok (.astore_n 2, 1) := by decide +kernel
theorem dX6_isSame_5 : decode cX6_isSame 5 = .ok (.bipush 11, 2) := by decide +kernel
theorem dX6_isSame_7 : decode cX6_isSame 7 = .ok (.newarray .int, 2) := by decide +kernel
theorem dX6_isSame_9 : decode cX6_isSame 9 = .ok (.dup, 1) := by decide +kernel
theorem dX6_isSame_10 : decode cX6_isSame 10 = .ok (.iconst 0, 1) := by decide +kernel
theorem dX6_isSame_11 : decode cX6_isSame 11 = .ok (.aload_n 0, 1) := by decide +kernel
theorem dX6_isSame_12 : decode cX6_isSame 12 = .ok (.getfield 26, 3) := by decide +kernel
theorem dX6_isSame_15 : decode cX6_isSame 15 = .ok (.iastore, 1) := by decide +kernel
theorem dX6_isSame_16 : decode cX6_isSame 16 = .ok (.dup, 1) := by decide +kernel
theorem dX6_isSame_17 : decode cX6_isSame 17 = .ok (.iconst 1, 1) := by decide +kernel
theorem dX6_isSame_18 : decode cX6_isSame 18 = .ok (.aload_n 0, 1) := by decide +kernel
theorem dX6_isSame_19 : decode cX6_isSame 19 = .ok (.getfield 16, 3) := by decide +kernel
theorem dX6_isSame_22 : decode cX6_isSame 22 = .ok (.arraylength, 1) := by decide +kernel
theorem dX6_isSame_23 : decode cX6_isSame 23 = .ok (.iastore, 1) := by decide +kernel
theorem dX6_isSame_24 : decode cX6_isSame 24 = .ok (.dup, 1) := by decide +kernel
theorem dX6_isSame_25 : decode cX6_isSame 25 = .ok (.iconst 2, 1) := by decide +kernel
theorem dX6_isSame_26 : decode cX6_isSame 26 = .ok (.aload_n 0, 1) := by decide +kernel
theorem dX6_isSame_27 : decode cX6_isSame 27 = .ok (.getfield 19, 3) := by decide +kernel
theorem dX6_isSame_30 : decode cX6_isSame 30 = .ok (.arraylength, 1) := by decide +kernel
theorem dX6_isSame_31 : decode cX6_isSame 31 = .ok (.iastore, 1) := by decide +kernel
theorem dX6_isSame_32 : decode cX6_isSame 32 = .ok (.dup, 1) := by decide +kernel
theorem dX6_isSame_33 : decode cX6_isSame 33 = .ok (.iconst 3, 1) := by decide +kernel
theorem dX6_isSame_34 : decode cX6_isSame 34 = .ok (.aload_n 0, 1) := by decide +kernel
theorem dX6_isSame_35 : decode cX6_isSame 35 = .ok (.getfield 22, 3) := by decide +kernel
theorem dX6_isSame_38 : decode cX6_isSame 38 = .ok (.arraylength, 1) := by decide +kernel
theorem dX6_isSame_39 : decode cX6_isSame 39 = .ok (.iastore, 1) := by decide +kernel
theorem dX6_isSame_40 : decode cX6_isSame 40 = .ok (.dup, 1) := by decide +kernel
theorem dX6_isSame_41 : decode cX6_isSame 41 = .ok (.iconst 4, 1) := by decide +kernel
theorem dX6_isSame_42 : decode cX6_isSame 42 = .ok (.aload_n 0, 1) := by decide +kernel
theorem dX6_isSame_43 : decode cX6_isSame 43 = .ok (.getfield 30, 3) := by decide +kernel
theorem dX6_isSame_46 : decode cX6_isSame 46 = .ok (.iastore, 1) := by decide +kernel
theorem dX6_isSame_47 : decode cX6_isSame 47 = .ok (.dup, 1) := by decide +kernel
theorem dX6_isSame_48 : decode cX6_isSame 48 = .ok (.iconst 5, 1) := by decide +kernel
theorem dX6_isSame_49 : decode cX6_isSame 49 = .ok (.aload_n 2, 1) := by decide +kernel
theorem dX6_isSame_50 : decode cX6_isSame 50 = .ok (.iconst 0, 1) := by decide +kernel
theorem dX6_isSame_51 : decode cX6_isSame 51 = .ok (.iaload, 1) := by decide +kernel
theorem dX6_isSame_52 : decode cX6_isSame 52 = .ok (.iastore, 1) := by decide +kernel
theorem dX6_isSame_53 : decode cX6_isSame 53 = .ok (.dup, 1) := by decide +kernel
theorem dX6_isSame_54 : decode cX6_isSame 54 = .ok (.bipush 6, 2) := by decide +kernel
theorem dX6_isSame_56 : decode cX6_isSame 56 = .ok (.aload_n 2, 1) := by decide +kernel
theorem dX6_isSame_57 : decode cX6_isSame 57 = .ok (.iconst 1, 1) := by decide +kernel
theorem dX6_isSame_58 : decode cX6_isSame 58 = .ok (.iaload, 1) := by decide +kernel
theorem dX6_isSame_59 : decode cX6_isSame 59 = .ok (.iastore, 1) := by decide +kernel
theorem dX6_isSame_60 : decode cX6_isSame 60 = .ok (.dup, 1) := by decide +kernel
theorem dX6_isSame_61 : decode cX6_isSame 61 = .ok (.bipush 7, 2) := by decide +kernel
theorem dX6_isSame_63 : decode cX6_isSame 63 = .ok (.aload_n 2, 1) := by decide +kernel
theorem dX6_isSame_64 : decode cX6_isSame 64 = .ok (.iconst 2, 1) := by decide +kernel
theorem dX6_isSame_65 : decode cX6_isSame 65 = .ok (.iaload, 1) := by decide +kernel
theorem dX6_isSame_66 : decode cX6_isSame 66 = .ok (.iastore, 1) := by decide +kernel
theorem dX6_isSame_67 : decode cX6_isSame 67 = .ok (.dup, 1) := by decide +kernel
theorem dX6_isSame_68 : decode cX6_isSame 68 = .ok (.bipush 8, 2) := by decide +kernel
theorem dX6_isSame_70 : decode cX6_isSame 70 = .ok (.aload_n 0, 1) := by decide +kernel
theorem dX6_isSame_71 : decode cX6_isSame 71 = .ok (.getfield 33, 3) := by decide +kernel
theorem dX6_isSame_74 : decode cX6_isSame 74 = .ok (.iastore, 1) := by decide +kernel
theorem dX6_isSame_75 : decode cX6_isSame 75 = .ok (.dup, 1) := by decide +kernel
theorem dX6_isSame_76 : decode cX6_isSame 76 = .ok (.bipush 9, 2) := by decide +kernel
theorem dX6_isSame_78 : decode cX6_isSame 78 = .ok (.aload_n 0, 1) := by decide +kernel
theorem dX6_isSame_79 : decode cX6_isSame 79 = .ok (.getfield 36, 3) := by decide +kernel
theorem dX6_isSame_82 : decode cX6_isSame 82 = .ok (.iastore, 1) := by decide +kernel
theorem dX6_isSame_83 : decode cX6_isSame 83 = .ok (.dup, 1) := by decide +kernel
theorem dX6_isSame_84 : decode cX6_isSame 84 = .ok (.bipush 10, 2) := by decide +kernel
theorem dX6_isSame_86 : decode cX6_isSame 86 = .ok (.aload_n 0, 1) := by decide +kernel
theorem dX6_isSame_87 : decode cX6_isSame 87 = .ok (.invokevirtual 55, 3) := by decide +kernel
theorem dX6_isSame_90 : decode cX6_isSame 90 = .ok (.iastore, 1) := by decide +kernel
theorem dX6_isSame_91 : decode cX6_isSame 91 = .ok (.astore_n 3, 1) := by decide +kernel
theorem dX6_isSame_92 : decode cX6_isSame 92 = .ok (.iconst 0, 1) := by decide +kernel
theorem dX6_isSame_93 : decode cX6_isSame 93 = .ok (.istore 4, 2) := by decide +kernel
theorem dX6_isSame_95 : decode cX6_isSame 95 = .ok (.iload 4, 2) := by decide +kernel
theorem dX6_isSame_97 : decode cX6_isSame 97 = .ok (.bipush 11, 2) := by decide +kernel
theorem dX6_isSame_99 : decode cX6_isSame 99 = .ok (.if_icmp .ge 24, 3) := by decide +kernel
theorem dX6_isSame_102 : decode cX6_isSame 102 = .ok (.aload_n 1, 1) := by decide +kernel
theorem dX6_isSame_103 : decode cX6_isSame 103 = .ok (.iload 4, 2) := by decide +kernel
theorem dX6_isSame_105 : decode cX6_isSame 105 = .ok (.invokevirtual 70, 3) := by decide +kernel
theorem dX6_isSame_108 : decode cX6_isSame 108 = .ok (.aload_n 3, 1) := by decide +kernel
theorem dX6_isSame_109 : decode cX6_isSame 109 = .ok (.iload 4, 2) := by decide +kernel
theorem dX6_isSame_111 : decode cX6_isSame 111 = .ok (.iaload, 1) := by decide +kernel
theorem dX6_isSame_112 : decode cX6_isSame 112 = .ok (.if_icmp .eq 5, 3) := by decide +kernel
theorem dX6_isSame_115 : decode cX6_isSame 115 = .ok (.iconst 0, 1) := by decide +kernel
theorem dX6_isSame_116 : decode cX6_isSame 116 = .ok (.ireturn, 1) := by decide +kernel
theorem dX6_isSame_117 : decode cX6_isSame 117 = .ok (.iinc 4 1, 3) := by decide +kernel
theorem dX6_isSame_120 : decode cX6_isSame 120 = .ok (.goto (-25), 3) := by decide +kernel
theorem dX6_isSame_123 : decode cX6_isSame 123 = .ok (.iconst 0, 1) := by decide +kernel
theorem dX6_isSame_124 : decode cX6_isSame 124 = .ok (.istore 4, 2) := by decide +kernel
theorem dX6_isSame_126 : decode cX6_isSame 126 = .ok (.iload 4, 2) := by decide +kernel
theorem dX6_isSame_128 : decode cX6_isSame 128 = .ok (.bipush 12, 2) := by decide +kernel
theorem dX6_isSame_130 : decode cX6_isSame 130 = .ok (.if_icmp .ge 48, 3) := by decide +kernel
theorem dX6_isSame_133 : decode cX6_isSame 133 = .ok (.iconst 0, 1) := by decide +kernel
theorem dX6_isSame_134 : decode cX6_isSame 134 = .ok (.istore 5, 2) := by decide +kernel
theorem dX6_isSame_136 : decode cX6_isSame 136 = .ok (.iload 5, 2) := by decide +kernel
theorem dX6_isSame_138 : decode cX6_isSame 138 = .ok (.bipush 8, 2) := by decide +kernel
theorem dX6_isSame_140 : decode cX6_isSame 140 = .ok (.if_icmp .ge 32, 3) := by decide +kernel
theorem dX6_isSame_143 : decode cX6_isSame 143 = .ok (.aload_n 1, 1) := by decide +kernel
theorem dX6_isSame_144 : decode cX6_isSame 144 = .ok (.iload 4, 2) := by decide +kernel
theorem dX6_isSame_146 : decode cX6_isSame 146 = .ok (.iload 5, 2) := by decide +kernel
theorem dX6_isSame_148 : decode cX6_isSame 148 = .ok (.invokevirtual 75, 3) := by decide +kernel
theorem dX6_isSame_151 : decode cX6_isSame 151 = .ok (.aload_n 0, 1) := by decide +kernel
theorem dX6_isSame_152 : decode cX6_isSame 152 = .ok (.getfield 9, 3) := by decide +kernel
theorem dX6_isSame_155 : decode cX6_isSame 155 = .ok (.iload 4, 2) := by decide +kernel
theorem dX6_isSame_157 : decode cX6_isSame 157 = .ok (.aaload, 1) := by decide +kernel
theorem dX6_isSame_158 : decode cX6_isSame 158 = .ok (.iload 5, 2) := by decide +kernel
theorem dX6_isSame_160 : decode cX6_isSame 160 = .ok (.iaload, 1) := by decide +kernel
theorem dX6_isSame_161 : decode cX6_isSame 161 = .ok (.if_icmp .eq 5, 3) := by decide +kernel
theorem dX6_isSame_164 : decode cX6_isSame 164 = .ok (.iconst 0, 1) := by decide +kernel
theorem dX6_isSame_165 : decode cX6_isSame 165 = .ok (.ireturn, 1) := by decide +kernel
theorem dX6_isSame_166 : decode cX6_isSame 166 = .ok (.iinc 5 1, 3) := by decide +kernel
theorem dX6_isSame_169 : decode cX6_isSame 169 = .ok (.goto (-33), 3) := by decide +kernel
theorem dX6_isSame_172 : decode cX6_isSame 172 = .ok (.iinc 4 1, 3) := by decide +kernel
theorem dX6_isSame_175 : decode cX6_isSame 175 = .ok (.goto (-49), 3) := by decide +kernel
theorem dX6_isSame_178 : decode cX6_isSame 178 = .ok (.iconst 0, 1) := by decide +kernel
theorem dX6_isSame_179 : decode cX6_isSame 179 = .ok (.istore 4, 2) := by decide +kernel
theorem dX6_isSame_181 : decode cX6_isSame 181 = .ok (.iload 4, 2) := by decide +kernel
theorem dX6_isSame_183 : decode cX6_isSame 183 = .ok (.aload_n 0, 1) := by decide +kernel
theorem dX6_isSame_184 : decode cX6_isSame 184 = .ok (.getfield 16, 3) := by decide +kernel
theorem dX6_isSame_187 : decode cX6_isSame 187 = .ok (.arraylength, 1) := by decide +kernel
theorem dX6_isSame_188 : decode cX6_isSame 188 = .ok (.if_icmp .ge 77, 3) := by decide +kernel
theorem dX6_isSame_191 : decode cX6_isSame 191 = .ok (.aload_n 0, 1) := by decide +kernel
theorem dX6_isSame_192 : decode cX6_isSame 192 = .ok (.aload_n 0, 1) := by decide +kernel
theorem dX6_isSame_193 : decode cX6_isSame 193 = .ok (.getfield 16, 3) := by decide +kernel
theorem dX6_isSame_196 : decode cX6_isSame 196 = .ok (.iload 4, 2) := by decide +kernel
theorem dX6_isSame_198 : decode cX6_isSame 198 = .ok (.aaload, 1) := by decide +kernel
theorem dX6_isSame_199 : decode cX6_isSame 199 = .ok (.invokevirtual 47, 3) := by decide +kernel
theorem dX6_isSame_202 : decode cX6_isSame 202 = .ok (.astore 5, 2) := by decide +kernel
theorem dX6_isSame_204 : decode cX6_isSame 204 = .ok (.iconst 0, 1) := by decide +kernel
theorem dX6_isSame_205 : decode cX6_isSame 205 = .ok (.istore 6, 2) := by decide +kernel
theorem dX6_isSame_207 : decode cX6_isSame 207 = .ok (.iload 6, 2) := by decide +kernel
theorem dX6_isSame_209 : decode cX6_isSame 209 = .ok (.bipush 8, 2) := by decide +kernel
theorem dX6_isSame_211 : decode cX6_isSame 211 = .ok (.if_icmp .ge 48, 3) := by decide +kernel
theorem dX6_isSame_214 : decode cX6_isSame 214 = .ok (.aload_n 1, 1) := by decide +kernel
theorem dX6_isSame_215 : decode cX6_isSame 215 = .ok (.iload 4, 2) := by decide +kernel
theorem dX6_isSame_217 : decode cX6_isSame 217 = .ok (.iload 6, 2) := by decide +kernel
theorem dX6_isSame_219 : decode cX6_isSame 219 = .ok (.invokevirtual 78, 3) := by decide +kernel
theorem dX6_isSame_222 : decode cX6_isSame 222 = .ok (.iload 6, 2) := by decide +kernel
theorem dX6_isSame_224 : decode cX6_isSame 224 = .ok (.iconst 5, 1) := by decide +kernel
theorem dX6_isSame_225 : decode cX6_isSame 225 = .ok (.if_icmp .ge 16, 3) := by decide +kernel
theorem dX6_isSame_228 : decode cX6_isSame 228 = .ok (.aload_n 0, 1) := by decide +kernel
theorem dX6_isSame_229 : decode cX6_isSame 229 = .ok (.getfield 16, 3) := by decide +kernel
theorem dX6_isSame_232 : decode cX6_isSame 232 = .ok (.iload 4, 2) := by decide +kernel
theorem dX6_isSame_234 : decode cX6_isSame 234 = .ok (.aaload, 1) := by decide +kernel
theorem dX6_isSame_235 : decode cX6_isSame 235 = .ok (.iload 6, 2) := by decide +kernel
theorem dX6_isSame_237 : decode cX6_isSame 237 = .ok (.iaload, 1) := by decide +kernel
theorem dX6_isSame_238 : decode cX6_isSame 238 = .ok (.goto 10, 3) := by decide +kernel
theorem dX6_isSame_241 : decode cX6_isSame 241 = .ok (.aload 5, 2) := by decide +kernel
theorem dX6_isSame_243 : decode cX6_isSame 243 = .ok (.iload 6, 2) := by decide +kernel
theorem dX6_isSame_245 : decode cX6_isSame 245 = .ok (.iconst 5, 1) := by decide +kernel
theorem dX6_isSame_246 : decode cX6_isSame 246 = .ok (.isub, 1) := by decide +kernel
theorem dX6_isSame_247 : decode cX6_isSame 247 = .ok (.iaload, 1) := by decide +kernel
theorem dX6_isSame_248 : decode cX6_isSame 248 = .ok (.if_icmp .eq 5, 3) := by decide +kernel
theorem dX6_isSame_251 : decode cX6_isSame 251 = .ok (.iconst 0, 1) := by decide +kernel
theorem dX6_isSame_252 : decode cX6_isSame 252 = .ok (.ireturn, 1) := by decide +kernel
theorem dX6_isSame_253 : decode cX6_isSame 253 = .ok (.iinc 6 1, 3) := by decide +kernel
theorem dX6_isSame_256 : decode cX6_isSame 256 = .ok (.goto (-49), 3) := by decide +kernel
theorem dX6_isSame_259 : decode cX6_isSame 259 = .ok (.iinc 4 1, 3) := by decide +kernel
theorem dX6_isSame_262 : decode cX6_isSame 262 = .ok (.goto (-81), 3) := by decide +kernel
theorem dX6_isSame_265 : decode cX6_isSame 265 = .ok (.iconst 0, 1) := by decide +kernel
theorem dX6_isSame_266 : decode cX6_isSame 266 = .ok (.istore 4, 2) := by decide +kernel
theorem dX6_isSame_268 : decode cX6_isSame 268 = .ok (.iload 4, 2) := by decide +kernel
theorem dX6_isSame_270 : decode cX6_isSame 270 = .ok (.aload_n 0, 1) := by decide +kernel
theorem dX6_isSame_271 : decode cX6_isSame 271 = .ok (.getfield 19, 3) := by decide +kernel
theorem dX6_isSame_274 : decode cX6_isSame 274 = .ok (.arraylength, 1) := by decide +kernel
theorem dX6_isSame_275 : decode cX6_isSame 275 = .ok (.if_icmp .ge 48, 3) := by decide +kernel
theorem dX6_isSame_278 : decode cX6_isSame 278 = .ok (.iconst 0, 1) := by decide +kernel
theorem dX6_isSame_279 : decode cX6_isSame 279 = .ok (.istore 5, 2) := by decide +kernel
theorem dX6_isSame_281 : decode cX6_isSame 281 = .ok (.iload 5, 2) := by decide +kernel
theorem dX6_isSame_283 : decode cX6_isSame 283 = .ok (.bipush 6, 2) := by decide +kernel
theorem dX6_isSame_285 : decode cX6_isSame 285 = .ok (.if_icmp .ge 32, 3) := by decide +kernel
theorem dX6_isSame_288 : decode cX6_isSame 288 = .ok (.aload_n 1, 1) := by decide +kernel
theorem dX6_isSame_289 : decode cX6_isSame 289 = .ok (.iload 4, 2) := by decide +kernel
theorem dX6_isSame_291 : decode cX6_isSame 291 = .ok (.iload 5, 2) := by decide +kernel
theorem dX6_isSame_293 : decode cX6_isSame 293 = .ok (.invokevirtual 81, 3) := by decide +kernel
theorem dX6_isSame_296 : decode cX6_isSame 296 = .ok (.aload_n 0, 1) := by decide +kernel
theorem dX6_isSame_297 : decode cX6_isSame 297 = .ok (.getfield 19, 3) := by decide +kernel
theorem dX6_isSame_300 : decode cX6_isSame 300 = .ok (.iload 4, 2) := by decide +kernel
theorem dX6_isSame_302 : decode cX6_isSame 302 = .ok (.aaload, 1) := by decide +kernel
theorem dX6_isSame_303 : decode cX6_isSame 303 = .ok (.iload 5, 2) := by decide +kernel
theorem dX6_isSame_305 : decode cX6_isSame 305 = .ok (.iaload, 1) := by decide +kernel
theorem dX6_isSame_306 : decode cX6_isSame 306 = .ok (.if_icmp .eq 5, 3) := by decide +kernel
theorem dX6_isSame_309 : decode cX6_isSame 309 = .ok (.iconst 0, 1) := by decide +kernel
theorem dX6_isSame_310 : decode cX6_isSame 310 = .ok (.ireturn, 1) := by decide +kernel
theorem dX6_isSame_311 : decode cX6_isSame 311 = .ok (.iinc 5 1, 3) := by decide +kernel
theorem dX6_isSame_314 : decode cX6_isSame 314 = .ok (.goto (-33), 3) := by decide +kernel
theorem dX6_isSame_317 : decode cX6_isSame 317 = .ok (.iinc 4 1, 3) := by decide +kernel
theorem dX6_isSame_320 : decode cX6_isSame 320 = .ok (.goto (-52), 3) := by decide +kernel
theorem dX6_isSame_323 : decode cX6_isSame 323 = .ok (.aload_n 1, 1) := by decide +kernel
theorem dX6_isSame_324 : decode cX6_isSame 324 = .ok (.invokevirtual 84, 3) := by decide +kernel
theorem dX6_isSame_327 : decode cX6_isSame 327 = .ok (.aload_n 2, 1) := by decide +kernel
theorem dX6_isSame_328 : decode cX6_isSame 328 = .ok (.iconst 0, 1) := by decide +kernel
theorem dX6_isSame_329 : decode cX6_isSame 329 = .ok (.iaload, 1) := by decide +kernel
theorem dX6_isSame_330 : decode cX6_isSame 330 = .ok (.i2d, 1) := by decide +kernel
theorem dX6_isSame_331 : decode cX6_isSame 331 = .ok (.ldc2_w 88, 3) := by decide +kernel
theorem dX6_isSame_334 : decode cX6_isSame 334 = .ok (.ddiv, 1) := by decide +kernel
theorem dX6_isSame_335 : decode cX6_isSame 335 = .ok (.dcmp .l, 1) := by decide +kernel
theorem dX6_isSame_336 : decode cX6_isSame 336 = .ok (.ifCond .ne 38, 3) := by decide +kernel
theorem dX6_isSame_339 : decode cX6_isSame 339 = .ok (.aload_n 1, 1) := by decide +kernel
theorem dX6_isSame_340 : decode cX6_isSame 340 = .ok (.invokevirtual 90, 3) := by decide +kernel
theorem dX6_isSame_343 : decode cX6_isSame 343 = .ok (.aload_n 0, 1) := by decide +kernel
theorem dX6_isSame_344 : decode cX6_isSame 344 = .ok (.invokevirtual 93, 3) := by decide +kernel
theorem dX6_isSame_347 : decode cX6_isSame 347 = .ok (.if_icmp .ne 27, 3) := by decide +kernel
theorem dX6_isSame_350 : decode cX6_isSame 350 = .ok (.aload_n 1, 1) := by decide +kernel
theorem dX6_isSame_351 : decode cX6_isSame 351 = .ok (.bipush 7, 2) := by decide +kernel
theorem dX6_isSame_353 : decode cX6_isSame 353 = .ok (.invokevirtual 94, 3) := by decide +kernel
theorem dX6_isSame_356 : decode cX6_isSame 356 = .ok (.aload_n 0, 1) := by decide +kernel
theorem dX6_isSame_357 : decode cX6_isSame 357 = .ok (.aload_n 0, 1) := by decide +kernel
theorem dX6_isSame_358 : decode cX6_isSame 358 = .ok (.getfield 26, 3) := by decide +kernel
theorem dX6_isSame_361 : decode cX6_isSame 361 = .ok (.bipush 7, 2) := by decide +kernel
theorem dX6_isSame_363 : decode cX6_isSame 363 = .ok (.iadd, 1) := by decide +kernel
theorem dX6_isSame_364 : decode cX6_isSame 364 = .ok (.invokevirtual 51, 3) := by decide +kernel
theorem dX6_isSame_367 : decode cX6_isSame 367 = .ok (.if_icmp .ne 7, 3) := by decide +kernel
theorem dX6_isSame_370 : decode cX6_isSame 370 = .ok (.iconst 1, 1) := by decide +kernel
theorem dX6_isSame_371 : decode cX6_isSame 371 = .ok (.goto 4, 3) := by decide +kernel
theorem dX6_isSame_374 : decode cX6_isSame 374 = .ok (.iconst 0, 1) := by decide +kernel
theorem dX6_isSame_375 : decode cX6_isSame 375 = .ok (.ireturn, 1) := by decide +kernel
theorem dJ9_max_7cf53_0 : decode cJ9_max_7cf53 0 = .ok (.iload_n 0, 1) := by decide +kernel
theorem dJ9_max_7cf53_1 : decode cJ9_max_7cf53 1 = .ok (.iload_n 1, 1) := by decide +kernel
theorem dJ9_max_7cf53_2 : decode cJ9_max_7cf53 2 = .ok (.if_icmp .lt 7, 3) := by decide +kernel
theorem dJ9_max_7cf53_5 : decode cJ9_max_7cf53 5 = .ok (.iload_n 0, 1) := by decide +kernel
theorem dJ9_max_7cf53_6 : decode cJ9_max_7cf53 6 = .ok (.goto 4, 3) := by decide +kernel
theorem dJ9_max_7cf53_9 : decode cJ9_max_7cf53 9 = .ok (.iload_n 1, 1) := by decide +kernel
theorem dJ9_max_7cf53_10 : decode cJ9_max_7cf53 10 = .ok (.ireturn, 1) := by decide +kernel
theorem dJ9_min_7cf53_0 : decode cJ9_min_7cf53 0 = .ok (.iload_n 0, 1) := by decide +kernel
theorem dJ9_min_7cf53_1 : decode cJ9_min_7cf53 1 = .ok (.iload_n 1, 1) := by decide +kernel
theorem dJ9_min_7cf53_2 : decode cJ9_min_7cf53 2 = .ok (.if_icmp .gt 7, 3) := by decide +kernel
theorem dJ9_min_7cf53_5 : decode cJ9_min_7cf53 5 = .ok (.iload_n 0, 1) := by decide +kernel
theorem dJ9_min_7cf53_6 : decode cJ9_min_7cf53 6 = .ok (.goto 4, 3) := by decide +kernel
theorem dJ9_min_7cf53_9 : decode cJ9_min_7cf53 9 = .ok (.iload_n 1, 1) := by decide +kernel
theorem dJ9_min_7cf53_10 : decode cJ9_min_7cf53 10 = .ok (.ireturn, 1) := by decide +kernel
theorem dL_below_0 : decode cL_below 0 = .ok (.iload_n 0, 1) := by decide +kernel
theorem dL_below_1 : decode cL_below 1 = .ok (.ldc 7, 2) := by decide +kernel
theorem dL_below_3 : decode cL_below 3 = .ok (.iand, 1) := by decide +kernel
theorem dL_below_4 : decode cL_below 4 = .ok (.iload_n 1, 1) := by decide +kernel
theorem dL_below_5 : decode cL_below 5 = .ok (.irem, 1) := by decide +kernel
theorem dL_below_6 : decode cL_below 6 = .ok (.ireturn, 1) := by decide +kernel
theorem dL_cell_0 : decode cL_cell 0 = .ok (.iload_n 1, 1) := by decide +kernel
theorem dL_cell_1 : decode cL_cell 1 = .ok (.aload_n 0, 1) := by decide +kernel
theorem dL_cell_2 : decode cL_cell 2 = .ok (.arraylength, 1) := by decide +kernel
theorem dL_cell_3 : decode cL_cell 3 = .ok (.if_icmp .ge 9, 3) := by decide +kernel
theorem dL_cell_6 : decode cL_cell 6 = .ok (.aload_n 0, 1) := by decide +kernel
theorem dL_cell_7 : decode cL_cell 7 = .ok (.iload_n 1, 1) := by decide +kernel
theorem dL_cell_8 : decode cL_cell 8 = .ok (.iaload, 1) := by decide +kernel
theorem dL_cell_9 : decode cL_cell 9 = .ok (.goto 9, 3) := by decide +kernel
theorem dL_cell_12 : decode cL_cell 12 = .ok (.ldc 8, 2) := by decide +kernel
theorem dL_cell_14 : decode cL_cell 14 = .ok (.iload_n 1, 1) := by decide +kernel
theorem dL_cell_15 : decode cL_cell 15 = .ok (.iconst 3, 1) := by decide +kernel
theorem dL_cell_16 : decode cL_cell 16 = .ok (.iadd, 1) := by decide +kernel
theorem dL_cell_17 : decode cL_cell 17 = .ok (.imul, 1) := by decide +kernel
theorem dL_cell_18 : decode cL_cell 18 = .ok (.ireturn, 1) := by decide +kernel
set_option maxRecDepth 20000 in
theorem ggL_act_L_below : GoodIn wsL_act wsL_below := goodIn_r _ [11, 12] (by decide +kernel) (by decide +kernel)
set_option maxRecDepth 20000 in
theorem gL_act_L_below : GoodIn wsL_act (va_wsS RL 9 yL_below wsL_below) := goodIn_app (goodIn_of _ (by decide +kernel)) ggL_act_L_below
set_option maxRecDepth 20000 in
theorem ggL_act_X6_with : GoodIn wsL_act wsX6_with := goodIn_r _ [16, 17] (by decide +kernel) (by decide +kernel)
set_option maxRecDepth 20000 in
theorem gL_act_X6_with : GoodIn wsL_act (va_wsS RL 21 yX6_with wsX6_with) := goodIn_app (goodIn_of _ (by decide +kernel)) ggL_act_X6_with
set_option maxRecDepth 20000 in
theorem ggL_act_X5_window : GoodIn wsL_act wsX5_window := goodIn_ca (goodIn_ca (goodIn_ca (goodIn_r _ [22, 23, 24, 25, 26, 27, 28, 29, 30, 31, 32, 33, 34, 35, 36, 37, 38, 39, 40, 231, 232, 233, 234, 235, 236, 237, 238, 239, 240] (by decide +kernel) (by decide +kernel)) (goodIn_sub (fun _ h => List.mem_cons_of_mem _ (List.mem_append_left _ (List.mem_append_left _ (List.mem_append_right _ h)))) (by decide +kernel))) (goodIn_sub (fun _ h => List.mem_cons_of_mem _ (List.mem_append_left _ (List.mem_append_right _ h))) (by decide +kernel))) (goodIn_sub (fun _ h => List.mem_cons_of_mem _ (List.mem_append_right _ h)) (by decide +kernel))
set_option maxRecDepth 20000 in
theorem gL_act_X5_window : GoodIn wsL_act (wsV RL 25 RX5 yX5_window wsX5_window) := goodIn_app (goodIn_of _ (by decide +kernel)) ggL_act_X5_window
set_option maxRecDepth 20000 in
theorem ggL_act_X6_ropeAt : GoodIn wsL_act wsX6_ropeAt := goodIn_r _ [44, 45, 223, 224, 225, 226, 227, 228, 229, 230] (by decide +kernel) (by decide +kernel)
set_option maxRecDepth 20000 in
theorem gL_act_X6_ropeAt : GoodIn wsL_act (wsV RL 34 RX6 yX6_ropeAt wsX6_ropeAt) := goodIn_app (goodIn_of _ (by decide +kernel)) ggL_act_X6_ropeAt
set_option maxRecDepth 20000 in
theorem ggL_act_X5_rope : GoodIn wsL_act wsX5_rope := goodIn_ca (goodIn_ca (goodIn_ca (goodIn_r _ [49, 25, 26, 23, 24, 27, 28, 50, 51, 52, 21, 53, 54, 55, 56, 57, 58, 59, 60, 61, 62, 63, 64, 65, 66, 231, 232, 233, 234, 241, 242, 243, 244, 245, 246, 247, 248, 249, 250, 251, 252, 253] (by decide +kernel) (by decide +kernel)) (goodIn_sub (fun _ h => List.mem_cons_of_mem _ (List.mem_append_left _ (List.mem_append_right _ h))) (by decide +kernel))) (goodIn_sub (fun _ h => List.mem_cons_of_mem _ (List.mem_append_left _ (List.mem_append_left _ (List.mem_append_right _ h)))) (by decide +kernel))) (goodIn_sub (fun _ h => List.mem_cons_of_mem _ (List.mem_append_right _ h)) (by decide +kernel))
set_option maxRecDepth 20000 in
theorem gL_act_X5_rope : GoodIn wsL_act (wsV RL 38 RX5 yX5_rope wsX5_rope) := goodIn_app (goodIn_of _ (by decide +kernel)) ggL_act_X5_rope
set_option maxRecDepth 20000 in
theorem ggL_act_X5_feast : GoodIn wsL_act wsX5_feast := goodIn_ca (goodIn_ca (goodIn_r _ [70, 23, 24, 27, 28, 71, 72, 73, 74, 75, 76, 77, 78, 79, 231, 232, 233, 234, 254, 255, 256] (by decide +kernel) (by decide +kernel)) (goodIn_sub (fun _ h => List.mem_cons_of_mem _ (List.mem_append_left _ (List.mem_append_left _ (List.mem_append_right _ h)))) (by decide +kernel))) (goodIn_sub (fun _ h => List.mem_cons_of_mem _ (List.mem_append_right _ h)) (by decide +kernel))
set_option maxRecDepth 20000 in
theorem gL_act_X5_feast : GoodIn wsL_act (wsV RL 45 RX5 yX5_feast wsX5_feast) := goodIn_app (goodIn_of _ (by decide +kernel)) ggL_act_X5_feast
set_option maxRecDepth 20000 in
theorem ggL_act_X5_setWind : GoodIn wsL_act wsX5_setWind := goodIn_ca (goodIn_r _ [83, 23, 24, 50, 231, 232, 233, 234, 241, 242, 243, 244, 245, 246] (by decide +kernel) (by decide +kernel)) (goodIn_sub (fun _ h => List.mem_cons_of_mem _ (List.mem_append_left _ (List.mem_append_left _ (List.mem_append_right _ h)))) (by decide +kernel))
set_option maxRecDepth 20000 in
theorem gL_act_X5_setWind : GoodIn wsL_act (wsV RL 52 RX5 yX5_setWind wsX5_setWind) := goodIn_app (goodIn_of _ (by decide +kernel)) ggL_act_X5_setWind
set_option maxRecDepth 20000 in
theorem ggL_act_X5_move : GoodIn wsL_act wsX5_move := goodIn_ca (goodIn_ca (goodIn_r _ [87, 25, 26, 27, 28, 50, 88, 89, 90, 21, 91, 51, 52, 53, 54, 55, 56, 57, 58, 59, 60, 92, 93, 94, 95, 96, 97, 231, 232, 233, 234, 241, 242, 243, 244, 245, 246, 247, 248, 249, 250, 251, 252, 253] (by decide +kernel) (by decide +kernel)) (goodIn_sub (fun _ h => List.mem_cons_of_mem _ (List.mem_append_left _ (List.mem_append_right _ h))) (by decide +kernel))) (goodIn_sub (fun _ h => List.mem_cons_of_mem _ (List.mem_append_right _ h)) (by decide +kernel))
set_option maxRecDepth 20000 in
theorem gL_act_X5_move : GoodIn wsL_act (wsV RL 55 RX5 yX5_move wsX5_move) := goodIn_app (goodIn_of _ (by decide +kernel)) ggL_act_X5_move
set_option maxRecDepth 20000 in
theorem ggL_act_X5_turn : GoodIn wsL_act wsX5_turn := goodIn_ca (goodIn_r _ [101, 25, 26, 50, 88, 89, 90, 21, 91, 231, 232, 233, 234, 241, 242, 243, 244, 245, 246, 247, 248, 249, 250, 251, 252, 253] (by decide +kernel) (by decide +kernel)) (goodIn_sub (fun _ h => List.mem_cons_of_mem _ (List.mem_append_left _ (List.mem_append_right _ h))) (by decide +kernel))
set_option maxRecDepth 20000 in
theorem gL_act_X5_turn : GoodIn wsL_act (wsV RL 58 RX5 yX5_turn wsX5_turn) := goodIn_app (goodIn_of _ (by decide +kernel)) ggL_act_X5_turn
set_option maxRecDepth 20000 in
theorem ggL_act_X6_of : GoodIn wsL_act wsX6_of := goodIn_r _ [105, 2, 106, 223, 224, 225, 226, 227, 228, 229, 230] (by decide +kernel) (by decide +kernel)
set_option maxRecDepth 20000 in
theorem gL_act_X6_of : GoodIn wsL_act (wsV RL 62 RX6 yX6_of wsX6_of) := goodIn_app (goodIn_of _ (by decide +kernel)) ggL_act_X6_of
set_option maxRecDepth 20000 in
theorem ggL_act_X5_wipe : GoodIn wsL_act wsX5_wipe := goodIn_ca (goodIn_r _ [110, 25, 26, 29, 50, 111, 112, 113, 21, 114, 115, 116, 117, 33, 118, 35, 38, 37, 39, 119, 120, 121, 122, 123, 124, 125, 126, 127, 128, 231, 232, 233, 234, 241, 242, 243, 244, 245, 246, 235, 236, 237, 238, 239, 240, 257] (by decide +kernel) (by decide +kernel)) (goodIn_sub (fun _ h => List.mem_cons_of_mem _ (List.mem_append_left _ (List.mem_append_right _ h))) (by decide +kernel))
set_option maxRecDepth 20000 in
theorem gL_act_X5_wipe : GoodIn wsL_act (wsV RL 69 RX5 yX5_wipe wsX5_wipe) := goodIn_app (goodIn_of _ (by decide +kernel)) ggL_act_X5_wipe
set_option maxRecDepth 20000 in
theorem ggL_act_X6_behind : GoodIn wsL_act wsX6_behind := goodIn_r _ [132, 133, 134, 135, 15, 136, 137, 106, 138, 139, 140, 45, 141, 142, 143, 144, 145, 146, 147, 148, 149, 150, 151, 103, 104, 105, 2, 152, 42, 43, 44, 223, 224, 225, 226, 227, 228, 229, 230] (by decide +kernel) (by decide +kernel)
set_option maxRecDepth 20000 in
theorem gL_act_X6_behind : GoodIn wsL_act (wsV RL 75 RX6 yX6_behind wsX6_behind) := goodIn_app (goodIn_of _ (by decide +kernel)) ggL_act_X6_behind
set_option maxRecDepth 20000 in
theorem ggL_act_X5_pass : GoodIn wsL_act wsX5_pass := goodIn_ca (goodIn_r _ [156, 23, 24, 50, 29, 71, 157, 158, 159, 160, 161, 162, 163, 164, 165, 166, 167, 168, 169, 170, 171, 172, 173, 174, 122, 175, 124, 125, 126, 127, 128, 176, 177, 178, 179, 180, 181, 182, 183, 184, 75, 185, 78, 77, 79, 186, 187, 188, 33, 189, 36, 190, 191, 192, 193, 40, 194, 195, 196, 197, 198, 38, 39, 199, 200, 201, 202, 35, 37, 203, 204, 205, 206, 207, 208, 209, 57, 210, 59, 211, 212, 213, 214, 65, 60, 96, 215, 216, 120, 121, 123, 217, 218, 219, 220, 66, 221, 55, 56, 58, 222, 93, 94, 95, 97, 231, 232, 233, 234, 241, 242, 243, 244, 245, 246, 257, 254, 255, 256, 235, 236, 237, 238, 239, 240, 247, 248, 249, 250, 251, 252, 253] (by decide +kernel) (by decide +kernel)) (goodIn_sub (fun _ h => List.mem_cons_of_mem _ (List.mem_append_left _ (List.mem_append_left _ (List.mem_append_right _ h)))) (by decide +kernel))
set_option maxRecDepth 20000 in
theorem gL_act_X5_pass : GoodIn wsL_act (wsV RL 79 RX5 yX5_pass wsX5_pass) := goodIn_app (goodIn_of _ (by decide +kernel)) ggL_act_X5_pass
theorem dL_act_0 : decode cL_act 0 = .ok (.iload_n 2, 1) := by decide +kernel
theorem dL_act_1 : decode cL_act 1 = .ok (.iconst 1, 1) := by decide +kernel
theorem dL_act_2 : decode cL_act 2 = .ok (.ishr, 1) := by decide +kernel
theorem dL_act_3 : decode cL_act 3 = .ok (.bipush 12, 2) := by decide +kernel
theorem dL_act_5 : decode cL_act 5 = .ok (.invokestatic 9, 3) := by decide +kernel
theorem dL_act_8 : decode cL_act 8 = .ok (.istore_n 3, 1) := by decide +kernel
theorem dL_act_9 : decode cL_act 9 = .ok (.iload_n 2, 1) := by decide +kernel
theorem dL_act_10 : decode cL_act 10 = .ok (.bipush 9, 2) := by decide +kernel
theorem dL_act_12 : decode cL_act 12 = .ok (.ishr, 1) := by decide +kernel
theorem dL_act_13 : decode cL_act 13 = .ok (.bipush 18, 2) := by decide +kernel
theorem dL_act_15 : decode cL_act 15 = .ok (.invokestatic 9, 3) := by decide +kernel
theorem dL_act_18 : decode cL_act 18 = .ok (.tableswitch 730 0 10 #[58, 58, 211, 211, 326, 409, 409, 448, 448, 535, 609], 58) := by decide +kernel
theorem dL_act_76 : decode cL_act 76 = .ok (.aload_n 1, 1) := by decide +kernel
theorem dL_act_77 : decode cL_act 77 = .ok (.getfield 15, 3) := by decide +kernel
theorem dL_act_80 : decode cL_act 80 = .ok (.arraylength, 1) := by decide +kernel
theorem dL_act_81 : decode cL_act 81 = .ok (.bipush 6, 2) := by decide +kernel
theorem dL_act_83 : decode cL_act 83 = .ok (.if_icmp .ne 5, 3) := by decide +kernel
theorem dL_act_86 : decode cL_act 86 = .ok (.iconst 1, 1) := by decide +kernel
theorem dL_act_87 : decode cL_act 87 = .ok (.ireturn, 1) := by decide +kernel
theorem dL_act_88 : decode cL_act 88 = .ok (.iconst 1, 1) := by decide +kernel
theorem dL_act_89 : decode cL_act 89 = .ok (.iload_n 2, 1) := by decide +kernel
theorem dL_act_90 : decode cL_act 90 = .ok (.iconst 3, 1) := by decide +kernel
theorem dL_act_91 : decode cL_act 91 = .ok (.ishr, 1) := by decide +kernel
theorem dL_act_92 : decode cL_act 92 = .ok (.iload_n 2, 1) := by decide +kernel
theorem dL_act_93 : decode cL_act 93 = .ok (.iconst 2, 1) := by decide +kernel
theorem dL_act_94 : decode cL_act 94 = .ok (.invokestatic 9, 3) := by decide +kernel
theorem dL_act_97 : decode cL_act 97 = .ok (.ifCond .ne 8, 3) := by decide +kernel
theorem dL_act_100 : decode cL_act 100 = .ok (.bipush 12, 2) := by decide +kernel
theorem dL_act_102 : decode cL_act 102 = .ok (.goto 4, 3) := by decide +kernel
theorem dL_act_105 : decode cL_act 105 = .ok (.iconst 4, 1) := by decide +kernel
theorem dL_act_106 : decode cL_act 106 = .ok (.invokestatic 9, 3) := by decide +kernel
theorem dL_act_109 : decode cL_act 109 = .ok (.iadd, 1) := by decide +kernel
theorem dL_act_110 : decode cL_act 110 = .ok (.istore 4, 2) := by decide +kernel
theorem dL_act_112 : decode cL_act 112 = .ok (.iconst 1, 1) := by decide +kernel
theorem dL_act_113 : decode cL_act 113 = .ok (.iload_n 2, 1) := by decide +kernel
theorem dL_act_114 : decode cL_act 114 = .ok (.iconst 4, 1) := by decide +kernel
theorem dL_act_115 : decode cL_act 115 = .ok (.ishr, 1) := by decide +kernel
theorem dL_act_116 : decode cL_act 116 = .ok (.bipush 8, 2) := by decide +kernel
theorem dL_act_118 : decode cL_act 118 = .ok (.invokestatic 9, 3) := by decide +kernel
theorem dL_act_121 : decode cL_act 121 = .ok (.iadd, 1) := by decide +kernel
theorem dL_act_122 : decode cL_act 122 = .ok (.istore 5, 2) := by decide +kernel
theorem dL_act_124 : decode cL_act 124 = .ok (.iconst 5, 1) := by decide +kernel
theorem dL_act_125 : decode cL_act 125 = .ok (.newarray .int, 2) := by decide +kernel
theorem dL_act_127 : decode cL_act 127 = .ok (.dup, 1) := by decide +kernel
theorem dL_act_128 : decode cL_act 128 = .ok (.iconst 0, 1) := by decide +kernel
theorem dL_act_129 : decode cL_act 129 = .ok (.iload_n 2, 1) := by decide +kernel
theorem dL_act_130 : decode cL_act 130 = .ok (.iconst 1, 1) := by decide +kernel
theorem dL_act_131 : decode cL_act 131 = .ok (.ishr, 1) := by decide +kernel
theorem dL_act_132 : decode cL_act 132 = .ok (.bipush 13, 2) := by decide +kernel
theorem dL_act_134 : decode cL_act 134 = .ok (.iload 4, 2) := by decide +kernel
theorem dL_act_136 : decode cL_act 136 = .ok (.isub, 1) := by decide +kernel
theorem dL_act_137 : decode cL_act 137 = .ok (.invokestatic 9, 3) := by decide +kernel
theorem dL_act_140 : decode cL_act 140 = .ok (.iastore, 1) := by decide +kernel
theorem dL_act_141 : decode cL_act 141 = .ok (.dup, 1) := by decide +kernel
theorem dL_act_142 : decode cL_act 142 = .ok (.iconst 1, 1) := by decide +kernel
theorem dL_act_143 : decode cL_act 143 = .ok (.iload_n 2, 1) := by decide +kernel
theorem dL_act_144 : decode cL_act 144 = .ok (.iconst 2, 1) := by decide +kernel
theorem dL_act_145 : decode cL_act 145 = .ok (.ishr, 1) := by decide +kernel
theorem dL_act_146 : decode cL_act 146 = .ok (.bipush 9, 2) := by decide +kernel
theorem dL_act_148 : decode cL_act 148 = .ok (.iload 5, 2) := by decide +kernel
theorem dL_act_150 : decode cL_act 150 = .ok (.isub, 1) := by decide +kernel
theorem dL_act_151 : decode cL_act 151 = .ok (.invokestatic 9, 3) := by decide +kernel
theorem dL_act_154 : decode cL_act 154 = .ok (.iastore, 1) := by decide +kernel
theorem dL_act_155 : decode cL_act 155 = .ok (.dup, 1) := by decide +kernel
theorem dL_act_156 : decode cL_act 156 = .ok (.iconst 2, 1) := by decide +kernel
theorem dL_act_157 : decode cL_act 157 = .ok (.iload 4, 2) := by decide +kernel
theorem dL_act_159 : decode cL_act 159 = .ok (.iastore, 1) := by decide +kernel
theorem dL_act_160 : decode cL_act 160 = .ok (.dup, 1) := by decide +kernel
theorem dL_act_161 : decode cL_act 161 = .ok (.iconst 3, 1) := by decide +kernel
theorem dL_act_162 : decode cL_act 162 = .ok (.iload 5, 2) := by decide +kernel
theorem dL_act_164 : decode cL_act 164 = .ok (.iastore, 1) := by decide +kernel
theorem dL_act_165 : decode cL_act 165 = .ok (.dup, 1) := by decide +kernel
theorem dL_act_166 : decode cL_act 166 = .ok (.iconst 4, 1) := by decide +kernel
theorem dL_act_167 : decode cL_act 167 = .ok (.iconst 1, 1) := by decide +kernel
theorem dL_act_168 : decode cL_act 168 = .ok (.iload_n 2, 1) := by decide +kernel
theorem dL_act_169 : decode cL_act 169 = .ok (.iconst 5, 1) := by decide +kernel
theorem dL_act_170 : decode cL_act 170 = .ok (.ishr, 1) := by decide +kernel
theorem dL_act_171 : decode cL_act 171 = .ok (.bipush 9, 2) := by decide +kernel
theorem dL_act_173 : decode cL_act 173 = .ok (.invokestatic 9, 3) := by decide +kernel
theorem dL_act_176 : decode cL_act 176 = .ok (.iadd, 1) := by decide +kernel
theorem dL_act_177 : decode cL_act 177 = .ok (.iastore, 1) := by decide +kernel
theorem dL_act_178 : decode cL_act 178 = .ok (.astore 6, 2) := by decide +kernel
theorem dL_act_180 : decode cL_act 180 = .ok (.aload_n 1, 1) := by decide +kernel
theorem dL_act_181 : decode cL_act 181 = .ok (.aload_n 1, 1) := by decide +kernel
theorem dL_act_182 : decode cL_act 182 = .ok (.getfield 15, 3) := by decide +kernel
theorem dL_act_185 : decode cL_act 185 = .ok (.aload 6, 2) := by decide +kernel
theorem dL_act_187 : decode cL_act 187 = .ok (.invokestatic 21, 3) := by decide +kernel
theorem dL_act_190 : decode cL_act 190 = .ok (.putfield 15, 3) := by decide +kernel
theorem dL_act_193 : decode cL_act 193 = .ok (.aload_n 0, 1) := by decide +kernel
theorem dL_act_194 : decode cL_act 194 = .ok (.aload 6, 2) := by decide +kernel
theorem dL_act_196 : decode cL_act 196 = .ok (.iconst 0, 1) := by decide +kernel
theorem dL_act_197 : decode cL_act 197 = .ok (.iaload, 1) := by decide +kernel
theorem dL_act_198 : decode cL_act 198 = .ok (.aload 6, 2) := by decide +kernel
theorem dL_act_200 : decode cL_act 200 = .ok (.iconst 1, 1) := by decide +kernel
theorem dL_act_201 : decode cL_act 201 = .ok (.iaload, 1) := by decide +kernel
theorem dL_act_202 : decode cL_act 202 = .ok (.iload 4, 2) := by decide +kernel
theorem dL_act_204 : decode cL_act 204 = .ok (.iload 5, 2) := by decide +kernel
theorem dL_act_206 : decode cL_act 206 = .ok (.aload 6, 2) := by decide +kernel
theorem dL_act_208 : decode cL_act 208 = .ok (.iconst 4, 1) := by decide +kernel
theorem dL_act_209 : decode cL_act 209 = .ok (.iaload, 1) := by decide +kernel
theorem dL_act_210 : decode cL_act 210 = .ok (.invokevirtual 25, 3) := by decide +kernel
theorem dL_act_213 : decode cL_act 213 = .ok (.aload_n 1, 1) := by decide +kernel
theorem dL_act_214 : decode cL_act 214 = .ok (.getfield 15, 3) := by decide +kernel
theorem dL_act_217 : decode cL_act 217 = .ok (.arraylength, 1) := by decide +kernel
theorem dL_act_218 : decode cL_act 218 = .ok (.iconst 1, 1) := by decide +kernel
theorem dL_act_219 : decode cL_act 219 = .ok (.isub, 1) := by decide +kernel
theorem dL_act_220 : decode cL_act 220 = .ok (.if_icmp .ne 7, 3) := by decide +kernel
theorem dL_act_223 : decode cL_act 223 = .ok (.iconst 1, 1) := by decide +kernel
theorem dL_act_224 : decode cL_act 224 = .ok (.goto 4, 3) := by decide +kernel
theorem dL_act_227 : decode cL_act 227 = .ok (.iconst 0, 1) := by decide +kernel
theorem dL_act_228 : decode cL_act 228 = .ok (.ireturn, 1) := by decide +kernel
theorem dL_act_229 : decode cL_act 229 = .ok (.aload_n 1, 1) := by decide +kernel
theorem dL_act_230 : decode cL_act 230 = .ok (.getfield 31, 3) := by decide +kernel
theorem dL_act_233 : decode cL_act 233 = .ok (.arraylength, 1) := by decide +kernel
theorem dL_act_234 : decode cL_act 234 = .ok (.bipush 6, 2) := by decide +kernel
theorem dL_act_236 : decode cL_act 236 = .ok (.if_icmp .eq 11, 3) := by decide +kernel
theorem dL_act_239 : decode cL_act 239 = .ok (.aload_n 1, 1) := by decide +kernel
theorem dL_act_240 : decode cL_act 240 = .ok (.iload_n 3, 1) := by decide +kernel
theorem dL_act_241 : decode cL_act 241 = .ok (.invokevirtual 34, 3) := by decide +kernel
theorem dL_act_244 : decode cL_act 244 = .ok (.ifCond .lt 5, 3) := by decide +kernel
theorem dL_act_247 : decode cL_act 247 = .ok (.iconst 1, 1) := by decide +kernel
theorem dL_act_248 : decode cL_act 248 = .ok (.ireturn, 1) := by decide +kernel
theorem dL_act_249 : decode cL_act 249 = .ok (.bipush 6, 2) := by decide +kernel
theorem dL_act_251 : decode cL_act 251 = .ok (.newarray .int, 2) := by decide +kernel
theorem dL_act_253 : decode cL_act 253 = .ok (.dup, 1) := by decide +kernel
theorem dL_act_254 : decode cL_act 254 = .ok (.iconst 0, 1) := by decide +kernel
theorem dL_act_255 : decode cL_act 255 = .ok (.iload_n 3, 1) := by decide +kernel
theorem dL_act_256 : decode cL_act 256 = .ok (.iastore, 1) := by decide +kernel
theorem dL_act_257 : decode cL_act 257 = .ok (.dup, 1) := by decide +kernel
theorem dL_act_258 : decode cL_act 258 = .ok (.iconst 1, 1) := by decide +kernel
theorem dL_act_259 : decode cL_act 259 = .ok (.iconst 0, 1) := by decide +kernel
theorem dL_act_260 : decode cL_act 260 = .ok (.iastore, 1) := by decide +kernel
theorem dL_act_261 : decode cL_act 261 = .ok (.dup, 1) := by decide +kernel
theorem dL_act_262 : decode cL_act 262 = .ok (.iconst 2, 1) := by decide +kernel
theorem dL_act_263 : decode cL_act 263 = .ok (.iconst 1, 1) := by decide +kernel
theorem dL_act_264 : decode cL_act 264 = .ok (.iload_n 2, 1) := by decide +kernel
theorem dL_act_265 : decode cL_act 265 = .ok (.iconst 3, 1) := by decide +kernel
theorem dL_act_266 : decode cL_act 266 = .ok (.ishr, 1) := by decide +kernel
theorem dL_act_267 : decode cL_act 267 = .ok (.bipush 30, 2) := by decide +kernel
theorem dL_act_269 : decode cL_act 269 = .ok (.invokestatic 9, 3) := by decide +kernel
theorem dL_act_272 : decode cL_act 272 = .ok (.iadd, 1) := by decide +kernel
theorem dL_act_273 : decode cL_act 273 = .ok (.iastore, 1) := by decide +kernel
theorem dL_act_274 : decode cL_act 274 = .ok (.dup, 1) := by decide +kernel
theorem dL_act_275 : decode cL_act 275 = .ok (.iconst 3, 1) := by decide +kernel
theorem dL_act_276 : decode cL_act 276 = .ok (.iload_n 2, 1) := by decide +kernel
theorem dL_act_277 : decode cL_act 277 = .ok (.iconst 2, 1) := by decide +kernel
theorem dL_act_278 : decode cL_act 278 = .ok (.ishr, 1) := by decide +kernel
theorem dL_act_279 : decode cL_act 279 = .ok (.iconst 2, 1) := by decide +kernel
theorem dL_act_280 : decode cL_act 280 = .ok (.invokestatic 9, 3) := by decide +kernel
theorem dL_act_283 : decode cL_act 283 = .ok (.iastore, 1) := by decide +kernel
theorem dL_act_284 : decode cL_act 284 = .ok (.dup, 1) := by decide +kernel
theorem dL_act_285 : decode cL_act 285 = .ok (.iconst 4, 1) := by decide +kernel
theorem dL_act_286 : decode cL_act 286 = .ok (.iconst 0, 1) := by decide +kernel
theorem dL_act_287 : decode cL_act 287 = .ok (.iastore, 1) := by decide +kernel
theorem dL_act_288 : decode cL_act 288 = .ok (.dup, 1) := by decide +kernel
theorem dL_act_289 : decode cL_act 289 = .ok (.iconst 5, 1) := by decide +kernel
theorem dL_act_290 : decode cL_act 290 = .ok (.iconst 0, 1) := by decide +kernel
theorem dL_act_291 : decode cL_act 291 = .ok (.iastore, 1) := by decide +kernel
theorem dL_act_292 : decode cL_act 292 = .ok (.astore 7, 2) := by decide +kernel
theorem dL_act_294 : decode cL_act 294 = .ok (.aload_n 1, 1) := by decide +kernel
theorem dL_act_295 : decode cL_act 295 = .ok (.aload_n 1, 1) := by decide +kernel
theorem dL_act_296 : decode cL_act 296 = .ok (.getfield 31, 3) := by decide +kernel
theorem dL_act_299 : decode cL_act 299 = .ok (.aload 7, 2) := by decide +kernel
theorem dL_act_301 : decode cL_act 301 = .ok (.invokestatic 21, 3) := by decide +kernel
theorem dL_act_304 : decode cL_act 304 = .ok (.putfield 31, 3) := by decide +kernel
theorem dL_act_307 : decode cL_act 307 = .ok (.aload_n 0, 1) := by decide +kernel
theorem dL_act_308 : decode cL_act 308 = .ok (.iload_n 3, 1) := by decide +kernel
theorem dL_act_309 : decode cL_act 309 = .ok (.aload 7, 2) := by decide +kernel
theorem dL_act_311 : decode cL_act 311 = .ok (.iconst 2, 1) := by decide +kernel
theorem dL_act_312 : decode cL_act 312 = .ok (.iaload, 1) := by decide +kernel
theorem dL_act_313 : decode cL_act 313 = .ok (.aload 7, 2) := by decide +kernel
theorem dL_act_315 : decode cL_act 315 = .ok (.iconst 3, 1) := by decide +kernel
theorem dL_act_316 : decode cL_act 316 = .ok (.iaload, 1) := by decide +kernel
theorem dL_act_317 : decode cL_act 317 = .ok (.ifCond .ne 7, 3) := by decide +kernel
theorem dL_act_320 : decode cL_act 320 = .ok (.iconst 1, 1) := by decide +kernel
theorem dL_act_321 : decode cL_act 321 = .ok (.goto 4, 3) := by decide +kernel
theorem dL_act_324 : decode cL_act 324 = .ok (.iconst 0, 1) := by decide +kernel
theorem dL_act_325 : decode cL_act 325 = .ok (.invokevirtual 38, 3) := by decide +kernel
theorem dL_act_328 : decode cL_act 328 = .ok (.aload_n 1, 1) := by decide +kernel
theorem dL_act_329 : decode cL_act 329 = .ok (.getfield 31, 3) := by decide +kernel
theorem dL_act_332 : decode cL_act 332 = .ok (.arraylength, 1) := by decide +kernel
theorem dL_act_333 : decode cL_act 333 = .ok (.iconst 1, 1) := by decide +kernel
theorem dL_act_334 : decode cL_act 334 = .ok (.isub, 1) := by decide +kernel
theorem dL_act_335 : decode cL_act 335 = .ok (.if_icmp .ne 7, 3) := by decide +kernel
theorem dL_act_338 : decode cL_act 338 = .ok (.iconst 1, 1) := by decide +kernel
theorem dL_act_339 : decode cL_act 339 = .ok (.goto 4, 3) := by decide +kernel
theorem dL_act_342 : decode cL_act 342 = .ok (.iconst 0, 1) := by decide +kernel
theorem dL_act_343 : decode cL_act 343 = .ok (.ireturn, 1) := by decide +kernel
theorem dL_act_344 : decode cL_act 344 = .ok (.aload_n 1, 1) := by decide +kernel
theorem dL_act_345 : decode cL_act 345 = .ok (.getfield 42, 3) := by decide +kernel
theorem dL_act_348 : decode cL_act 348 = .ok (.arraylength, 1) := by decide +kernel
theorem dL_act_349 : decode cL_act 349 = .ok (.iconst 4, 1) := by decide +kernel
theorem dL_act_350 : decode cL_act 350 = .ok (.if_icmp .ne 5, 3) := by decide +kernel
theorem dL_act_353 : decode cL_act 353 = .ok (.iconst 1, 1) := by decide +kernel
theorem dL_act_354 : decode cL_act 354 = .ok (.ireturn, 1) := by decide +kernel
theorem dL_act_355 : decode cL_act 355 = .ok (.iconst 2, 1) := by decide +kernel
theorem dL_act_356 : decode cL_act 356 = .ok (.iload_n 2, 1) := by decide +kernel
theorem dL_act_357 : decode cL_act 357 = .ok (.iconst 1, 1) := by decide +kernel
