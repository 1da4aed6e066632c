theorem dL_law_20 : decode cL_law 20 = .ok (.iconst 0, 1) := by decide +kernel
theorem dL_law_21 : decode cL_law 21 = .ok (.istore 4, 2) := by decide +kernel
theorem dL_law_23 : decode cL_law 23 = .ok (.iload 4, 2) := by decide +kernel
theorem dL_law_25 : decode cL_law 25 = .ok (.aload_n 0, 1) := by decide +kernel
theorem dL_law_26 : decode cL_law 26 = .ok (.arraylength, 1) := by decide +kernel
theorem dL_law_27 : decode cL_law 27 = .ok (.iconst 5, 1) := by decide +kernel
theorem dL_law_28 : decode cL_law 28 = .ok (.isub, 1) := by decide +kernel
theorem dL_law_29 : decode cL_law 29 = .ok (.if_icmp .gt 1058, 3) := by decide +kernel
theorem dL_law_32 : decode cL_law 32 = .ok (.aload_n 0, 1) := by decide +kernel
theorem dL_law_33 : decode cL_law 33 = .ok (.iload 4, 2) := by decide +kernel
theorem dL_law_35 : decode cL_law 35 = .ok (.iaload, 1) := by decide +kernel
theorem dL_law_36 : decode cL_law 36 = .ok (.bipush 15, 2) := by decide +kernel
theorem dL_law_38 : decode cL_law 38 = .ok (.iand, 1) := by decide +kernel
theorem dL_law_39 : decode cL_law 39 = .ok (.tableswitch 1042 0 15 #[77, 113, 205, 265, 321, 381, 429, 485, 498, 554, 634, 690, 746, 814, 894, 974], 77) := by decide +kernel
theorem dL_law_116 : decode cL_law 116 = .ok (.aload_n 1, 1) := by decide +kernel
theorem dL_law_117 : decode cL_law 117 = .ok (.aload_n 0, 1) := by decide +kernel
theorem dL_law_118 : decode cL_law 118 = .ok (.iload 4, 2) := by decide +kernel
theorem dL_law_120 : decode cL_law 120 = .ok (.iconst 1, 1) := by decide +kernel
theorem dL_law_121 : decode cL_law 121 = .ok (.iadd, 1) := by decide +kernel
theorem dL_law_122 : decode cL_law 122 = .ok (.iaload, 1) := by decide +kernel
theorem dL_law_123 : decode cL_law 123 = .ok (.invokestatic 75, 3) := by decide +kernel
theorem dL_law_126 : decode cL_law 126 = .ok (.istore 5, 2) := by decide +kernel
theorem dL_law_128 : decode cL_law 128 = .ok (.aload_n 2, 1) := by decide +kernel
theorem dL_law_129 : decode cL_law 129 = .ok (.aload_n 0, 1) := by decide +kernel
theorem dL_law_130 : decode cL_law 130 = .ok (.iload 4, 2) := by decide +kernel
theorem dL_law_132 : decode cL_law 132 = .ok (.iconst 1, 1) := by decide +kernel
theorem dL_law_133 : decode cL_law 133 = .ok (.iadd, 1) := by decide +kernel
theorem dL_law_134 : decode cL_law 134 = .ok (.iaload, 1) := by decide +kernel
theorem dL_law_135 : decode cL_law 135 = .ok (.invokevirtual 80, 3) := by decide +kernel
theorem dL_law_138 : decode cL_law 138 = .ok (.aload_n 2, 1) := by decide +kernel
theorem dL_law_139 : decode cL_law 139 = .ok (.invokevirtual 81, 3) := by decide +kernel
theorem dL_law_142 : decode cL_law 142 = .ok (.iload 5, 2) := by decide +kernel
theorem dL_law_144 : decode cL_law 144 = .ok (.if_icmp .eq 5, 3) := by decide +kernel
theorem dL_law_147 : decode cL_law 147 = .ok (.iconst 0, 1) := by decide +kernel
theorem dL_law_148 : decode cL_law 148 = .ok (.ireturn, 1) := by decide +kernel
theorem dL_law_149 : decode cL_law 149 = .ok (.goto 932, 3) := by decide +kernel
theorem dL_law_152 : decode cL_law 152 = .ok (.aload_n 1, 1) := by decide +kernel
theorem dL_law_153 : decode cL_law 153 = .ok (.aload_n 0, 1) := by decide +kernel
theorem dL_law_154 : decode cL_law 154 = .ok (.iload 4, 2) := by decide +kernel
theorem dL_law_156 : decode cL_law 156 = .ok (.iconst 1, 1) := by decide +kernel
theorem dL_law_157 : decode cL_law 157 = .ok (.iadd, 1) := by decide +kernel
theorem dL_law_158 : decode cL_law 158 = .ok (.iaload, 1) := by decide +kernel
theorem dL_law_159 : decode cL_law 159 = .ok (.aload_n 0, 1) := by decide +kernel
theorem dL_law_160 : decode cL_law 160 = .ok (.iload 4, 2) := by decide +kernel
theorem dL_law_162 : decode cL_law 162 = .ok (.iconst 2, 1) := by decide +kernel
theorem dL_law_163 : decode cL_law 163 = .ok (.iadd, 1) := by decide +kernel
theorem dL_law_164 : decode cL_law 164 = .ok (.iaload, 1) := by decide +kernel
theorem dL_law_165 : decode cL_law 165 = .ok (.aload_n 0, 1) := by decide +kernel
theorem dL_law_166 : decode cL_law 166 = .ok (.iload 4, 2) := by decide +kernel
theorem dL_law_168 : decode cL_law 168 = .ok (.iconst 3, 1) := by decide +kernel
theorem dL_law_169 : decode cL_law 169 = .ok (.iadd, 1) := by decide +kernel
theorem dL_law_170 : decode cL_law 170 = .ok (.iaload, 1) := by decide +kernel
theorem dL_law_171 : decode cL_law 171 = .ok (.aload_n 0, 1) := by decide +kernel
theorem dL_law_172 : decode cL_law 172 = .ok (.iload 4, 2) := by decide +kernel
theorem dL_law_174 : decode cL_law 174 = .ok (.iconst 4, 1) := by decide +kernel
theorem dL_law_175 : decode cL_law 175 = .ok (.iadd, 1) := by decide +kernel
theorem dL_law_176 : decode cL_law 176 = .ok (.iaload, 1) := by decide +kernel
theorem dL_law_177 : decode cL_law 177 = .ok (.aload_n 3, 1) := by decide +kernel
theorem dL_law_178 : decode cL_law 178 = .ok (.invokestatic 85, 3) := by decide +kernel
theorem dL_law_181 : decode cL_law 181 = .ok (.istore 5, 2) := by decide +kernel
theorem dL_law_183 : decode cL_law 183 = .ok (.aload_n 2, 1) := by decide +kernel
theorem dL_law_184 : decode cL_law 184 = .ok (.aload_n 0, 1) := by decide +kernel
theorem dL_law_185 : decode cL_law 185 = .ok (.iload 4, 2) := by decide +kernel
theorem dL_law_187 : decode cL_law 187 = .ok (.iconst 1, 1) := by decide +kernel
theorem dL_law_188 : decode cL_law 188 = .ok (.iadd, 1) := by decide +kernel
theorem dL_law_189 : decode cL_law 189 = .ok (.iaload, 1) := by decide +kernel
theorem dL_law_190 : decode cL_law 190 = .ok (.aload_n 0, 1) := by decide +kernel
theorem dL_law_191 : decode cL_law 191 = .ok (.iload 4, 2) := by decide +kernel
theorem dL_law_193 : decode cL_law 193 = .ok (.iconst 2, 1) := by decide +kernel
theorem dL_law_194 : decode cL_law 194 = .ok (.iadd, 1) := by decide +kernel
theorem dL_law_195 : decode cL_law 195 = .ok (.iaload, 1) := by decide +kernel
theorem dL_law_196 : decode cL_law 196 = .ok (.aload_n 0, 1) := by decide +kernel
theorem dL_law_197 : decode cL_law 197 = .ok (.iload 4, 2) := by decide +kernel
theorem dL_law_199 : decode cL_law 199 = .ok (.iconst 3, 1) := by decide +kernel
theorem dL_law_200 : decode cL_law 200 = .ok (.iadd, 1) := by decide +kernel
theorem dL_law_201 : decode cL_law 201 = .ok (.iaload, 1) := by decide +kernel
theorem dL_law_202 : decode cL_law 202 = .ok (.aload_n 0, 1) := by decide +kernel
theorem dL_law_203 : decode cL_law 203 = .ok (.iload 4, 2) := by decide +kernel
theorem dL_law_205 : decode cL_law 205 = .ok (.iconst 4, 1) := by decide +kernel
theorem dL_law_206 : decode cL_law 206 = .ok (.iadd, 1) := by decide +kernel
theorem dL_law_207 : decode cL_law 207 = .ok (.iaload, 1) := by decide +kernel
theorem dL_law_208 : decode cL_law 208 = .ok (.invokevirtual 88, 3) := by decide +kernel
theorem dL_law_211 : decode cL_law 211 = .ok (.istore 6, 2) := by decide +kernel
theorem dL_law_213 : decode cL_law 213 = .ok (.aload_n 2, 1) := by decide +kernel
theorem dL_law_214 : decode cL_law 214 = .ok (.invokevirtual 81, 3) := by decide +kernel
theorem dL_law_217 : decode cL_law 217 = .ok (.iload 5, 2) := by decide +kernel
theorem dL_law_219 : decode cL_law 219 = .ok (.if_icmp .eq 5, 3) := by decide +kernel
theorem dL_law_222 : decode cL_law 222 = .ok (.iconst 0, 1) := by decide +kernel
theorem dL_law_223 : decode cL_law 223 = .ok (.ireturn, 1) := by decide +kernel
theorem dL_law_224 : decode cL_law 224 = .ok (.iload 5, 2) := by decide +kernel
theorem dL_law_226 : decode cL_law 226 = .ok (.ifCond .ne 15, 3) := by decide +kernel
theorem dL_law_229 : decode cL_law 229 = .ok (.aload_n 3, 1) := by decide +kernel
theorem dL_law_230 : decode cL_law 230 = .ok (.iconst 0, 1) := by decide +kernel
theorem dL_law_231 : decode cL_law 231 = .ok (.laload, 1) := by decide +kernel
theorem dL_law_232 : decode cL_law 232 = .ok (.iload 6, 2) := by decide +kernel
theorem dL_law_234 : decode cL_law 234 = .ok (.i2l, 1) := by decide +kernel
theorem dL_law_235 : decode cL_law 235 = .ok (.lcmp, 1) := by decide +kernel
theorem dL_law_236 : decode cL_law 236 = .ok (.ifCond .eq 5, 3) := by decide +kernel
theorem dL_law_239 : decode cL_law 239 = .ok (.iconst 0, 1) := by decide +kernel
theorem dL_law_240 : decode cL_law 240 = .ok (.ireturn, 1) := by decide +kernel
theorem dL_law_241 : decode cL_law 241 = .ok (.goto 840, 3) := by decide +kernel
theorem dL_law_244 : decode cL_law 244 = .ok (.aload_n 1, 1) := by decide +kernel
theorem dL_law_245 : decode cL_law 245 = .ok (.aload_n 0, 1) := by decide +kernel
theorem dL_law_246 : decode cL_law 246 = .ok (.iload 4, 2) := by decide +kernel
theorem dL_law_248 : decode cL_law 248 = .ok (.iconst 1, 1) := by decide +kernel
theorem dL_law_249 : decode cL_law 249 = .ok (.iadd, 1) := by decide +kernel
theorem dL_law_250 : decode cL_law 250 = .ok (.iaload, 1) := by decide +kernel
theorem dL_law_251 : decode cL_law 251 = .ok (.aload_n 0, 1) := by decide +kernel
theorem dL_law_252 : decode cL_law 252 = .ok (.iload 4, 2) := by decide +kernel
theorem dL_law_254 : decode cL_law 254 = .ok (.iconst 2, 1) := by decide +kernel
theorem dL_law_255 : decode cL_law 255 = .ok (.iadd, 1) := by decide +kernel
theorem dL_law_256 : decode cL_law 256 = .ok (.iaload, 1) := by decide +kernel
theorem dL_law_257 : decode cL_law 257 = .ok (.aload_n 0, 1) := by decide +kernel
theorem dL_law_258 : decode cL_law 258 = .ok (.iload 4, 2) := by decide +kernel
theorem dL_law_260 : decode cL_law 260 = .ok (.iconst 3, 1) := by decide +kernel
theorem dL_law_261 : decode cL_law 261 = .ok (.iadd, 1) := by decide +kernel
theorem dL_law_262 : decode cL_law 262 = .ok (.iaload, 1) := by decide +kernel
theorem dL_law_263 : decode cL_law 263 = .ok (.invokestatic 89, 3) := by decide +kernel
theorem dL_law_266 : decode cL_law 266 = .ok (.istore 5, 2) := by decide +kernel
theorem dL_law_268 : decode cL_law 268 = .ok (.aload_n 2, 1) := by decide +kernel
theorem dL_law_269 : decode cL_law 269 = .ok (.aload_n 0, 1) := by decide +kernel
theorem dL_law_270 : decode cL_law 270 = .ok (.iload 4, 2) := by decide +kernel
theorem dL_law_272 : decode cL_law 272 = .ok (.iconst 1, 1) := by decide +kernel
theorem dL_law_273 : decode cL_law 273 = .ok (.iadd, 1) := by decide +kernel
theorem dL_law_274 : decode cL_law 274 = .ok (.iaload, 1) := by decide +kernel
theorem dL_law_275 : decode cL_law 275 = .ok (.aload_n 0, 1) := by decide +kernel
theorem dL_law_276 : decode cL_law 276 = .ok (.iload 4, 2) := by decide +kernel
theorem dL_law_278 : decode cL_law 278 = .ok (.iconst 2, 1) := by decide +kernel
theorem dL_law_279 : decode cL_law 279 = .ok (.iadd, 1) := by decide +kernel
theorem dL_law_280 : decode cL_law 280 = .ok (.iaload, 1) := by decide +kernel
theorem dL_law_281 : decode cL_law 281 = .ok (.aload_n 0, 1) := by decide +kernel
theorem dL_law_282 : decode cL_law 282 = .ok (.iload 4, 2) := by decide +kernel
theorem dL_law_284 : decode cL_law 284 = .ok (.iconst 3, 1) := by decide +kernel
theorem dL_law_285 : decode cL_law 285 = .ok (.iadd, 1) := by decide +kernel
theorem dL_law_286 : decode cL_law 286 = .ok (.iaload, 1) := by decide +kernel
theorem dL_law_287 : decode cL_law 287 = .ok (.invokevirtual 92, 3) := by decide +kernel
theorem dL_law_290 : decode cL_law 290 = .ok (.aload_n 2, 1) := by decide +kernel
theorem dL_law_291 : decode cL_law 291 = .ok (.invokevirtual 81, 3) := by decide +kernel
theorem dL_law_294 : decode cL_law 294 = .ok (.iload 5, 2) := by decide +kernel
theorem dL_law_296 : decode cL_law 296 = .ok (.if_icmp .eq 5, 3) := by decide +kernel
theorem dL_law_299 : decode cL_law 299 = .ok (.iconst 0, 1) := by decide +kernel
theorem dL_law_300 : decode cL_law 300 = .ok (.ireturn, 1) := by decide +kernel
theorem dL_law_301 : decode cL_law 301 = .ok (.goto 780, 3) := by decide +kernel
theorem dL_law_304 : decode cL_law 304 = .ok (.aload_n 1, 1) := by decide +kernel
theorem dL_law_305 : decode cL_law 305 = .ok (.aload_n 0, 1) := by decide +kernel
theorem dL_law_306 : decode cL_law 306 = .ok (.iload 4, 2) := by decide +kernel
theorem dL_law_308 : decode cL_law 308 = .ok (.iconst 1, 1) := by decide +kernel
theorem dL_law_309 : decode cL_law 309 = .ok (.iadd, 1) := by decide +kernel
theorem dL_law_310 : decode cL_law 310 = .ok (.iaload, 1) := by decide +kernel
theorem dL_law_311 : decode cL_law 311 = .ok (.aload_n 3, 1) := by decide +kernel
theorem dL_law_312 : decode cL_law 312 = .ok (.invokestatic 93, 3) := by decide +kernel
theorem dL_law_315 : decode cL_law 315 = .ok (.istore 5, 2) := by decide +kernel
theorem dL_law_317 : decode cL_law 317 = .ok (.aload_n 2, 1) := by decide +kernel
theorem dL_law_318 : decode cL_law 318 = .ok (.aload_n 0, 1) := by decide +kernel
theorem dL_law_319 : decode cL_law 319 = .ok (.iload 4, 2) := by decide +kernel
theorem dL_law_321 : decode cL_law 321 = .ok (.iconst 1, 1) := by decide +kernel
theorem dL_law_322 : decode cL_law 322 = .ok (.iadd, 1) := by decide +kernel
theorem dL_law_323 : decode cL_law 323 = .ok (.iaload, 1) := by decide +kernel
theorem dL_law_324 : decode cL_law 324 = .ok (.invokevirtual 96, 3) := by decide +kernel
theorem dL_law_327 : decode cL_law 327 = .ok (.istore 6, 2) := by decide +kernel
theorem dL_law_329 : decode cL_law 329 = .ok (.aload_n 2, 1) := by decide +kernel
theorem dL_law_330 : decode cL_law 330 = .ok (.invokevirtual 81, 3) := by decide +kernel
theorem dL_law_333 : decode cL_law 333 = .ok (.iload 5, 2) := by decide +kernel
theorem dL_law_335 : decode cL_law 335 = .ok (.if_icmp .eq 5, 3) := by decide +kernel
theorem dL_law_338 : decode cL_law 338 = .ok (.iconst 0, 1) := by decide +kernel
theorem dL_law_339 : decode cL_law 339 = .ok (.ireturn, 1) := by decide +kernel
theorem dL_law_340 : decode cL_law 340 = .ok (.iload 5, 2) := by decide +kernel
theorem dL_law_342 : decode cL_law 342 = .ok (.ifCond .ne 15, 3) := by decide +kernel
theorem dL_law_345 : decode cL_law 345 = .ok (.aload_n 3, 1) := by decide +kernel
theorem dL_law_346 : decode cL_law 346 = .ok (.iconst 0, 1) := by decide +kernel
theorem dL_law_347 : decode cL_law 347 = .ok (.laload, 1) := by decide +kernel
theorem dL_law_348 : decode cL_law 348 = .ok (.iload 6, 2) := by decide +kernel
theorem dL_law_350 : decode cL_law 350 = .ok (.i2l, 1) := by decide +kernel
theorem dL_law_351 : decode cL_law 351 = .ok (.lcmp, 1) := by decide +kernel
theorem dL_law_352 : decode cL_law 352 = .ok (.ifCond .eq 5, 3) := by decide +kernel
theorem dL_law_355 : decode cL_law 355 = .ok (.iconst 0, 1) := by decide +kernel
theorem dL_law_356 : decode cL_law 356 = .ok (.ireturn, 1) := by decide +kernel
theorem dL_law_357 : decode cL_law 357 = .ok (.goto 724, 3) := by decide +kernel
theorem dL_law_360 : decode cL_law 360 = .ok (.aload_n 1, 1) := by decide +kernel
theorem dL_law_361 : decode cL_law 361 = .ok (.aload_n 0, 1) := by decide +kernel
theorem dL_law_362 : decode cL_law 362 = .ok (.iload 4, 2) := by decide +kernel
theorem dL_law_364 : decode cL_law 364 = .ok (.iconst 1, 1) := by decide +kernel
theorem dL_law_365 : decode cL_law 365 = .ok (.iadd, 1) := by decide +kernel
theorem dL_law_366 : decode cL_law 366 = .ok (.iaload, 1) := by decide +kernel
theorem dL_law_367 : decode cL_law 367 = .ok (.aload_n 0, 1) := by decide +kernel
theorem dL_law_368 : decode cL_law 368 = .ok (.iload 4, 2) := by decide +kernel
theorem dL_law_370 : decode cL_law 370 = .ok (.iconst 2, 1) := by decide +kernel
theorem dL_law_371 : decode cL_law 371 = .ok (.iadd, 1) := by decide +kernel
theorem dL_law_372 : decode cL_law 372 = .ok (.iaload, 1) := by decide +kernel
theorem dL_law_373 : decode cL_law 373 = .ok (.aload_n 0, 1) := by decide +kernel
theorem dL_law_374 : decode cL_law 374 = .ok (.iload 4, 2) := by decide +kernel
theorem dL_law_376 : decode cL_law 376 = .ok (.iconst 3, 1) := by decide +kernel
theorem dL_law_377 : decode cL_law 377 = .ok (.iadd, 1) := by decide +kernel
theorem dL_law_378 : decode cL_law 378 = .ok (.iaload, 1) := by decide +kernel
theorem dL_law_379 : decode cL_law 379 = .ok (.invokestatic 97, 3) := by decide +kernel
theorem dL_law_382 : decode cL_law 382 = .ok (.istore 5, 2) := by decide +kernel
theorem dL_law_384 : decode cL_law 384 = .ok (.aload_n 2, 1) := by decide +kernel
theorem dL_law_385 : decode cL_law 385 = .ok (.aload_n 0, 1) := by decide +kernel
theorem dL_law_386 : decode cL_law 386 = .ok (.iload 4, 2) := by decide +kernel
theorem dL_law_388 : decode cL_law 388 = .ok (.iconst 1, 1) := by decide +kernel
theorem dL_law_389 : decode cL_law 389 = .ok (.iadd, 1) := by decide +kernel
theorem dL_law_390 : decode cL_law 390 = .ok (.iaload, 1) := by decide +kernel
theorem dL_law_391 : decode cL_law 391 = .ok (.aload_n 0, 1) := by decide +kernel
theorem dL_law_392 : decode cL_law 392 = .ok (.iload 4, 2) := by decide +kernel
theorem dL_law_394 : decode cL_law 394 = .ok (.iconst 2, 1) := by decide +kernel
theorem dL_law_395 : decode cL_law 395 = .ok (.iadd, 1) := by decide +kernel
theorem dL_law_396 : decode cL_law 396 = .ok (.iaload, 1) := by decide +kernel
theorem dL_law_397 : decode cL_law 397 = .ok (.aload_n 0, 1) := by decide +kernel
theorem dL_law_398 : decode cL_law 398 = .ok (.iload 4, 2) := by decide +kernel
theorem dL_law_400 : decode cL_law 400 = .ok (.iconst 3, 1) := by decide +kernel
theorem dL_law_401 : decode cL_law 401 = .ok (.iadd, 1) := by decide +kernel
theorem dL_law_402 : decode cL_law 402 = .ok (.iaload, 1) := by decide +kernel
theorem dL_law_403 : decode cL_law 403 = .ok (.invokevirtual 99, 3) := by decide +kernel
theorem dL_law_406 : decode cL_law 406 = .ok (.aload_n 2, 1) := by decide +kernel
theorem dL_law_407 : decode cL_law 407 = .ok (.invokevirtual 81, 3) := by decide +kernel
theorem dL_law_410 : decode cL_law 410 = .ok (.iload 5, 2) := by decide +kernel
theorem dL_law_412 : decode cL_law 412 = .ok (.if_icmp .eq 5, 3) := by decide +kernel
theorem dL_law_415 : decode cL_law 415 = .ok (.iconst 0, 1) := by decide +kernel
theorem dL_law_416 : decode cL_law 416 = .ok (.ireturn, 1) := by decide +kernel
theorem dL_law_417 : decode cL_law 417 = .ok (.goto 664, 3) := by decide +kernel
theorem dL_law_420 : decode cL_law 420 = .ok (.aload_n 1, 1) := by decide +kernel
theorem dL_law_421 : decode cL_law 421 = .ok (.aload_n 0, 1) := by decide +kernel
theorem dL_law_422 : decode cL_law 422 = .ok (.iload 4, 2) := by decide +kernel
theorem dL_law_424 : decode cL_law 424 = .ok (.iconst 1, 1) := by decide +kernel
theorem dL_law_425 : decode cL_law 425 = .ok (.iadd, 1) := by decide +kernel
theorem dL_law_426 : decode cL_law 426 = .ok (.iaload, 1) := by decide +kernel
theorem dL_law_427 : decode cL_law 427 = .ok (.aload_n 0, 1) := by decide +kernel
theorem dL_law_428 : decode cL_law 428 = .ok (.iload 4, 2) := by decide +kernel
theorem dL_law_430 : decode cL_law 430 = .ok (.iconst 2, 1) := by decide +kernel
theorem dL_law_431 : decode cL_law 431 = .ok (.iadd, 1) := by decide +kernel
theorem dL_law_432 : decode cL_law 432 = .ok (.iaload, 1) := by decide +kernel
theorem dL_law_433 : decode cL_law 433 = .ok (.invokestatic 100, 3) := by decide +kernel
theorem dL_law_436 : decode cL_law 436 = .ok (.istore 5, 2) := by decide +kernel
theorem dL_law_438 : decode cL_law 438 = .ok (.aload_n 2, 1) := by decide +kernel
theorem dL_law_439 : decode cL_law 439 = .ok (.aload_n 0, 1) := by decide +kernel
theorem dL_law_440 : decode cL_law 440 = .ok (.iload 4, 2) := by decide +kernel
theorem dL_law_442 : decode cL_law 442 = .ok (.iconst 1, 1) := by decide +kernel
theorem dL_law_443 : decode cL_law 443 = .ok (.iadd, 1) := by decide +kernel
theorem dL_law_444 : decode cL_law 444 = .ok (.iaload, 1) := by decide +kernel
theorem dL_law_445 : decode cL_law 445 = .ok (.aload_n 0, 1) := by decide +kernel
theorem dL_law_446 : decode cL_law 446 = .ok (.iload 4, 2) := by decide +kernel
theorem dL_law_448 : decode cL_law 448 = .ok (.iconst 2, 1) := by decide +kernel
theorem dL_law_449 : decode cL_law 449 = .ok (.iadd, 1) := by decide +kernel
theorem dL_law_450 : decode cL_law 450 = .ok (.iaload, 1) := by decide +kernel
theorem dL_law_451 : decode cL_law 451 = .ok (.invokevirtual 103, 3) := by decide +kernel
theorem dL_law_454 : decode cL_law 454 = .ok (.aload_n 2, 1) := by decide +kernel
theorem dL_law_455 : decode cL_law 455 = .ok (.invokevirtual 81, 3) := by decide +kernel
theorem dL_law_458 : decode cL_law 458 = .ok (.iload 5, 2) := by decide +kernel
theorem dL_law_460 : decode cL_law 460 = .ok (.if_icmp .eq 5, 3) := by decide +kernel
theorem dL_law_463 : decode cL_law 463 = .ok (.iconst 0, 1) := by decide +kernel
theorem dL_law_464 : decode cL_law 464 = .ok (.ireturn, 1) := by decide +kernel
theorem dL_law_465 : decode cL_law 465 = .ok (.goto 616, 3) := by decide +kernel
theorem dL_law_468 : decode cL_law 468 = .ok (.aload_n 1, 1) := by decide +kernel
theorem dL_law_469 : decode cL_law 469 = .ok (.aload_n 0, 1) := by decide +kernel
theorem dL_law_470 : decode cL_law 470 = .ok (.iload 4, 2) := by decide +kernel
theorem dL_law_472 : decode cL_law 472 = .ok (.iconst 1, 1) := by decide +kernel
theorem dL_law_473 : decode cL_law 473 = .ok (.iadd, 1) := by decide +kernel
theorem dL_law_474 : decode cL_law 474 = .ok (.iaload, 1) := by decide +kernel
theorem dL_law_475 : decode cL_law 475 = .ok (.aload_n 3, 1) := by decide +kernel
theorem dL_law_476 : decode cL_law 476 = .ok (.invokestatic 104, 3) := by decide +kernel
theorem dL_law_479 : decode cL_law 479 = .ok (.istore 5, 2) := by decide +kernel
theorem dL_law_481 : decode cL_law 481 = .ok (.aload_n 2, 1) := by decide +kernel
theorem dL_law_482 : decode cL_law 482 = .ok (.aload_n 0, 1) := by decide +kernel
theorem dL_law_483 : decode cL_law 483 = .ok (.iload 4, 2) := by decide +kernel
theorem dL_law_485 : decode cL_law 485 = .ok (.iconst 1, 1) := by decide +kernel
theorem dL_law_486 : decode cL_law 486 = .ok (.iadd, 1) := by decide +kernel
theorem dL_law_487 : decode cL_law 487 = .ok (.iaload, 1) := by decide +kernel
theorem dL_law_488 : decode cL_law 488 = .ok (.invokevirtual 106, 3) := by decide +kernel
theorem dL_law_491 : decode cL_law 491 = .ok (.istore 6, 2) := by decide +kernel
theorem dL_law_493 : decode cL_law 493 = .ok (.aload_n 2, 1) := by decide +kernel
theorem dL_law_494 : decode cL_law 494 = .ok (.invokevirtual 81, 3) := by decide +kernel
theorem dL_law_497 : decode cL_law 497 = .ok (.iload 5, 2) := by decide +kernel
theorem dL_law_499 : decode cL_law 499 = .ok (.if_icmp .eq 5, 3) := by decide +kernel
theorem dL_law_502 : decode cL_law 502 = .ok (.iconst 0, 1) := by decide +kernel
theorem dL_law_503 : decode cL_law 503 = .ok (.ireturn, 1) := by decide +kernel
theorem dL_law_504 : decode cL_law 504 = .ok (.iload 5, 2) := by decide +kernel
theorem dL_law_506 : decode cL_law 506 = .ok (.ifCond .ne 15, 3) := by decide +kernel
theorem dL_law_509 : decode cL_law 509 = .ok (.aload_n 3, 1) := by decide +kernel
theorem dL_law_510 : decode cL_law 510 = .ok (.iconst 0, 1) := by decide +kernel
theorem dL_law_511 : decode cL_law 511 = .ok (.laload, 1) := by decide +kernel
theorem dL_law_512 : decode cL_law 512 = .ok (.iload 6, 2) := by decide +kernel
theorem dL_law_514 : decode cL_law 514 = .ok (.i2l, 1) := by decide +kernel
theorem dL_law_515 : decode cL_law 515 = .ok (.lcmp, 1) := by decide +kernel
theorem dL_law_516 : decode cL_law 516 = .ok (.ifCond .eq 5, 3) := by decide +kernel
theorem dL_law_519 : decode cL_law 519 = .ok (.iconst 0, 1) := by decide +kernel
theorem dL_law_520 : decode cL_law 520 = .ok (.ireturn, 1) := by decide +kernel
theorem dL_law_521 : decode cL_law 521 = .ok (.goto 560, 3) := by decide +kernel
theorem dL_law_524 : decode cL_law 524 = .ok (.aload_n 1, 1) := by decide +kernel
theorem dL_law_525 : decode cL_law 525 = .ok (.invokevirtual 107, 3) := by decide +kernel
theorem dL_law_528 : decode cL_law 528 = .ok (.aload_n 2, 1) := by decide +kernel
theorem dL_law_529 : decode cL_law 529 = .ok (.invokevirtual 110, 3) := by decide +kernel
theorem dL_law_532 : decode cL_law 532 = .ok (.if_icmp .eq 549, 3) := by decide +kernel
theorem dL_law_535 : decode cL_law 535 = .ok (.iconst 0, 1) := by decide +kernel
theorem dL_law_536 : decode cL_law 536 = .ok (.ireturn, 1) := by decide +kernel
theorem dL_law_537 : decode cL_law 537 = .ok (.aload_n 1, 1) := by decide +kernel
theorem dL_law_538 : decode cL_law 538 = .ok (.aload_n 0, 1) := by decide +kernel
theorem dL_law_539 : decode cL_law 539 = .ok (.iload 4, 2) := by decide +kernel
theorem dL_law_541 : decode cL_law 541 = .ok (.iconst 1, 1) := by decide +kernel
theorem dL_law_542 : decode cL_law 542 = .ok (.iadd, 1) := by decide +kernel
theorem dL_law_543 : decode cL_law 543 = .ok (.iaload, 1) := by decide +kernel
theorem dL_law_544 : decode cL_law 544 = .ok (.aload_n 3, 1) := by decide +kernel
theorem dL_law_545 : decode cL_law 545 = .ok (.invokestatic 111, 3) := by decide +kernel
theorem dL_law_548 : decode cL_law 548 = .ok (.istore 5, 2) := by decide +kernel
theorem dL_law_550 : decode cL_law 550 = .ok (.aload_n 2, 1) := by decide +kernel
theorem dL_law_551 : decode cL_law 551 = .ok (.aload_n 0, 1) := by decide +kernel
theorem dL_law_552 : decode cL_law 552 = .ok (.iload 4, 2) := by decide +kernel
theorem dL_law_554 : decode cL_law 554 = .ok (.iconst 1, 1) := by decide +kernel
theorem dL_law_555 : decode cL_law 555 = .ok (.iadd, 1) := by decide +kernel
theorem dL_law_556 : decode cL_law 556 = .ok (.iaload, 1) := by decide +kernel
theorem dL_law_557 : decode cL_law 557 = .ok (.invokevirtual 113, 3) := by decide +kernel
theorem dL_law_560 : decode cL_law 560 = .ok (.istore 6, 2) := by decide +kernel
theorem dL_law_562 : decode cL_law 562 = .ok (.aload_n 2, 1) := by decide +kernel
theorem dL_law_563 : decode cL_law 563 = .ok (.invokevirtual 81, 3) := by decide +kernel
theorem dL_law_566 : decode cL_law 566 = .ok (.iload 5, 2) := by decide +kernel
theorem dL_law_568 : decode cL_law 568 = .ok (.if_icmp .eq 5, 3) := by decide +kernel
theorem dL_law_571 : decode cL_law 571 = .ok (.iconst 0, 1) := by decide +kernel
theorem dL_law_572 : decode cL_law 572 = .ok (.ireturn, 1) := by decide +kernel
theorem dL_law_573 : decode cL_law 573 = .ok (.iload 5, 2) := by decide +kernel
theorem dL_law_575 : decode cL_law 575 = .ok (.ifCond .ne 15, 3) := by decide +kernel
theorem dL_law_578 : decode cL_law 578 = .ok (.aload_n 3, 1) := by decide +kernel
theorem dL_law_579 : decode cL_law 579 = .ok (.iconst 0, 1) := by decide +kernel
theorem dL_law_580 : decode cL_law 580 = .ok (.laload, 1) := by decide +kernel
theorem dL_law_581 : decode cL_law 581 = .ok (.iload 6, 2) := by decide +kernel
theorem dL_law_583 : decode cL_law 583 = .ok (.i2l, 1) := by decide +kernel
theorem dL_law_584 : decode cL_law 584 = .ok (.lcmp, 1) := by decide +kernel
theorem dL_law_585 : decode cL_law 585 = .ok (.ifCond .eq 5, 3) := by decide +kernel
theorem dL_law_588 : decode cL_law 588 = .ok (.iconst 0, 1) := by decide +kernel
theorem dL_law_589 : decode cL_law 589 = .ok (.ireturn, 1) := by decide +kernel
theorem dL_law_590 : decode cL_law 590 = .ok (.goto 491, 3) := by decide +kernel
theorem dL_law_593 : decode cL_law 593 = .ok (.aload_n 1, 1) := by decide +kernel
theorem dL_law_594 : decode cL_law 594 = .ok (.aload_n 0, 1) := by decide +kernel
theorem dL_law_595 : decode cL_law 595 = .ok (.iload 4, 2) := by decide +kernel
theorem dL_law_597 : decode cL_law 597 = .ok (.iconst 1, 1) := by decide +kernel
theorem dL_law_598 : decode cL_law 598 = .ok (.iadd, 1) := by decide +kernel
theorem dL_law_599 : decode cL_law 599 = .ok (.iaload, 1) := by decide +kernel
theorem dL_law_600 : decode cL_law 600 = .ok (.aload_n 0, 1) := by decide +kernel
theorem dL_law_601 : decode cL_law 601 = .ok (.iload 4, 2) := by decide +kernel
theorem dL_law_603 : decode cL_law 603 = .ok (.iconst 2, 1) := by decide +kernel
theorem dL_law_604 : decode cL_law 604 = .ok (.iadd, 1) := by decide +kernel
theorem dL_law_605 : decode cL_law 605 = .ok (.iaload, 1) := by decide +kernel
theorem dL_law_606 : decode cL_law 606 = .ok (.aload_n 0, 1) := by decide +kernel
theorem dL_law_607 : decode cL_law 607 = .ok (.iload 4, 2) := by decide +kernel
theorem dL_law_609 : decode cL_law 609 = .ok (.iconst 3, 1) := by decide +kernel
theorem dL_law_610 : decode cL_law 610 = .ok (.iadd, 1) := by decide +kernel
theorem dL_law_611 : decode cL_law 611 = .ok (.iaload, 1) := by decide +kernel
theorem dL_law_612 : decode cL_law 612 = .ok (.aload_n 3, 1) := by decide +kernel
theorem dL_law_613 : decode cL_law 613 = .ok (.invokestatic 114, 3) := by decide +kernel
theorem dL_law_616 : decode cL_law 616 = .ok (.istore 5, 2) := by decide +kernel
theorem dL_law_618 : decode cL_law 618 = .ok (.aload_n 2, 1) := by decide +kernel
theorem dL_law_619 : decode cL_law 619 = .ok (.aload_n 0, 1) := by decide +kernel
theorem dL_law_620 : decode cL_law 620 = .ok (.iload 4, 2) := by decide +kernel
theorem dL_law_622 : decode cL_law 622 = .ok (.iconst 1, 1) := by decide +kernel
theorem dL_law_623 : decode cL_law 623 = .ok (.iadd, 1) := by decide +kernel
theorem dL_law_624 : decode cL_law 624 = .ok (.iaload, 1) := by decide +kernel
theorem dL_law_625 : decode cL_law 625 = .ok (.aload_n 0, 1) := by decide +kernel
theorem dL_law_626 : decode cL_law 626 = .ok (.iload 4, 2) := by decide +kernel
theorem dL_law_628 : decode cL_law 628 = .ok (.iconst 2, 1) := by decide +kernel
theorem dL_law_629 : decode cL_law 629 = .ok (.iadd, 1) := by decide +kernel
theorem dL_law_630 : decode cL_law 630 = .ok (.iaload, 1) := by decide +kernel
theorem dL_law_631 : decode cL_law 631 = .ok (.aload_n 0, 1) := by decide +kernel
theorem dL_law_632 : decode cL_law 632 = .ok (.iload 4, 2) := by decide +kernel
theorem dL_law_634 : decode cL_law 634 = .ok (.iconst 3, 1) := by decide +kernel
theorem dL_law_635 : decode cL_law 635 = .ok (.iadd, 1) := by decide +kernel
theorem dL_law_636 : decode cL_law 636 = .ok (.iaload, 1) := by decide +kernel
theorem dL_law_637 : decode cL_law 637 = .ok (.invokevirtual 117, 3) := by decide +kernel
theorem dL_law_640 : decode cL_law 640 = .ok (.istore 6, 2) := by decide +kernel
theorem dL_law_642 : decode cL_law 642 = .ok (.aload_n 2, 1) := by decide +kernel
theorem dL_law_643 : decode cL_law 643 = .ok (.invokevirtual 81, 3) := by decide +kernel
theorem dL_law_646 : decode cL_law 646 = .ok (.iload 5, 2) := by decide +kernel
theorem dL_law_648 : decode cL_law 648 = .ok (.if_icmp .eq 5, 3) := by decide +kernel
theorem dL_law_651 : decode cL_law 651 = .ok (.iconst 0, 1) := by decide +kernel
theorem dL_law_652 : decode cL_law 652 = .ok (.ireturn, 1) := by decide +kernel
theorem dL_law_653 : decode cL_law 653 = .ok (.iload 5, 2) := by decide +kernel
theorem dL_law_655 : decode cL_law 655 = .ok (.ifCond .ne 15, 3) := by decide +kernel
theorem dL_law_658 : decode cL_law 658 = .ok (.aload_n 3, 1) := by decide +kernel
theorem dL_law_659 : decode cL_law 659 = .ok (.iconst 0, 1) := by decide +kernel
theorem dL_law_660 : decode cL_law 660 = .ok (.laload, 1) := by decide +kernel
theorem dL_law_661 : decode cL_law 661 = .ok (.iload 6, 2) := by decide +kernel
theorem dL_law_663 : decode cL_law 663 = .ok (.i2l, 1) := by decide +kernel
theorem dL_law_664 : decode cL_law 664 = .ok (.lcmp, 1) := by decide +kernel
theorem dL_law_665 : decode cL_law 665 = .ok (.ifCond .eq 5, 3) := by decide +kernel
theorem dL_law_668 : decode cL_law 668 = .ok (.iconst 0, 1) := by decide +kernel
theorem dL_law_669 : decode cL_law 669 = .ok (.ireturn, 1) := by decide +kernel
theorem dL_law_670 : decode cL_law 670 = .ok (.goto 411, 3) := by decide +kernel
theorem dL_law_673 : decode cL_law 673 = .ok (.aload_n 1, 1) := by decide +kernel
theorem dL_law_674 : decode cL_law 674 = .ok (.aload_n 0, 1) := by decide +kernel
theorem dL_law_675 : decode cL_law 675 = .ok (.iload 4, 2) := by decide +kernel
theorem dL_law_677 : decode cL_law 677 = .ok (.iconst 1, 1) := by decide +kernel
theorem dL_law_678 : decode cL_law 678 = .ok (.iadd, 1) := by decide +kernel
theorem dL_law_679 : decode cL_law 679 = .ok (.iaload, 1) := by decide +kernel
theorem dL_law_680 : decode cL_law 680 = .ok (.aload_n 3, 1) := by decide +kernel
theorem dL_law_681 : decode cL_law 681 = .ok (.invokestatic 118, 3) := by decide +kernel
theorem dL_law_684 : decode cL_law 684 = .ok (.istore 5, 2) := by decide +kernel
theorem dL_law_686 : decode cL_law 686 = .ok (.aload_n 2, 1) := by decide +kernel
theorem dL_law_687 : decode cL_law 687 = .ok (.aload_n 0, 1) := by decide +kernel
theorem dL_law_688 : decode cL_law 688 = .ok (.iload 4, 2) := by decide +kernel
theorem dL_law_690 : decode cL_law 690 = .ok (.iconst 1, 1) := by decide +kernel
theorem dL_law_691 : decode cL_law 691 = .ok (.iadd, 1) := by decide +kernel
theorem dL_law_692 : decode cL_law 692 = .ok (.iaload, 1) := by decide +kernel
theorem dL_law_693 : decode cL_law 693 = .ok (.invokevirtual 120, 3) := by decide +kernel
theorem dL_law_696 : decode cL_law 696 = .ok (.istore 6, 2) := by decide +kernel
theorem dL_law_698 : decode cL_law 698 = .ok (.aload_n 2, 1) := by decide +kernel
theorem dL_law_699 : decode cL_law 699 = .ok (.invokevirtual 81, 3) := by decide +kernel
theorem dL_law_702 : decode cL_law 702 = .ok (.iload 5, 2) := by decide +kernel
theorem dL_law_704 : decode cL_law 704 = .ok (.if_icmp .eq 5, 3) := by decide +kernel
theorem dL_law_707 : decode cL_law 707 = .ok (.iconst 0, 1) := by decide +kernel
theorem dL_law_708 : decode cL_law 708 = .ok (.ireturn, 1) := by decide +kernel
theorem dL_law_709 : decode cL_law 709 = .ok (.iload 5, 2) := by decide +kernel
theorem dL_law_711 : decode cL_law 711 = .ok (.ifCond .ne 15, 3) := by decide +kernel
theorem dL_law_714 : decode cL_law 714 = .ok (.aload_n 3, 1) := by decide +kernel
theorem dL_law_715 : decode cL_law 715 = .ok (.iconst 0, 1) := by decide +kernel
theorem dL_law_716 : decode cL_law 716 = .ok (.laload, 1) := by decide +kernel
theorem dL_law_717 : decode cL_law 717 = .ok (.iload 6, 2) := by decide +kernel
theorem dL_law_719 : decode cL_law 719 = .ok (.i2l, 1) := by decide +kernel
theorem dL_law_720 : decode cL_law 720 = .ok (.lcmp, 1) := by decide +kernel
theorem dL_law_721 : decode cL_law 721 = .ok (.ifCond .eq 5, 3) := by decide +kernel
theorem dL_law_724 : decode cL_law 724 = .ok (.iconst 0, 1) := by decide +kernel
theorem dL_law_725 : decode cL_law 725 = .ok (.ireturn, 1) := by decide +kernel
theorem dL_law_726 : decode cL_law 726 = .ok (.goto 355, 3) := by decide +kernel
theorem dL_law_729 : decode cL_law 729 = .ok (.aload_n 1, 1) := by decide +kernel
theorem dL_law_730 : decode cL_law 730 = .ok (.aload_n 0, 1) := by decide +kernel
theorem dL_law_731 : decode cL_law 731 = .ok (.iload 4, 2) := by decide +kernel
theorem dL_law_733 : decode cL_law 733 = .ok (.iconst 1, 1) := by decide +kernel
theorem dL_law_734 : decode cL_law 734 = .ok (.iadd, 1) := by decide +kernel
theorem dL_law_735 : decode cL_law 735 = .ok (.iaload, 1) := by decide +kernel
theorem dL_law_736 : decode cL_law 736 = .ok (.aload_n 3, 1) := by decide +kernel
theorem dL_law_737 : decode cL_law 737 = .ok (.invokestatic 121, 3) := by decide +kernel
theorem dL_law_740 : decode cL_law 740 = .ok (.istore 5, 2) := by decide +kernel
theorem dL_law_742 : decode cL_law 742 = .ok (.aload_n 2, 1) := by decide +kernel
theorem dL_law_743 : decode cL_law 743 = .ok (.aload_n 0, 1) := by decide +kernel
theorem dL_law_744 : decode cL_law 744 = .ok (.iload 4, 2) := by decide +kernel
theorem dL_law_746 : decode cL_law 746 = .ok (.iconst 1, 1) := by decide +kernel
theorem dL_law_747 : decode cL_law 747 = .ok (.iadd, 1) := by decide +kernel
theorem dL_law_748 : decode cL_law 748 = .ok (.iaload, 1) := by decide +kernel
theorem dL_law_749 : decode cL_law 749 = .ok (.invokevirtual 123, 3) := by decide +kernel
theorem dL_law_752 : decode cL_law 752 = .ok (.istore 6, 2) := by decide +kernel
theorem dL_law_754 : decode cL_law 754 = .ok (.aload_n 2, 1) := by decide +kernel
theorem dL_law_755 : decode cL_law 755 = .ok (.invokevirtual 81, 3) := by decide +kernel
theorem dL_law_758 : decode cL_law 758 = .ok (.iload 5, 2) := by decide +kernel
theorem dL_law_760 : decode cL_law 760 = .ok (.if_icmp .eq 5, 3) := by decide +kernel
theorem dL_law_763 : decode cL_law 763 = .ok (.iconst 0, 1) := by decide +kernel
theorem dL_law_764 : decode cL_law 764 = .ok (.ireturn, 1) := by decide +kernel
theorem dL_law_765 : decode cL_law 765 = .ok (.iload 5, 2) := by decide +kernel
theorem dL_law_767 : decode cL_law 767 = .ok (.ifCond .ne 15, 3) := by decide +kernel
theorem dL_law_770 : decode cL_law 770 = .ok (.aload_n 3, 1) := by decide +kernel
theorem dL_law_771 : decode cL_law 771 = .ok (.iconst 0, 1) := by decide +kernel
theorem dL_law_772 : decode cL_law 772 = .ok (.laload, 1) := by decide +kernel
theorem dL_law_773 : decode cL_law 773 = .ok (.iload 6, 2) := by decide +kernel
theorem dL_law_775 : decode cL_law 775 = .ok (.i2l, 1) := by decide +kernel
theorem dL_law_776 : decode cL_law 776 = .ok (.lcmp, 1) := by decide +kernel
theorem dL_law_777 : decode cL_law 777 = .ok (.ifCond .eq 5, 3) := by decide +kernel
theorem dL_law_780 : decode cL_law 780 = .ok (.iconst 0, 1) := by decide +kernel
theorem dL_law_781 : decode cL_law 781 = .ok (.ireturn, 1) := by decide +kernel
theorem dL_law_782 : decode cL_law 782 = .ok (.goto 299, 3) := by decide +kernel
theorem dL_law_785 : decode cL_law 785 = .ok (.aload_n 1, 1) := by decide +kernel
theorem dL_law_786 : decode cL_law 786 = .ok (.aload_n 0, 1) := by decide +kernel
theorem dL_law_787 : decode cL_law 787 = .ok (.iload 4, 2) := by decide +kernel
theorem dL_law_789 : decode cL_law 789 = .ok (.iconst 1, 1) := by decide +kernel
theorem dL_law_790 : decode cL_law 790 = .ok (.iadd, 1) := by decide +kernel
theorem dL_law_791 : decode cL_law 791 = .ok (.iaload, 1) := by decide +kernel
theorem dL_law_792 : decode cL_law 792 = .ok (.aload_n 0, 1) := by decide +kernel
theorem dL_law_793 : decode cL_law 793 = .ok (.iload 4, 2) := by decide +kernel
theorem dL_law_795 : decode cL_law 795 = .ok (.iconst 2, 1) := by decide +kernel
theorem dL_law_796 : decode cL_law 796 = .ok (.iadd, 1) := by decide +kernel
theorem dL_law_797 : decode cL_law 797 = .ok (.iaload, 1) := by decide +kernel
theorem dL_law_798 : decode cL_law 798 = .ok (.aload_n 3, 1) := by decide +kernel
theorem dL_law_799 : decode cL_law 799 = .ok (.invokestatic 124, 3) := by decide +kernel
theorem dL_law_802 : decode cL_law 802 = .ok (.istore 5, 2) := by decide +kernel
theorem dL_law_804 : decode cL_law 804 = .ok (.aload_n 2, 1) := by decide +kernel
theorem dL_law_805 : decode cL_law 805 = .ok (.aload_n 0, 1) := by decide +kernel
theorem dL_law_806 : decode cL_law 806 = .ok (.iload 4, 2) := by decide +kernel
theorem dL_law_808 : decode cL_law 808 = .ok (.iconst 1, 1) := by decide +kernel
theorem dL_law_809 : decode cL_law 809 = .ok (.iadd, 1) := by decide +kernel
theorem dL_law_810 : decode cL_law 810 = .ok (.iaload, 1) := by decide +kernel
theorem dL_law_811 : decode cL_law 811 = .ok (.aload_n 0, 1) := by decide +kernel
theorem dL_law_812 : decode cL_law 812 = .ok (.iload 4, 2) := by decide +kernel
theorem dL_law_814 : decode cL_law 814 = .ok (.iconst 2, 1) := by decide +kernel
theorem dL_law_815 : decode cL_law 815 = .ok (.iadd, 1) := by decide +kernel
theorem dL_law_816 : decode cL_law 816 = .ok (.iaload, 1) := by decide +kernel
theorem dL_law_817 : decode cL_law 817 = .ok (.invokevirtual 127, 3) := by decide +kernel
theorem dL_law_820 : decode cL_law 820 = .ok (.istore 6, 2) := by decide +kernel
theorem dL_law_822 : decode cL_law 822 = .ok (.aload_n 2, 1) := by decide +kernel
theorem dL_law_823 : decode cL_law 823 = .ok (.invokevirtual 81, 3) := by decide +kernel
theorem dL_law_826 : decode cL_law 826 = .ok (.iload 5, 2) := by decide +kernel
theorem dL_law_828 : decode cL_law 828 = .ok (.if_icmp .eq 5, 3) := by decide +kernel
theorem dL_law_831 : decode cL_law 831 = .ok (.iconst 0, 1) := by decide +kernel
theorem dL_law_832 : decode cL_law 832 = .ok (.ireturn, 1) := by decide +kernel
theorem dL_law_833 : decode cL_law 833 = .ok (.iload 5, 2) := by decide +kernel
theorem dL_law_835 : decode cL_law 835 = .ok (.ifCond .ne 15, 3) := by decide +kernel
theorem dL_law_838 : decode cL_law 838 = .ok (.aload_n 3, 1) := by decide +kernel
theorem dL_law_839 : decode cL_law 839 = .ok (.iconst 0, 1) := by decide +kernel
theorem dL_law_840 : decode cL_law 840 = .ok (.laload, 1) := by decide +kernel
theorem dL_law_841 : decode cL_law 841 = .ok (.iload 6, 2) := by decide +kernel
theorem dL_law_843 : decode cL_law 843 = .ok (.i2l, 1) := by decide +kernel
theorem dL_law_844 : decode cL_law 844 = .ok (.lcmp, 1) := by decide +kernel
theorem dL_law_845 : decode cL_law 845 = .ok (.ifCond .eq 5, 3) := by decide +kernel
theorem dL_law_848 : decode cL_law 848 = .ok (.iconst 0, 1) := by decide +kernel
theorem dL_law_849 : decode cL_law 849 = .ok (.ireturn, 1) := by decide +kernel
theorem dL_law_850 : decode cL_law 850 = .ok (.goto 231, 3) := by decide +kernel
theorem dL_law_853 : decode cL_law 853 = .ok (.aload_n 1, 1) := by decide +kernel
theorem dL_law_854 : decode cL_law 854 = .ok (.aload_n 0, 1) := by decide +kernel
theorem dL_law_855 : decode cL_law 855 = .ok (.iload 4, 2) := by decide +kernel
theorem dL_law_857 : decode cL_law 857 = .ok (.iconst 1, 1) := by decide +kernel
theorem dL_law_858 : decode cL_law 858 = .ok (.iadd, 1) := by decide +kernel
theorem dL_law_859 : decode cL_law 859 = .ok (.iaload, 1) := by decide +kernel
theorem dL_law_860 : decode cL_law 860 = .ok (.aload_n 0, 1) := by decide +kernel
theorem dL_law_861 : decode cL_law 861 = .ok (.iload 4, 2) := by decide +kernel
theorem dL_law_863 : decode cL_law 863 = .ok (.iconst 2, 1) := by decide +kernel
theorem dL_law_864 : decode cL_law 864 = .ok (.iadd, 1) := by decide +kernel
theorem dL_law_865 : decode cL_law 865 = .ok (.iaload, 1) := by decide +kernel
theorem dL_law_866 : decode cL_law 866 = .ok (.aload_n 0, 1) := by decide +kernel
theorem dL_law_867 : decode cL_law 867 = .ok (.iload 4, 2) := by decide +kernel
theorem dL_law_869 : decode cL_law 869 = .ok (.iconst 3, 1) := by decide +kernel
theorem dL_law_870 : decode cL_law 870 = .ok (.iadd, 1) := by decide +kernel
theorem dL_law_871 : decode cL_law 871 = .ok (.iaload, 1) := by decide +kernel
theorem dL_law_872 : decode cL_law 872 = .ok (.aload_n 3, 1) := by decide +kernel
theorem dL_law_873 : decode cL_law 873 = .ok (.invokestatic 128, 3) := by decide +kernel
theorem dL_law_876 : decode cL_law 876 = .ok (.istore 5, 2) := by decide +kernel
theorem dL_law_878 : decode cL_law 878 = .ok (.aload_n 2, 1) := by decide +kernel
theorem dL_law_879 : decode cL_law 879 = .ok (.aload_n 0, 1) := by decide +kernel
theorem dL_law_880 : decode cL_law 880 = .ok (.iload 4, 2) := by decide +kernel
theorem dL_law_882 : decode cL_law 882 = .ok (.iconst 1, 1) := by decide +kernel
theorem dL_law_883 : decode cL_law 883 = .ok (.iadd, 1) := by decide +kernel
theorem dL_law_884 : decode cL_law 884 = .ok (.iaload, 1) := by decide +kernel
theorem dL_law_885 : decode cL_law 885 = .ok (.aload_n 0, 1) := by decide +kernel
theorem dL_law_886 : decode cL_law 886 = .ok (.iload 4, 2) := by decide +kernel
theorem dL_law_888 : decode cL_law 888 = .ok (.iconst 2, 1) := by decide +kernel
theorem dL_law_889 : decode cL_law 889 = .ok (.iadd, 1) := by decide +kernel
theorem dL_law_890 : decode cL_law 890 = .ok (.iaload, 1) := by decide +kernel
theorem dL_law_891 : decode cL_law 891 = .ok (.aload_n 0, 1) := by decide +kernel
theorem dL_law_892 : decode cL_law 892 = .ok (.iload 4, 2) := by decide +kernel
theorem dL_law_894 : decode cL_law 894 = .ok (.iconst 3, 1) := by decide +kernel
theorem dL_law_895 : decode cL_law 895 = .ok (.iadd, 1) := by decide +kernel
theorem dL_law_896 : decode cL_law 896 = .ok (.iaload, 1) := by decide +kernel
theorem dL_law_897 : decode cL_law 897 = .ok (.invokevirtual 130, 3) := by decide +kernel
theorem dL_law_900 : decode cL_law 900 = .ok (.istore 6, 2) := by decide +kernel
theorem dL_law_902 : decode cL_law 902 = .ok (.aload_n 2, 1) := by decide +kernel
theorem dL_law_903 : decode cL_law 903 = .ok (.invokevirtual 81, 3) := by decide +kernel
theorem dL_law_906 : decode cL_law 906 = .ok (.iload 5, 2) := by decide +kernel
theorem dL_law_908 : decode cL_law 908 = .ok (.if_icmp .eq 5, 3) := by decide +kernel
theorem dL_law_911 : decode cL_law 911 = .ok (.iconst 0, 1) := by decide +kernel
theorem dL_law_912 : decode cL_law 912 = .ok (.ireturn, 1) := by decide +kernel
theorem dL_law_913 : decode cL_law 913 = .ok (.iload 5, 2) := by decide +kernel
theorem dL_law_915 : decode cL_law 915 = .ok (.ifCond .ne 15, 3) := by decide +kernel
theorem dL_law_918 : decode cL_law 918 = .ok (.aload_n 3, 1) := by decide +kernel
theorem dL_law_919 : decode cL_law 919 = .ok (.iconst 0, 1) := by decide +kernel
theorem dL_law_920 : decode cL_law 920 = .ok (.laload, 1) := by decide +kernel
theorem dL_law_921 : decode cL_law 921 = .ok (.iload 6, 2) := by decide +kernel
theorem dL_law_923 : decode cL_law 923 = .ok (.i2l, 1) := by decide +kernel
theorem dL_law_924 : decode cL_law 924 = .ok (.lcmp, 1) := by decide +kernel
theorem dL_law_925 : decode cL_law 925 = .ok (.ifCond .eq 5, 3) := by decide +kernel
theorem dL_law_928 : decode cL_law 928 = .ok (.iconst 0, 1) := by decide +kernel
theorem dL_law_929 : decode cL_law 929 = .ok (.ireturn, 1) := by decide +kernel
theorem dL_law_930 : decode cL_law 930 = .ok (.goto 151, 3) := by decide +kernel
theorem dL_law_933 : decode cL_law 933 = .ok (.aload_n 1, 1) := by decide +kernel
theorem dL_law_934 : decode cL_law 934 = .ok (.aload_n 0, 1) := by decide +kernel
theorem dL_law_935 : decode cL_law 935 = .ok (.iload 4, 2) := by decide +kernel
theorem dL_law_937 : decode cL_law 937 = .ok (.iconst 1, 1) := by decide +kernel
theorem dL_law_938 : decode cL_law 938 = .ok (.iadd, 1) := by decide +kernel
theorem dL_law_939 : decode cL_law 939 = .ok (.iaload, 1) := by decide +kernel
theorem dL_law_940 : decode cL_law 940 = .ok (.aload_n 0, 1) := by decide +kernel
theorem dL_law_941 : decode cL_law 941 = .ok (.iload 4, 2) := by decide +kernel
theorem dL_law_943 : decode cL_law 943 = .ok (.iconst 2, 1) := by decide +kernel
theorem dL_law_944 : decode cL_law 944 = .ok (.iadd, 1) := by decide +kernel
theorem dL_law_945 : decode cL_law 945 = .ok (.iaload, 1) := by decide +kernel
theorem dL_law_946 : decode cL_law 946 = .ok (.aload_n 0, 1) := by decide +kernel
theorem dL_law_947 : decode cL_law 947 = .ok (.iload 4, 2) := by decide +kernel
theorem dL_law_949 : decode cL_law 949 = .ok (.iconst 3, 1) := by decide +kernel
theorem dL_law_950 : decode cL_law 950 = .ok (.iadd, 1) := by decide +kernel
theorem dL_law_951 : decode cL_law 951 = .ok (.iaload, 1) := by decide +kernel
theorem dL_law_952 : decode cL_law 952 = .ok (.aload_n 3, 1) := by decide +kernel
theorem dL_law_953 : decode cL_law 953 = .ok (.invokestatic 131, 3) := by decide +kernel
theorem dL_law_956 : decode cL_law 956 = .ok (.istore 5, 2) := by decide +kernel
theorem dL_law_958 : decode cL_law 958 = .ok (.aload_n 2, 1) := by decide +kernel
theorem dL_law_959 : decode cL_law 959 = .ok (.aload_n 0, 1) := by decide +kernel
theorem dL_law_960 : decode cL_law 960 = .ok (.iload 4, 2) := by decide +kernel
theorem dL_law_962 : decode cL_law 962 = .ok (.iconst 1, 1) := by decide +kernel
theorem dL_law_963 : decode cL_law 963 = .ok (.iadd, 1) := by decide +kernel
theorem dL_law_964 : decode cL_law 964 = .ok (.iaload, 1) := by decide +kernel
theorem dL_law_965 : decode cL_law 965 = .ok (.aload_n 0, 1) := by decide +kernel
theorem dL_law_966 : decode cL_law 966 = .ok (.iload 4, 2) := by decide +kernel
theorem dL_law_968 : decode cL_law 968 = .ok (.iconst 2, 1) := by decide +kernel
theorem dL_law_969 : decode cL_law 969 = .ok (.iadd, 1) := by decide +kernel
theorem dL_law_970 : decode cL_law 970 = .ok (.iaload, 1) := by decide +kernel
theorem dL_law_971 : decode cL_law 971 = .ok (.aload_n 0, 1) := by decide +kernel
theorem dL_law_972 : decode cL_law 972 = .ok (.iload 4, 2) := by decide +kernel
theorem dL_law_974 : decode cL_law 974 = .ok (.iconst 3, 1) := by decide +kernel
theorem dL_law_975 : decode cL_law 975 = .ok (.iadd, 1) := by decide +kernel
theorem dL_law_976 : decode cL_law 976 = .ok (.iaload, 1) := by decide +kernel
theorem dL_law_977 : decode cL_law 977 = .ok (.invokevirtual 133, 3) := by decide +kernel
theorem dL_law_980 : decode cL_law 980 = .ok (.istore 6, 2) := by decide +kernel
theorem dL_law_982 : decode cL_law 982 = .ok (.aload_n 2, 1) := by decide +kernel
theorem dL_law_983 : decode cL_law 983 = .ok (.invokevirtual 81, 3) := by decide +kernel
theorem dL_law_986 : decode cL_law 986 = .ok (.iload 5, 2) := by decide +kernel
theorem dL_law_988 : decode cL_law 988 = .ok (.if_icmp .eq 5, 3) := by decide +kernel
theorem dL_law_991 : decode cL_law 991 = .ok (.iconst 0, 1) := by decide +kernel
theorem dL_law_992 : decode cL_law 992 = .ok (.ireturn, 1) := by decide +kernel
theorem dL_law_993 : decode cL_law 993 = .ok (.iload 5, 2) := by decide +kernel
theorem dL_law_995 : decode cL_law 995 = .ok (.ifCond .ne 15, 3) := by decide +kernel
theorem dL_law_998 : decode cL_law 998 = .ok (.aload_n 3, 1) := by decide +kernel
theorem dL_law_999 : decode cL_law 999 = .ok (.iconst 0, 1) := by decide +kernel
theorem dL_law_1000 : decode cL_law 1000 = .ok (.laload, 1) := by decide +kernel
theorem dL_law_1001 : decode cL_law 1001 = .ok (.iload 6, 2) := by decide +kernel
theorem dL_law_1003 : decode cL_law 1003 = .ok (.i2l, 1) := by decide +kernel
theorem dL_law_1004 : decode cL_law 1004 = .ok (.lcmp, 1) := by decide +kernel
theorem dL_law_1005 : decode cL_law 1005 = .ok (.ifCond .eq 5, 3) := by decide +kernel
theorem dL_law_1008 : decode cL_law 1008 = .ok (.iconst 0, 1) := by decide +kernel
theorem dL_law_1009 : decode cL_law 1009 = .ok (.ireturn, 1) := by decide +kernel
theorem dL_law_1010 : decode cL_law 1010 = .ok (.goto 71, 3) := by decide +kernel
theorem dL_law_1013 : decode cL_law 1013 = .ok (.aload_n 1, 1) := by decide +kernel
theorem dL_law_1014 : decode cL_law 1014 = .ok (.aload_n 0, 1) := by decide +kernel
theorem dL_law_1015 : decode cL_law 1015 = .ok (.iload 4, 2) := by decide +kernel
theorem dL_law_1017 : decode cL_law 1017 = .ok (.iconst 1, 1) := by decide +kernel
theorem dL_law_1018 : decode cL_law 1018 = .ok (.iadd, 1) := by decide +kernel
theorem dL_law_1019 : decode cL_law 1019 = .ok (.iaload, 1) := by decide +kernel
theorem dL_law_1020 : decode cL_law 1020 = .ok (.aload_n 0, 1) := by decide +kernel
theorem dL_law_1021 : decode cL_law 1021 = .ok (.iload 4, 2) := by decide +kernel
theorem dL_law_1023 : decode cL_law 1023 = .ok (.iconst 2, 1) := by decide +kernel
theorem dL_law_1024 : decode cL_law 1024 = .ok (.iadd, 1) := by decide +kernel
theorem dL_law_1025 : decode cL_law 1025 = .ok (.iaload, 1) := by decide +kernel
theorem dL_law_1026 : decode cL_law 1026 = .ok (.aload_n 3, 1) := by decide +kernel
theorem dL_law_1027 : decode cL_law 1027 = .ok (.invokestatic 134, 3) := by decide +kernel
theorem dL_law_1030 : decode cL_law 1030 = .ok (.istore 5, 2) := by decide +kernel
theorem dL_law_1032 : decode cL_law 1032 = .ok (.aload_n 2, 1) := by decide +kernel
theorem dL_law_1033 : decode cL_law 1033 = .ok (.aload_n 0, 1) := by decide +kernel
theorem dL_law_1034 : decode cL_law 1034 = .ok (.iload 4, 2) := by decide +kernel
theorem dL_law_1036 : decode cL_law 1036 = .ok (.iconst 1, 1) := by decide +kernel
theorem dL_law_1037 : decode cL_law 1037 = .ok (.iadd, 1) := by decide +kernel
theorem dL_law_1038 : decode cL_law 1038 = .ok (.iaload, 1) := by decide +kernel
theorem dL_law_1039 : decode cL_law 1039 = .ok (.aload_n 0, 1) := by decide +kernel
theorem dL_law_1040 : decode cL_law 1040 = .ok (.iload 4, 2) := by decide +kernel
theorem dL_law_1042 : decode cL_law 1042 = .ok (.iconst 2, 1) := by decide +kernel
theorem dL_law_1043 : decode cL_law 1043 = .ok (.iadd, 1) := by decide +kernel
theorem dL_law_1044 : decode cL_law 1044 = .ok (.iaload, 1) := by decide +kernel
theorem dL_law_1045 : decode cL_law 1045 = .ok (.invokevirtual 136, 3) := by decide +kernel
theorem dL_law_1048 : decode cL_law 1048 = .ok (.istore 6, 2) := by decide +kernel
theorem dL_law_1050 : decode cL_law 1050 = .ok (.aload_n 2, 1) := by decide +kernel
theorem dL_law_1051 : decode cL_law 1051 = .ok (.invokevirtual 81, 3) := by decide +kernel
theorem dL_law_1054 : decode cL_law 1054 = .ok (.iload 5, 2) := by decide +kernel
theorem dL_law_1056 : decode cL_law 1056 = .ok (.if_icmp .eq 5, 3) := by decide +kernel
theorem dL_law_1059 : decode cL_law 1059 = .ok (.iconst 0, 1) := by decide +kernel
theorem dL_law_1060 : decode cL_law 1060 = .ok (.ireturn, 1) := by decide +kernel
theorem dL_law_1061 : decode cL_law 1061 = .ok (.iload 5, 2) := by decide +kernel
theorem dL_law_1063 : decode cL_law 1063 = .ok (.ifCond .ne 15, 3) := by decide +kernel
theorem dL_law_1066 : decode cL_law 1066 = .ok (.aload_n 3, 1) := by decide +kernel
theorem dL_law_1067 : decode cL_law 1067 = .ok (.iconst 0, 1) := by decide +kernel
theorem dL_law_1068 : decode cL_law 1068 = .ok (.laload, 1) := by decide +kernel
theorem dL_law_1069 : decode cL_law 1069 = .ok (.iload 6, 2) := by decide +kernel
theorem dL_law_1071 : decode cL_law 1071 = .ok (.i2l, 1) := by decide +kernel
theorem dL_law_1072 : decode cL_law 1072 = .ok (.lcmp, 1) := by decide +kernel
theorem dL_law_1073 : decode cL_law 1073 = .ok (.ifCond .eq 5, 3) := by decide +kernel
theorem dL_law_1076 : decode cL_law 1076 = .ok (.iconst 0, 1) := by decide +kernel
theorem dL_law_1077 : decode cL_law 1077 = .ok (.ireturn, 1) := by decide +kernel
theorem dL_law_1078 : decode cL_law 1078 = .ok (.goto 3, 3) := by decide +kernel
theorem dL_law_1081 : decode cL_law 1081 = .ok (.iinc 4 5, 3) := by decide +kernel
theorem dL_law_1084 : decode cL_law 1084 = .ok (.goto (-1061), 3) := by decide +kernel
theorem dL_law_1087 : decode cL_law 1087 = .ok (.iconst 1, 1) := by decide +kernel
theorem dL_law_1088 : decode cL_law 1088 = .ok (.ireturn, 1) := by decide +kernel
def gS (Γ : GX) : State := Γ.2.2.2.2.1
/-- the law's state: out, the class, the model -/
def SL (h : Int64) (s : CS) (v : Nat → Int32) (m : Nat → Nat → Int32) : CS := qC (sH (qM σ0 v m) 20 0 h) s
theorem SL_M {h : Int64} {s : CS} {v v' : Nat → Int32} {m m' : Nat → Nat → Int32} : qM (SL h s v m) v' m' = SL h s v' m' := by
  refine Prod.ext ?_ rfl
  funext t i
  show (if t = 18 ∧ i = 0 then v' else if t = 19 then m' i else (if t < 18 then s.1 t i else (if t = 18 ∧ i = 0 then v else if t = 19 then m i else σ0.1 t i))) = (if t < 18 then s.1 t i else (if t = 18 ∧ i = 0 then v' else if t = 19 then m' i else σ0.1 t i))
  by_cases h1 : t < 18
  · rw [if_neg (by omega), if_neg (by omega), if_pos h1, if_pos h1]
  · by_cases h2 : t = 18 ∧ i = 0
    · simp only [if_neg h1, if_pos h2]
    · by_cases h3 : t = 19
      · simp only [if_neg h1, if_neg h2, if_pos h3]
      · simp only [if_neg h1, if_neg h2, if_neg h3]
/-- what holds all through the law's loop -/
def LW (Γ : GX) (b N : Nat) (xs : Nat → Int32) (w0 : Cond) : Prop := GO Γ cL_law 7 RL (w0 :: TT) 19 10806 ∧ (gL Γ).stackTraces = false ∧ FL (gl Γ) ∧ FM (gl Γ) ∧ 0 < yn (gl Γ) 20 ∧ EX (gl Γ) (gS Γ) ∧ va_X b N xs (gS Γ) (gS Γ).heap ∧ b < (gS Γ).heap.size ∧ ¬ yA (gl Γ) b ∧ N ≤ 2560
section LWs
variable {Γ : GX} {κ : Nat × Nat} {σ : CS} {pc b N : Nat} {L : List (Nat × Value)} {st : List Value} {xs : Nat → Int32} {w0 : Cond}
theorem S_ld (hL : LW Γ b N xs w0) {j k : Nat} {c : Int32} (hc : c = nI k) (hk : 5 * j + k < N) (hd : decode cL_law pc = .ok (.iaload, 1)) (kk : GG Γ κ σ (pc + 1) L (.int (xs (5 * j + k)) :: st)) : GG Γ κ σ pc L (.int (nI (5 * j) + c) :: .ref b :: st) := by
  obtain ⟨p, l, e, R, s, m, args, below, meth, c', Q, Λ, n⟩ := Γ
  obtain ⟨hΓ, -, -, -, -, -, hX, hb, hA, hN⟩ := hL
  intro H locs ls hW hS hl
  rw [hc, nI_add]
  refine va_sld hΓ.1 hΓ.2.1 hX hb hA hS (vp_in_nI hk (by omega)) hd ?_
  rw [nI_clamp (by omega)]
  exact kk H locs ls hW hS hl
theorem S_ld0 (hL : LW Γ b N xs w0) {j : Nat} (hk : 5 * j < N) (hd : decode cL_law pc = .ok (.iaload, 1)) (kk : GG Γ κ σ (pc + 1) L (.int (xs (5 * j)) :: st)) : GG Γ κ σ pc L (.int (nI (5 * j)) :: .ref b :: st) := by
  obtain ⟨p, l, e, R, s, m, args, below, meth, c', Q, Λ, n⟩ := Γ
  obtain ⟨hΓ, -, -, -, -, -, hX, hb, hA, hN⟩ := hL
  intro H locs ls hW hS hl
  refine va_sld hΓ.1 hΓ.2.1 hX hb hA hS (vp_in_nI hk (by omega)) hd ?_
  rw [nI_clamp (by omega)]
  exact kk H locs ls hW hS hl
theorem S_len (hL : LW Γ b N xs w0) (hd : decode cL_law pc = .ok (.arraylength, 1)) (kk : GG Γ κ σ (pc + 1) L (.int (nI N) :: st)) : GG Γ κ σ pc L (.ref b :: st) := by
  obtain ⟨p, l, e, R, s, m, args, below, meth, c', Q, Λ, n⟩ := Γ
  obtain ⟨hΓ, -, -, -, -, -, hX, hb, hA, hN⟩ := hL
  intro H locs ls hW hS hl
  exact va_slen hΓ.1 hΓ.2.1 hX hb hA hS hd (kk H locs ls hW hS hl)
theorem F_outr (hL : LW Γ b N xs w0) {h : Int64} (hf : σ.2.1 20 0 = h) (hd : decode cL_law pc = .ok (.laload, 1)) (k : GG Γ κ σ (pc + 1) L (.long h :: st)) : GG Γ κ σ pc L (.int 0 :: .ref (ya (gl Γ) 20 0) :: st) := by
  obtain ⟨p, l, e, R, s, m, args, below, meth, c, Q, Λ, n⟩ := Γ
  subst hf
  obtain ⟨hΓ, -, -, -, hi, -⟩ := hL
  intro H locs ls hW hS hl
  obtain ⟨hx, hb, hml, hnl, hown, hts, ⟨hK, hN, hZ⟩, hO, hB, hfr, hlo⟩ := hΓ
  obtain ⟨q0, hq⟩ := yW_get (σ := σ) hO hi
  refine va_lald (D := yD Λ) hx hb hK hW q0 3 (n := 1) (f := vp_updL (fun _ => 0) 0 (σ.2.1 20 0)) hq rfl (by intro h9; rcases h9 with h9 | h9; exact absurd h9 (by decide); exact absurd h9 (by decide)) hd ?_
  exact k H locs ls hW hS hl
theorem G_wid {k n : Nat} (h1 : κ.1 ≤ k) (h2 : κ.2 ≤ n) (kk : GG Γ (k, n) σ pc L st) : GG Γ κ σ pc L st := by
  obtain ⟨p, l, e, R, s, m, args, below, meth, c, Q, Λ, n⟩ := Γ
  intro H locs ls hW hS hl
  exact W.widen h1 h2 (kk H locs ls hW hS hl)
theorem G_backH {p : Program} {l : Launch} {e : Env} {R : Room} {s : State} {m : MethodId} {args : Array Value} {below : List Frame} {meth : Method} {c : Code} {Q : State → Prop} {Λ : LY} {n mc ms : Nat} {σ' : CS} {res : Option Value} {av : Array Value} {st0 : List Value} {H : Heap} {locs : List Loc} {ls : Array Slot}
    (hr : va_Run p l e R s m args below meth c H locs κ.1 κ.2 mc ms (F0 m pc ls st0) st (QR Λ σ' res (av : Array Value)) (yA Λ)) (hS : va_S (yA Λ) s.heap H locs) (hl : lv_has ls n L)
    (k : GG (p, l, e, R, s, m, args, below, meth, c, Q, Λ, n) (κ.1 + mc, κ.2 + ms) σ' (pc + 3) L (res.toList ++ st)) : W p l e R s m args below meth c H locs κ.1 κ.2 Q (F0 m pc ls st0) := by
  intro T hT X
  obtain ⟨v, st₀, t, T', Lc, h0, X', hL, e1, e2, ⟨hv, hw2, hz, hk⟩, stp⟩ := hr T hT X
  cases hv
  rw [h0] at hz hk
  have hS' : va_S (yA Λ) s.heap T'.heap (locs ++ Lc) := ⟨Nat.le_trans hS.1 (by rw [e1]; exact hz), fun q h1 h2 => by rw [e1, hk q (Nat.lt_of_lt_of_le h1 hS.1) h2]; exact hS.2.1 q h1 h2, fun q hq => (List.mem_append.mp hq).elim (hS.2.2 q) (hL q)⟩
  obtain ⟨t2, a1, b1⟩ := k T'.heap (locs ++ Lc) ls (by rw [e1]; exact hw2) hS' hl T' rfl X'
  exact ⟨t2, stp t2 a1, b1⟩
theorem G_callH (hL : LW Γ b N xs w0) {y : MethodName} {bytes : ByteArray} {maxL n index : Nat} {hh : List (Nat × Nat × Nat × Nat)} {rm : Room} {As : List Value} {σ1 : CS} {v : Value} (hM : CH (gL Γ) y (.codeWith y bytes maxL (some .int) hh :: TT) rm (gl Γ) As σ σ1 (some v)) (kl : Cond.methodLink RL index y ∈ TT) (ks : Cond.static y ∈ TT) (kn : Cond.initialized y.cls ∈ TT) (kc : Cond.codeWith y bytes maxL (some .int) hh ∈ TT) (hy : y.cls ≠ "java/lang/invoke/MethodHandle" ∧ y.cls ≠ "java/lang/invoke/VarHandle" ∧ (parseMethodDescriptor y.desc).map (fun d => d.parameters.length) = some n) (hrc : rm.cells = 1) (hrs : rm.slots = 6) (hR : rm.frames + 1 ≤ 19 ∧ 8 + (maxL + 11) + rm.locals ≤ 10806) (hn : As.length = n) (hcat : (st.map fun v => v.category).sum ≤ 8) (hd : decode cL_law pc = .ok (.invokestatic index, 3)) (hκ : κ.1 + 1 ≤ (gRm Γ).cells ∧ κ.2 + 6 ≤ (gRm Γ).slots) (k : GG Γ (κ.1 + 1, κ.2 + 6) σ1 (pc + 3) L (v :: st)) : GG Γ κ σ pc L (As.reverse ++ st) := by
  obtain ⟨p, l, e, R, s, m, args, below, meth, c, Q, Λ, nn⟩ := Γ
  obtain ⟨hΓ, -, -, -, -, hEX, -⟩ := hL
  intro H locs ls hW hS hl
  obtain ⟨hx, hb, hml, hnl, hown, hts, hKK, hO, hB, hfr, hlo⟩ := hΓ
  have hT : GoodIn (w0 :: TT) (.codeWith y bytes maxL (some .int) hh :: TT) := TT_in kc
  have hts' : ∀ w ∈ TT, w.before args s = true := fun w hw => hts w (List.mem_cons_of_mem _ hw)
  have hR' : rm.frames + 1 ≤ R.frames ∧ 8 + (maxL + 11) + rm.locals ≤ R.locals := by rw [hfr, hlo]; exact hR
  exact G_backH (vx_runSW (As := As) (rest := st) ⟨hx, hb, hml, hown, hts⟩ hM ⟨⟨hrc, hrs, hR'.1, hR'.2, pay_in hts hT, List.mem_cons_self⟩, hts' _ kc, hts' _ kn, ⟨hy.1, hy.2.1⟩, fun sig h => by have h2 := hy.2.2; rw [h] at h2; exact (Option.some.inj h2).symm, hts' _ kl, hts' _ ks⟩ ⟨PX_blind, fun U hU hWm => ⟨rfl, PR_at hB hW hKK hO hS hU hWm, hEX.at hWm (fun a h1 h2 => by rw [hU]; exact hS.2.1 a h1 h2)⟩⟩ rfl hn (hl.1.trans hnl) rfl (lv_room hcat) hd hκ) hS hl k
end LWs
/-- the call 'nodes' on both sides -/
def Step_nodes (p1 : Int32) (s : CS) (v : Nat → Int32) (m : Nat → Nat → Int32) (s' : CS) (v' : Nat → Int32) (m' : Nat → Nat → Int32) : Prop := f_X8_nodes v m p1 = some (v', m') ∧ ((f_X7_nodes s p1 = some (.inr s') ∧ v' 0 = 0) ∨ s' = s ∧ (f_X7_nodes s p1 = some (.inl 2) ∧ v' 0 = 1 ∨ f_X7_nodes s p1 = some (.inl 4) ∧ v' 0 = 2))
set_option maxHeartbeats 4000000 in
set_option maxRecDepth 100000 in
theorem law_nodes_pre {Γ : GX} {κ : Nat × Nat} {b N j : Nat} {xs : Nat → Int32} {w0 : Cond} {h h' : Int64} {s s' : CS} {v : Nat → Int32} {m : Nat → Nat → Int32} {c : Int32} (hL : LW Γ b N xs w0) (hκ : κ.1 + 1 ≤ (gRm Γ).cells ∧ κ.2 + 6 ≤ (gRm Γ).slots) (hj : 5 * j + 5 ≤ N) (hM : CH (gL Γ) yL_nodes (.codeWith yL_nodes cL_nodes 3 (some .int) [(0, 5, 8, 13), (0, 5, 11, 15)] :: TT) ({ frames := 8, cells := 1, slots := 6, locals := 141 }) (gl Γ) [.ref (ya (gl Γ) 0 0), .int (xs (5 * j + 1))] (SL h s v m) (SL h' s' v m) (some (.int c))) (kk : GG Γ (κ.1 + 1, κ.2 + 6) (SL h' s' v m) 128 [(5, .int c), (4, .int (nI (5 * j))), (3, .ref (ya (gl Γ) 20 0)), (2, .ref (ya (gl Γ) 18 0)), (1, .ref (ya (gl Γ) 0 0)), (0, .ref b)] []) : GG Γ κ (SL h s v m) 116 [(4, .int (nI (5 * j))), (3, .ref (ya (gl Γ) 20 0)), (2, .ref (ya (gl Γ) 18 0)), (1, .ref (ya (gl Γ) 0 0)), (0, .ref b)] [] := by
  have hΓ := hL.1
  refine G_aload_n hΓ 3 dL_law_116 rfl ?_
  refine G_aload_n hΓ 4 dL_law_117 rfl ?_
  refine G_iload hΓ 0 dL_law_118 rfl ?_
  refine G_iconst (v := 1) hΓ dL_law_120 (by decide) ?_
  refine G_iadd hΓ dL_law_121 ?_
  refine S_ld hL (k := 1) (by decide) (by omega) dL_law_122 ?_
  refine G_callH hL (n := 2) (As := [.ref (ya (gl Γ) 0 0), .int (xs (5 * j + 1))]) hM kw_338 kw_339 kw_0 kw_340 ⟨by decide, by decide, by decide +kernel⟩ rfl rfl ⟨Nat.le_of_ble_eq_true rfl, Nat.le_of_ble_eq_true rfl⟩ rfl (Nat.le_of_ble_eq_true rfl) dL_law_123 hκ ?_
  exact G_istore hΓ [(5, .int c), (4, .int (nI (5 * j))), (3, .ref (ya (gl Γ) 20 0)), (2, .ref (ya (gl Γ) 18 0)), (1, .ref (ya (gl Γ) 0 0)), (0, .ref b)] dL_law_126 (by decide) rfl kk
set_option maxHeartbeats 4000000 in
set_option maxRecDepth 100000 in
theorem law_nodes_post {Γ : GX} {κ : Nat × Nat} {b N j : Nat} {xs : Nat → Int32} {w0 : Cond} {h' : Int64} {s' : CS} {v v' : Nat → Int32} {m m' : Nat → Nat → Int32} {c : Int32} (hL : LW Γ b N xs w0) (hκ : κ.1 ≤ (gRm Γ).cells ∧ κ.2 ≤ (gRm Γ).slots) (hj : 5 * j + 5 ≤ N) (hm : f_X8_nodes v m (xs (5 * j + 1)) = some (v', m')) (h0 : v' 0 = c) (kk : GG Γ κ (SL h' s' v' m') 1081 [(4, .int (nI (5 * j))), (3, .ref (ya (gl Γ) 20 0)), (2, .ref (ya (gl Γ) 18 0)), (1, .ref (ya (gl Γ) 0 0)), (0, .ref b)] []) : GG Γ κ (SL h' s' v m) 128 [(5, .int c), (4, .int (nI (5 * j))), (3, .ref (ya (gl Γ) 20 0)), (2, .ref (ya (gl Γ) 18 0)), (1, .ref (ya (gl Γ) 0 0)), (0, .ref b)] [] := by
  have hΓ := hL.1
  have hFM := hL.2.2.2.1
  have hκ1 := hκ.1
  have hκ2 := hκ.2
  refine G_aload_n hΓ 3 dL_law_128 rfl ?_
  refine G_aload_n hΓ 5 dL_law_129 rfl ?_
  refine G_iload hΓ 1 dL_law_130 rfl ?_
  refine G_iconst (v := 1) hΓ dL_law_132 (by decide) ?_
  refine G_iadd hΓ dL_law_133 ?_
  refine S_ld hL (k := 1) (by decide) (by omega) dL_law_134 ?_
  refine G_callVk hΓ (n := 1) (As := [.int (xs (5 * j + 1))]) (t := 18) (i := 0) (ci := 11) (T := TX8) (N := 47) (FS := fs8 (gl Γ) 0) (σ' := SL h' s' v' m') (c_X8_nodes (gL Γ) (gl Γ) hFM (SL h' s' v m) v m (xs (5 * j + 1)) hm) SL_M SL_M kw_1027 kw_1028 kw_1029 kw_9 kw_1030 ⟨rfl, by decide, by decide, by decide +kernel⟩ (by rw [hFM 18 (Or.inl rfl)]; decide) (fun _ _ _ => rfl) rfl rfl rfl ⟨Nat.le_of_ble_eq_true rfl, Nat.le_of_ble_eq_true rfl⟩ rfl (Nat.le_of_ble_eq_true rfl) dL_law_135 ⟨_, rfl⟩ ⟨by show _ ≤ _; omega, by show _ ≤ _; omega⟩ ?_
  refine G_aload_n hΓ 3 dL_law_138 rfl ?_
  refine G_callVk hΓ (n := 0) (As := []) (t := 18) (i := 0) (ci := 11) (T := TX8) (N := 47) (FS := fs8 (gl Γ) 0) (σ' := SL h' s' v' m') (c_X8_thrown (gL Γ) (gl Γ) hFM (SL h' s' v' m') v' m'  rfl) SL_M SL_M kw_1023 kw_1024 kw_1025 kw_9 kw_1026 ⟨rfl, by decide, by decide, by decide +kernel⟩ (by rw [hFM 18 (Or.inl rfl)]; decide) (fun _ _ _ => rfl) rfl rfl rfl ⟨Nat.le_of_ble_eq_true rfl, Nat.le_of_ble_eq_true rfl⟩ rfl (Nat.le_of_ble_eq_true rfl) dL_law_139 ⟨_, rfl⟩ ⟨by show _ ≤ _; omega, by show _ ≤ _; omega⟩ ?_
  refine G_iload hΓ 0 dL_law_142 rfl ?_
  refine G_icmp_eq hΓ (tgt := 149) dL_law_144 (by decide) (fun _ => ?_) (fun hc => absurd h0 hc)
  refine G_goto hΓ (tgt := 1081) dL_law_149 (by decide) ?_
  refine G_loc [1, 2, 3, 4, 5] rfl ?_
  exact kk
theorem law_nodes {Γ : GX} {κ : Nat × Nat} {b N j : Nat} {xs : Nat → Int32} {w0 : Cond} {h : Int64} {s s' : CS} {v v' : Nat → Int32} {m m' : Nat → Nat → Int32} (hL : LW Γ b N xs w0) (hκ : κ.1 + 1 ≤ (gRm Γ).cells ∧ κ.2 + 6 ≤ (gRm Γ).slots) (hj : 5 * j + 5 ≤ N) (hs : Step_nodes (xs (5 * j + 1)) s v m s' v' m') (kk : ∀ h', GG Γ (κ.1 + 1, κ.2 + 6) (SL h' s' v' m') 1081 [(4, .int (nI (5 * j))), (3, .ref (ya (gl Γ) 20 0)), (2, .ref (ya (gl Γ) 18 0)), (1, .ref (ya (gl Γ) 0 0)), (0, .ref b)] []) : GG Γ κ (SL h s v m) 116 [(4, .int (nI (5 * j))), (3, .ref (ya (gl Γ) 20 0)), (2, .ref (ya (gl Γ) 18 0)), (1, .ref (ya (gl Γ) 0 0)), (0, .ref b)] [] := by
  obtain ⟨hm, hx⟩ := hs
  rcases hx with ⟨hx, h0⟩ | ⟨rfl, (⟨hx, h0⟩ | ⟨hx, h0⟩)⟩
  · exact law_nodes_pre hL hκ hj (h_L_nodes (gL Γ) hL.2.1 (gl Γ) hL.2.2.1 hL.2.2.2.2.1 (qM σ0 v m) s h (xs (5 * j + 1)) hx) (law_nodes_post (κ := (κ.1 + 1, κ.2 + 6)) hL hκ hj hm h0 (kk _))
  · exact law_nodes_pre hL hκ hj (x_L_nodes_2 (gL Γ) hL.2.1 (gl Γ) hL.2.2.1 hL.2.2.2.2.1 (qM σ0 v m) s' h (xs (5 * j + 1)) hx) (law_nodes_post (κ := (κ.1 + 1, κ.2 + 6)) hL hκ hj hm h0 (kk _))
  · exact law_nodes_pre hL hκ hj (x_L_nodes_4 (gL Γ) hL.2.1 (gl Γ) hL.2.2.1 hL.2.2.2.2.1 (qM σ0 v m) s' h (xs (5 * j + 1)) hx) (law_nodes_post (κ := (κ.1 + 1, κ.2 + 6)) hL hκ hj hm h0 (kk _))
/-- the call 'send' on both sides -/
def Step_send (p1 p2 p3 p4 : Int32) (s : CS) (v : Nat → Int32) (m : Nat → Nat → Int32) (s' : CS) (v' : Nat → Int32) (m' : Nat → Nat → Int32) : Prop := ∃ r : Int32, f_X8_send v m p1 p2 p3 p4 = some (v', m', r) ∧ ((f_X7_send s p1 p2 p3 p4 = some (.inr (s', r)) ∧ v' 0 = 0) ∨ s' = s ∧ (f_X7_send s p1 p2 p3 p4 = some (.inl 1) ∧ v' 0 = 1 ∨ f_X7_send s p1 p2 p3 p4 = some (.inl 2) ∧ v' 0 = 2 ∨ f_X7_send s p1 p2 p3 p4 = some (.inl 3) ∧ v' 0 = 3))
set_option maxHeartbeats 4000000 in
set_option maxRecDepth 100000 in
theorem law_send_pre {Γ : GX} {κ : Nat × Nat} {b N j : Nat} {xs : Nat → Int32} {w0 : Cond} {h h' : Int64} {s s' : CS} {v : Nat → Int32} {m : Nat → Nat → Int32} {c : Int32} (hL : LW Γ b N xs w0) (hκ : κ.1 + 1 ≤ (gRm Γ).cells ∧ κ.2 + 6 ≤ (gRm Γ).slots) (hj : 5 * j + 5 ≤ N) (hM : CH (gL Γ) yL_send (.codeWith yL_send cL_send 7 (some .int) [(0, 14, 17, 21), (0, 14, 21, 13), (0, 14, 25, 23)] :: TT) ({ frames := 9, cells := 1, slots := 6, locals := 167 }) (gl Γ) [.ref (ya (gl Γ) 0 0), .int (xs (5 * j + 1)), .int (xs (5 * j + 2)), .int (xs (5 * j + 3)), .int (xs (5 * j + 4)), .ref (ya (gl Γ) 20 0)] (SL h s v m) (SL h' s' v m) (some (.int c))) (kk : GG Γ (κ.1 + 1, κ.2 + 6) (SL h' s' v m) 183 [(5, .int c), (4, .int (nI (5 * j))), (3, .ref (ya (gl Γ) 20 0)), (2, .ref (ya (gl Γ) 18 0)), (1, .ref (ya (gl Γ) 0 0)), (0, .ref b)] []) : GG Γ κ (SL h s v m) 152 [(4, .int (nI (5 * j))), (3, .ref (ya (gl Γ) 20 0)), (2, .ref (ya (gl Γ) 18 0)), (1, .ref (ya (gl Γ) 0 0)), (0, .ref b)] [] := by
  have hΓ := hL.1
  refine G_aload_n hΓ 3 dL_law_152 rfl ?_
  refine G_aload_n hΓ 4 dL_law_153 rfl ?_
  refine G_iload hΓ 0 dL_law_154 rfl ?_
  refine G_iconst (v := 1) hΓ dL_law_156 (by decide) ?_
  refine G_iadd hΓ dL_law_157 ?_
  refine S_ld hL (k := 1) (by decide) (by omega) dL_law_158 ?_
  refine G_aload_n hΓ 4 dL_law_159 rfl ?_
  refine G_iload hΓ 0 dL_law_160 rfl ?_
  refine G_iconst (v := 2) hΓ dL_law_162 (by decide) ?_
  refine G_iadd hΓ dL_law_163 ?_
  refine S_ld hL (k := 2) (by decide) (by omega) dL_law_164 ?_
  refine G_aload_n hΓ 4 dL_law_165 rfl ?_
  refine G_iload hΓ 0 dL_law_166 rfl ?_
  refine G_iconst (v := 3) hΓ dL_law_168 (by decide) ?_
  refine G_iadd hΓ dL_law_169 ?_
  refine S_ld hL (k := 3) (by decide) (by omega) dL_law_170 ?_
  refine G_aload_n hΓ 4 dL_law_171 rfl ?_
  refine G_iload hΓ 0 dL_law_172 rfl ?_
  refine G_iconst (v := 4) hΓ dL_law_174 (by decide) ?_
  refine G_iadd hΓ dL_law_175 ?_
  refine S_ld hL (k := 4) (by decide) (by omega) dL_law_176 ?_
  refine G_aload_n hΓ 1 dL_law_177 rfl ?_
  refine G_callH hL (n := 6) (As := [.ref (ya (gl Γ) 0 0), .int (xs (5 * j + 1)), .int (xs (5 * j + 2)), .int (xs (5 * j + 3)), .int (xs (5 * j + 4)), .ref (ya (gl Γ) 20 0)]) hM kw_437 kw_438 kw_0 kw_439 ⟨by decide, by decide, by decide +kernel⟩ rfl rfl ⟨Nat.le_of_ble_eq_true rfl, Nat.le_of_ble_eq_true rfl⟩ rfl (Nat.le_of_ble_eq_true rfl) dL_law_178 hκ ?_
  exact G_istore hΓ [(5, .int c), (4, .int (nI (5 * j))), (3, .ref (ya (gl Γ) 20 0)), (2, .ref (ya (gl Γ) 18 0)), (1, .ref (ya (gl Γ) 0 0)), (0, .ref b)] dL_law_181 (by decide) rfl kk
set_option maxHeartbeats 4000000 in
set_option maxRecDepth 100000 in
theorem law_send_post {Γ : GX} {κ : Nat × Nat} {b N j : Nat} {xs : Nat → Int32} {w0 : Cond} {h' : Int64} {s' : CS} {v v' : Nat → Int32} {m m' : Nat → Nat → Int32} {c r : Int32} (hL : LW Γ b N xs w0) (hκ : κ.1 ≤ (gRm Γ).cells ∧ κ.2 ≤ (gRm Γ).slots) (hj : 5 * j + 5 ≤ N) (hm : f_X8_send v m (xs (5 * j + 1)) (xs (5 * j + 2)) (xs (5 * j + 3)) (xs (5 * j + 4)) = some (v', m', r)) (h0 : v' 0 = c) (hr : c = 0 → h' = r.toInt64) (kk : GG Γ κ (SL h' s' v' m') 1081 [(4, .int (nI (5 * j))), (3, .ref (ya (gl Γ) 20 0)), (2, .ref (ya (gl Γ) 18 0)), (1, .ref (ya (gl Γ) 0 0)), (0, .ref b)] []) : GG Γ κ (SL h' s' v m) 183 [(5, .int c), (4, .int (nI (5 * j))), (3, .ref (ya (gl Γ) 20 0)), (2, .ref (ya (gl Γ) 18 0)), (1, .ref (ya (gl Γ) 0 0)), (0, .ref b)] [] := by
  have hΓ := hL.1
  have hFM := hL.2.2.2.1
  have hκ1 := hκ.1
  have hκ2 := hκ.2
  refine G_aload_n hΓ 3 dL_law_183 rfl ?_
  refine G_aload_n hΓ 5 dL_law_184 rfl ?_
  refine G_iload hΓ 1 dL_law_185 rfl ?_
  refine G_iconst (v := 1) hΓ dL_law_187 (by decide) ?_
  refine G_iadd hΓ dL_law_188 ?_
  refine S_ld hL (k := 1) (by decide) (by omega) dL_law_189 ?_
  refine G_aload_n hΓ 5 dL_law_190 rfl ?_
  refine G_iload hΓ 1 dL_law_191 rfl ?_
  refine G_iconst (v := 2) hΓ dL_law_193 (by decide) ?_
  refine G_iadd hΓ dL_law_194 ?_
  refine S_ld hL (k := 2) (by decide) (by omega) dL_law_195 ?_
  refine G_aload_n hΓ 5 dL_law_196 rfl ?_
  refine G_iload hΓ 1 dL_law_197 rfl ?_
  refine G_iconst (v := 3) hΓ dL_law_199 (by decide) ?_
  refine G_iadd hΓ dL_law_200 ?_
  refine S_ld hL (k := 3) (by decide) (by omega) dL_law_201 ?_
  refine G_aload_n hΓ 5 dL_law_202 rfl ?_
  refine G_iload hΓ 1 dL_law_203 rfl ?_
  refine G_iconst (v := 4) hΓ dL_law_205 (by decide) ?_
  refine G_iadd hΓ dL_law_206 ?_
  refine S_ld hL (k := 4) (by decide) (by omega) dL_law_207 ?_
  refine G_callVk hΓ (n := 4) (As := [.int (xs (5 * j + 1)), .int (xs (5 * j + 2)), .int (xs (5 * j + 3)), .int (xs (5 * j + 4))]) (t := 18) (i := 0) (ci := 11) (T := TX8) (N := 47) (FS := fs8 (gl Γ) 0) (σ' := SL h' s' v' m') (c_X8_send (gL Γ) (gl Γ) hFM (SL h' s' v m) v m (xs (5 * j + 1)) (xs (5 * j + 2)) (xs (5 * j + 3)) (xs (5 * j + 4)) hm) SL_M SL_M kw_1031 kw_1032 kw_1033 kw_9 kw_1034 ⟨rfl, by decide, by decide, by decide +kernel⟩ (by rw [hFM 18 (Or.inl rfl)]; decide) (fun _ _ _ => rfl) rfl rfl rfl ⟨Nat.le_of_ble_eq_true rfl, Nat.le_of_ble_eq_true rfl⟩ rfl (Nat.le_of_ble_eq_true rfl) dL_law_208 ⟨_, rfl⟩ ⟨by show _ ≤ _; omega, by show _ ≤ _; omega⟩ ?_
  refine G_istore hΓ [(6, .int r), (5, .int c), (4, .int (nI (5 * j))), (3, .ref (ya (gl Γ) 20 0)), (2, .ref (ya (gl Γ) 18 0)), (1, .ref (ya (gl Γ) 0 0)), (0, .ref b)] dL_law_211 (by decide) rfl ?_
  refine G_aload_n hΓ 4 dL_law_213 rfl ?_
  refine G_callVk hΓ (n := 0) (As := []) (t := 18) (i := 0) (ci := 11) (T := TX8) (N := 47) (FS := fs8 (gl Γ) 0) (σ' := SL h' s' v' m') (c_X8_thrown (gL Γ) (gl Γ) hFM (SL h' s' v' m') v' m'  rfl) SL_M SL_M kw_1023 kw_1024 kw_1025 kw_9 kw_1026 ⟨rfl, by decide, by decide, by decide +kernel⟩ (by rw [hFM 18 (Or.inl rfl)]; decide) (fun _ _ _ => rfl) rfl rfl rfl ⟨Nat.le_of_ble_eq_true rfl, Nat.le_of_ble_eq_true rfl⟩ rfl (Nat.le_of_ble_eq_true rfl) dL_law_214 ⟨_, rfl⟩ ⟨by show _ ≤ _; omega, by show _ ≤ _; omega⟩ ?_
  refine G_iload hΓ 1 dL_law_217 rfl ?_
  refine G_icmp_eq hΓ (tgt := 224) dL_law_219 (by decide) (fun _ => ?_) (fun hc => absurd h0 hc)
  refine G_iload hΓ 1 dL_law_224 rfl ?_
  refine G_if_ne hΓ (tgt := 241) dL_law_226 (by decide) (fun _ => ?_) (fun hc => ?_)
  · refine G_goto hΓ (tgt := 1081) dL_law_241 (by decide) ?_
    refine G_loc [2, 3, 4, 5, 6] rfl ?_
    exact kk
  · refine G_aload_n hΓ 3 dL_law_229 rfl ?_
    refine G_iconst (v := 0) hΓ dL_law_230 (by decide) ?_
    refine F_outr hL (h := h') rfl dL_law_231 ?_
    refine G_iload hΓ 0 dL_law_232 rfl ?_
    refine G_i2l hΓ dL_law_234 ?_
    refine G_lcmp hΓ dL_law_235 ?_
    refine G_if_eq hΓ (tgt := 241) dL_law_236 (by decide) (fun _ => ?_) (fun h9 => absurd ((lg_cmp_eq _ _).mpr (hr hc)) h9)
    refine G_goto hΓ (tgt := 1081) dL_law_241 (by decide) ?_
    refine G_loc [2, 3, 4, 5, 6] rfl ?_
    exact kk
theorem law_send {Γ : GX} {κ : Nat × Nat} {b N j : Nat} {xs : Nat → Int32} {w0 : Cond} {h : Int64} {s s' : CS} {v v' : Nat → Int32} {m m' : Nat → Nat → Int32} (hL : LW Γ b N xs w0) (hκ : κ.1 + 1 ≤ (gRm Γ).cells ∧ κ.2 + 6 ≤ (gRm Γ).slots) (hj : 5 * j + 5 ≤ N) (hs : Step_send (xs (5 * j + 1)) (xs (5 * j + 2)) (xs (5 * j + 3)) (xs (5 * j + 4)) s v m s' v' m') (kk : ∀ h', GG Γ (κ.1 + 1, κ.2 + 6) (SL h' s' v' m') 1081 [(4, .int (nI (5 * j))), (3, .ref (ya (gl Γ) 20 0)), (2, .ref (ya (gl Γ) 18 0)), (1, .ref (ya (gl Γ) 0 0)), (0, .ref b)] []) : GG Γ κ (SL h s v m) 152 [(4, .int (nI (5 * j))), (3, .ref (ya (gl Γ) 20 0)), (2, .ref (ya (gl Γ) 18 0)), (1, .ref (ya (gl Γ) 0 0)), (0, .ref b)] [] := by
  obtain ⟨r, hm, hx⟩ := hs
  rcases hx with ⟨hx, h0⟩ | ⟨rfl, (⟨hx, h0⟩ | ⟨hx, h0⟩ | ⟨hx, h0⟩)⟩
  · exact law_send_pre hL hκ hj (h_L_send (gL Γ) hL.2.1 (gl Γ) hL.2.2.1 hL.2.2.2.2.1 (qM σ0 v m) s h (xs (5 * j + 1)) (xs (5 * j + 2)) (xs (5 * j + 3)) (xs (5 * j + 4)) hx) (law_send_post (κ := (κ.1 + 1, κ.2 + 6)) hL hκ hj hm h0 (fun _ => rfl) (kk _))
  · exact law_send_pre hL hκ hj (x_L_send_1 (gL Γ) hL.2.1 (gl Γ) hL.2.2.1 hL.2.2.2.2.1 (qM σ0 v m) s' h (xs (5 * j + 1)) (xs (5 * j + 2)) (xs (5 * j + 3)) (xs (5 * j + 4)) hx) (law_send_post (κ := (κ.1 + 1, κ.2 + 6)) hL hκ hj hm h0 (fun h9 => absurd h9 (by decide)) (kk _))
  · exact law_send_pre hL hκ hj (x_L_send_2 (gL Γ) hL.2.1 (gl Γ) hL.2.2.1 hL.2.2.2.2.1 (qM σ0 v m) s' h (xs (5 * j + 1)) (xs (5 * j + 2)) (xs (5 * j + 3)) (xs (5 * j + 4)) hx) (law_send_post (κ := (κ.1 + 1, κ.2 + 6)) hL hκ hj hm h0 (fun h9 => absurd h9 (by decide)) (kk _))
  · exact law_send_pre hL hκ hj (x_L_send_3 (gL Γ) hL.2.1 (gl Γ) hL.2.2.1 hL.2.2.2.2.1 (qM σ0 v m) s' h (xs (5 * j + 1)) (xs (5 * j + 2)) (xs (5 * j + 3)) (xs (5 * j + 4)) hx) (law_send_post (κ := (κ.1 + 1, κ.2 + 6)) hL hκ hj hm h0 (fun h9 => absurd h9 (by decide)) (kk _))
/-- the call 'octet' on both sides -/
def Step_octet (p1 p2 p3 : Int32) (s : CS) (v : Nat → Int32) (m : Nat → Nat → Int32) (s' : CS) (v' : Nat → Int32) (m' : Nat → Nat → Int32) : Prop := f_X8_octet v m p1 p2 p3 = some (v', m') ∧ ((f_X7_octet s p1 p2 p3 = some (.inr s') ∧ v' 0 = 0) ∨ s' = s ∧ (f_X7_octet s p1 p2 p3 = some (.inl 1) ∧ v' 0 = 1 ∨ f_X7_octet s p1 p2 p3 = some (.inl 2) ∧ v' 0 = 2 ∨ f_X7_octet s p1 p2 p3 = some (.inl 3) ∧ v' 0 = 3))
set_option maxHeartbeats 4000000 in
set_option maxRecDepth 100000 in
theorem law_octet_pre {Γ : GX} {κ : Nat × Nat} {b N j : Nat} {xs : Nat → Int32} {w0 : Cond} {h h' : Int64} {s s' : CS} {v : Nat → Int32} {m : Nat → Nat → Int32} {c : Int32} (hL : LW Γ b N xs w0) (hκ : κ.1 + 1 ≤ (gRm Γ).cells ∧ κ.2 + 6 ≤ (gRm Γ).slots) (hj : 5 * j + 5 ≤ N) (hM : CH (gL Γ) yL_octet (.codeWith yL_octet cL_octet 5 (some .int) [(0, 7, 10, 21), (0, 7, 14, 13), (0, 7, 18, 23)] :: TT) ({ frames := 9, cells := 1, slots := 6, locals := 166 }) (gl Γ) [.ref (ya (gl Γ) 0 0), .int (xs (5 * j + 1)), .int (xs (5 * j + 2)), .int (xs (5 * j + 3))] (SL h s v m) (SL h' s' v m) (some (.int c))) (kk : GG Γ (κ.1 + 1, κ.2 + 6) (SL h' s' v m) 268 [(5, .int c), (4, .int (nI (5 * j))), (3, .ref (ya (gl Γ) 20 0)), (2, .ref (ya (gl Γ) 18 0)), (1, .ref (ya (gl Γ) 0 0)), (0, .ref b)] []) : GG Γ κ (SL h s v m) 244 [(4, .int (nI (5 * j))), (3, .ref (ya (gl Γ) 20 0)), (2, .ref (ya (gl Γ) 18 0)), (1, .ref (ya (gl Γ) 0 0)), (0, .ref b)] [] := by
  have hΓ := hL.1
  refine G_aload_n hΓ 3 dL_law_244 rfl ?_
  refine G_aload_n hΓ 4 dL_law_245 rfl ?_
  refine G_iload hΓ 0 dL_law_246 rfl ?_
  refine G_iconst (v := 1) hΓ dL_law_248 (by decide) ?_
  refine G_iadd hΓ dL_law_249 ?_
  refine S_ld hL (k := 1) (by decide) (by omega) dL_law_250 ?_
  refine G_aload_n hΓ 4 dL_law_251 rfl ?_
  refine G_iload hΓ 0 dL_law_252 rfl ?_
  refine G_iconst (v := 2) hΓ dL_law_254 (by decide) ?_
  refine G_iadd hΓ dL_law_255 ?_
  refine S_ld hL (k := 2) (by decide) (by omega) dL_law_256 ?_
  refine G_aload_n hΓ 4 dL_law_257 rfl ?_
  refine G_iload hΓ 0 dL_law_258 rfl ?_
  refine G_iconst (v := 3) hΓ dL_law_260 (by decide) ?_
  refine G_iadd hΓ dL_law_261 ?_
  refine S_ld hL (k := 3) (by decide) (by omega) dL_law_262 ?_
  refine G_callH hL (n := 4) (As := [.ref (ya (gl Γ) 0 0), .int (xs (5 * j + 1)), .int (xs (5 * j + 2)), .int (xs (5 * j + 3))]) hM kw_603 kw_604 kw_0 kw_605 ⟨by decide, by decide, by decide +kernel⟩ rfl rfl ⟨Nat.le_of_ble_eq_true rfl, Nat.le_of_ble_eq_true rfl⟩ rfl (Nat.le_of_ble_eq_true rfl) dL_law_263 hκ ?_
  exact G_istore hΓ [(5, .int c), (4, .int (nI (5 * j))), (3, .ref (ya (gl Γ) 20 0)), (2, .ref (ya (gl Γ) 18 0)), (1, .ref (ya (gl Γ) 0 0)), (0, .ref b)] dL_law_266 (by decide) rfl kk
set_option maxHeartbeats 4000000 in
set_option maxRecDepth 100000 in
theorem law_octet_post {Γ : GX} {κ : Nat × Nat} {b N j : Nat} {xs : Nat → Int32} {w0 : Cond} {h' : Int64} {s' : CS} {v v' : Nat → Int32} {m m' : Nat → Nat → Int32} {c : Int32} (hL : LW Γ b N xs w0) (hκ : κ.1 ≤ (gRm Γ).cells ∧ κ.2 ≤ (gRm Γ).slots) (hj : 5 * j + 5 ≤ N) (hm : f_X8_octet v m (xs (5 * j + 1)) (xs (5 * j + 2)) (xs (5 * j + 3)) = some (v', m')) (h0 : v' 0 = c) (kk : GG Γ κ (SL h' s' v' m') 1081 [(4, .int (nI (5 * j))), (3, .ref (ya (gl Γ) 20 0)), (2, .ref (ya (gl Γ) 18 0)), (1, .ref (ya (gl Γ) 0 0)), (0, .ref b)] []) : GG Γ κ (SL h' s' v m) 268 [(5, .int c), (4, .int (nI (5 * j))), (3, .ref (ya (gl Γ) 20 0)), (2, .ref (ya (gl Γ) 18 0)), (1, .ref (ya (gl Γ) 0 0)), (0, .ref b)] [] := by
  have hΓ := hL.1
  have hFM := hL.2.2.2.1
  have hκ1 := hκ.1
  have hκ2 := hκ.2
  refine G_aload_n hΓ 3 dL_law_268 rfl ?_
  refine G_aload_n hΓ 5 dL_law_269 rfl ?_
  refine G_iload hΓ 1 dL_law_270 rfl ?_
  refine G_iconst (v := 1) hΓ dL_law_272 (by decide) ?_
  refine G_iadd hΓ dL_law_273 ?_
  refine S_ld hL (k := 1) (by decide) (by omega) dL_law_274 ?_
  refine G_aload_n hΓ 5 dL_law_275 rfl ?_
  refine G_iload hΓ 1 dL_law_276 rfl ?_
  refine G_iconst (v := 2) hΓ dL_law_278 (by decide) ?_
  refine G_iadd hΓ dL_law_279 ?_
  refine S_ld hL (k := 2) (by decide) (by omega) dL_law_280 ?_
  refine G_aload_n hΓ 5 dL_law_281 rfl ?_
  refine G_iload hΓ 1 dL_law_282 rfl ?_
  refine G_iconst (v := 3) hΓ dL_law_284 (by decide) ?_
  refine G_iadd hΓ dL_law_285 ?_
  refine S_ld hL (k := 3) (by decide) (by omega) dL_law_286 ?_
  refine G_callVk hΓ (n := 3) (As := [.int (xs (5 * j + 1)), .int (xs (5 * j + 2)), .int (xs (5 * j + 3))]) (t := 18) (i := 0) (ci := 11) (T := TX8) (N := 47) (FS := fs8 (gl Γ) 0) (σ' := SL h' s' v' m') (c_X8_octet (gL Γ) (gl Γ) hFM (SL h' s' v m) v m (xs (5 * j + 1)) (xs (5 * j + 2)) (xs (5 * j + 3)) hm) SL_M SL_M kw_1040 kw_1041 kw_1042 kw_9 kw_1043 ⟨rfl, by decide, by decide, by decide +kernel⟩ (by rw [hFM 18 (Or.inl rfl)]; decide) (fun _ _ _ => rfl) rfl rfl rfl ⟨Nat.le_of_ble_eq_true rfl, Nat.le_of_ble_eq_true rfl⟩ rfl (Nat.le_of_ble_eq_true rfl) dL_law_287 ⟨_, rfl⟩ ⟨by show _ ≤ _; omega, by show _ ≤ _; omega⟩ ?_
  refine G_aload_n hΓ 3 dL_law_290 rfl ?_
  refine G_callVk hΓ (n := 0) (As := []) (t := 18) (i := 0) (ci := 11) (T := TX8) (N := 47) (FS := fs8 (gl Γ) 0) (σ' := SL h' s' v' m') (c_X8_thrown (gL Γ) (gl Γ) hFM (SL h' s' v' m') v' m'  rfl) SL_M SL_M kw_1023 kw_1024 kw_1025 kw_9 kw_1026 ⟨rfl, by decide, by decide, by decide +kernel⟩ (by rw [hFM 18 (Or.inl rfl)]; decide) (fun _ _ _ => rfl) rfl rfl rfl ⟨Nat.le_of_ble_eq_true rfl, Nat.le_of_ble_eq_true rfl⟩ rfl (Nat.le_of_ble_eq_true rfl) dL_law_291 ⟨_, rfl⟩ ⟨by show _ ≤ _; omega, by show _ ≤ _; omega⟩ ?_
  refine G_iload hΓ 0 dL_law_294 rfl ?_
  refine G_icmp_eq hΓ (tgt := 301) dL_law_296 (by decide) (fun _ => ?_) (fun hc => absurd h0 hc)
  refine G_goto hΓ (tgt := 1081) dL_law_301 (by decide) ?_
  refine G_loc [1, 2, 3, 4, 5] rfl ?_
  exact kk
theorem law_octet {Γ : GX} {κ : Nat × Nat} {b N j : Nat} {xs : Nat → Int32} {w0 : Cond} {h : Int64} {s s' : CS} {v v' : Nat → Int32} {m m' : Nat → Nat → Int32} (hL : LW Γ b N xs w0) (hκ : κ.1 + 1 ≤ (gRm Γ).cells ∧ κ.2 + 6 ≤ (gRm Γ).slots) (hj : 5 * j + 5 ≤ N) (hs : Step_octet (xs (5 * j + 1)) (xs (5 * j + 2)) (xs (5 * j + 3)) s v m s' v' m') (kk : ∀ h', GG Γ (κ.1 + 1, κ.2 + 6) (SL h' s' v' m') 1081 [(4, .int (nI (5 * j))), (3, .ref (ya (gl Γ) 20 0)), (2, .ref (ya (gl Γ) 18 0)), (1, .ref (ya (gl Γ) 0 0)), (0, .ref b)] []) : GG Γ κ (SL h s v m) 244 [(4, .int (nI (5 * j))), (3, .ref (ya (gl Γ) 20 0)), (2, .ref (ya (gl Γ) 18 0)), (1, .ref (ya (gl Γ) 0 0)), (0, .ref b)] [] := by
  obtain ⟨hm, hx⟩ := hs
  rcases hx with ⟨hx, h0⟩ | ⟨rfl, (⟨hx, h0⟩ | ⟨hx, h0⟩ | ⟨hx, h0⟩)⟩
  · exact law_octet_pre hL hκ hj (h_L_octet (gL Γ) hL.2.1 (gl Γ) hL.2.2.1 hL.2.2.2.2.1 (qM σ0 v m) s h (xs (5 * j + 1)) (xs (5 * j + 2)) (xs (5 * j + 3)) hx) (law_octet_post (κ := (κ.1 + 1, κ.2 + 6)) hL hκ hj hm h0 (kk _))
  · exact law_octet_pre hL hκ hj (x_L_octet_1 (gL Γ) hL.2.1 (gl Γ) hL.2.2.1 hL.2.2.2.2.1 (qM σ0 v m) s' h (xs (5 * j + 1)) (xs (5 * j + 2)) (xs (5 * j + 3)) hx) (law_octet_post (κ := (κ.1 + 1, κ.2 + 6)) hL hκ hj hm h0 (kk _))
  · exact law_octet_pre hL hκ hj (x_L_octet_2 (gL Γ) hL.2.1 (gl Γ) hL.2.2.1 hL.2.2.2.2.1 (qM σ0 v m) s' h (xs (5 * j + 1)) (xs (5 * j + 2)) (xs (5 * j + 3)) hx) (law_octet_post (κ := (κ.1 + 1, κ.2 + 6)) hL hκ hj hm h0 (kk _))
  · exact law_octet_pre hL hκ hj (x_L_octet_3 (gL Γ) hL.2.1 (gl Γ) hL.2.2.1 hL.2.2.2.2.1 (qM σ0 v m) s' h (xs (5 * j + 1)) (xs (5 * j + 2)) (xs (5 * j + 3)) hx) (law_octet_post (κ := (κ.1 + 1, κ.2 + 6)) hL hκ hj hm h0 (kk _))
/-- the call 'stuffed' on both sides -/
def Step_stuffed (p1 : Int32) (s : CS) (v : Nat → Int32) (m : Nat → Nat → Int32) (s' : CS) (v' : Nat → Int32) (m' : Nat → Nat → Int32) : Prop := ∃ r : Int32, f_X8_stuffed v m p1 = some (v', m', r) ∧ ((f_X7_stuffed s p1 = some (.inr r) ∧ v' 0 = 0 ∧ s' = s) ∨ s' = s ∧ (f_X7_stuffed s p1 = some (.inl 1) ∧ v' 0 = 1))
set_option maxHeartbeats 4000000 in
set_option maxRecDepth 100000 in
theorem law_stuffed_pre {Γ : GX} {κ : Nat × Nat} {b N j : Nat} {xs : Nat → Int32} {w0 : Cond} {h h' : Int64} {s s' : CS} {v : Nat → Int32} {m : Nat → Nat → Int32} {c : Int32} (hL : LW Γ b N xs w0) (hκ : κ.1 + 1 ≤ (gRm Γ).cells ∧ κ.2 + 6 ≤ (gRm Γ).slots) (hj : 5 * j + 5 ≤ N) (hM : CH (gL Γ) yL_stuffed (.codeWith yL_stuffed cL_stuffed 4 (some .int) [(0, 9, 12, 21)] :: TT) ({ frames := 9, cells := 1, slots := 6, locals := 162 }) (gl Γ) [.ref (ya (gl Γ) 0 0), .int (xs (5 * j + 1)), .ref (ya (gl Γ) 20 0)] (SL h s v m) (SL h' s' v m) (some (.int c))) (kk : GG Γ (κ.1 + 1, κ.2 + 6) (SL h' s' v m) 317 [(5, .int c), (4, .int (nI (5 * j))), (3, .ref (ya (gl Γ) 20 0)), (2, .ref (ya (gl Γ) 18 0)), (1, .ref (ya (gl Γ) 0 0)), (0, .ref b)] []) : GG Γ κ (SL h s v m) 304 [(4, .int (nI (5 * j))), (3, .ref (ya (gl Γ) 20 0)), (2, .ref (ya (gl Γ) 18 0)), (1, .ref (ya (gl Γ) 0 0)), (0, .ref b)] [] := by
  have hΓ := hL.1
  refine G_aload_n hΓ 3 dL_law_304 rfl ?_
  refine G_aload_n hΓ 4 dL_law_305 rfl ?_
  refine G_iload hΓ 0 dL_law_306 rfl ?_
  refine G_iconst (v := 1) hΓ dL_law_308 (by decide) ?_
  refine G_iadd hΓ dL_law_309 ?_
  refine S_ld hL (k := 1) (by decide) (by omega) dL_law_310 ?_
  refine G_aload_n hΓ 1 dL_law_311 rfl ?_
  refine G_callH hL (n := 3) (As := [.ref (ya (gl Γ) 0 0), .int (xs (5 * j + 1)), .ref (ya (gl Γ) 20 0)]) hM kw_622 kw_623 kw_0 kw_624 ⟨by decide, by decide, by decide +kernel⟩ rfl rfl ⟨Nat.le_of_ble_eq_true rfl, Nat.le_of_ble_eq_true rfl⟩ rfl (Nat.le_of_ble_eq_true rfl) dL_law_312 hκ ?_
  exact G_istore hΓ [(5, .int c), (4, .int (nI (5 * j))), (3, .ref (ya (gl Γ) 20 0)), (2, .ref (ya (gl Γ) 18 0)), (1, .ref (ya (gl Γ) 0 0)), (0, .ref b)] dL_law_315 (by decide) rfl kk
set_option maxHeartbeats 4000000 in
set_option maxRecDepth 100000 in
theorem law_stuffed_post {Γ : GX} {κ : Nat × Nat} {b N j : Nat} {xs : Nat → Int32} {w0 : Cond} {h' : Int64} {s' : CS} {v v' : Nat → Int32} {m m' : Nat → Nat → Int32} {c r : Int32} (hL : LW Γ b N xs w0) (hκ : κ.1 ≤ (gRm Γ).cells ∧ κ.2 ≤ (gRm Γ).slots) (hj : 5 * j + 5 ≤ N) (hm : f_X8_stuffed v m (xs (5 * j + 1)) = some (v', m', r)) (h0 : v' 0 = c) (hr : c = 0 → h' = r.toInt64) (kk : GG Γ κ (SL h' s' v' m') 1081 [(4, .int (nI (5 * j))), (3, .ref (ya (gl Γ) 20 0)), (2, .ref (ya (gl Γ) 18 0)), (1, .ref (ya (gl Γ) 0 0)), (0, .ref b)] []) : GG Γ κ (SL h' s' v m) 317 [(5, .int c), (4, .int (nI (5 * j))), (3, .ref (ya (gl Γ) 20 0)), (2, .ref (ya (gl Γ) 18 0)), (1, .ref (ya (gl Γ) 0 0)), (0, .ref b)] [] := by
  have hΓ := hL.1
  have hFM := hL.2.2.2.1
  have hκ1 := hκ.1
  have hκ2 := hκ.2
  refine G_aload_n hΓ 3 dL_law_317 rfl ?_
  refine G_aload_n hΓ 5 dL_law_318 rfl ?_
  refine G_iload hΓ 1 dL_law_319 rfl ?_
  refine G_iconst (v := 1) hΓ dL_law_321 (by decide) ?_
  refine G_iadd hΓ dL_law_322 ?_
  refine S_ld hL (k := 1) (by decide) (by omega) dL_law_323 ?_
  refine G_callVk hΓ (n := 1) (As := [.int (xs (5 * j + 1))]) (t := 18) (i := 0) (ci := 11) (T := TX8) (N := 47) (FS := fs8 (gl Γ) 0) (σ' := SL h' s' v' m') (c_X8_stuffed (gL Γ) (gl Γ) hFM (SL h' s' v m) v m (xs (5 * j + 1)) hm) SL_M SL_M kw_1051 kw_1052 kw_1053 kw_9 kw_1054 ⟨rfl, by decide, by decide, by decide +kernel⟩ (by rw [hFM 18 (Or.inl rfl)]; decide) (fun _ _ _ => rfl) rfl rfl rfl ⟨Nat.le_of_ble_eq_true rfl, Nat.le_of_ble_eq_true rfl⟩ rfl (Nat.le_of_ble_eq_true rfl) dL_law_324 ⟨_, rfl⟩ ⟨by show _ ≤ _; omega, by show _ ≤ _; omega⟩ ?_
  refine G_istore hΓ [(6, .int r), (5, .int c), (4, .int (nI (5 * j))), (3, .ref (ya (gl Γ) 20 0)), (2, .ref (ya (gl Γ) 18 0)), (1, .ref (ya (gl Γ) 0 0)), (0, .ref b)] dL_law_327 (by decide) rfl ?_
  refine G_aload_n hΓ 4 dL_law_329 rfl ?_
  refine G_callVk hΓ (n := 0) (As := []) (t := 18) (i := 0) (ci := 11) (T := TX8) (N := 47) (FS := fs8 (gl Γ) 0) (σ' := SL h' s' v' m') (c_X8_thrown (gL Γ) (gl Γ) hFM (SL h' s' v' m') v' m'  rfl) SL_M SL_M kw_1023 kw_1024 kw_1025 kw_9 kw_1026 ⟨rfl, by decide, by decide, by decide +kernel⟩ (by rw [hFM 18 (Or.inl rfl)]; decide) (fun _ _ _ => rfl) rfl rfl rfl ⟨Nat.le_of_ble_eq_true rfl, Nat.le_of_ble_eq_true rfl⟩ rfl (Nat.le_of_ble_eq_true rfl) dL_law_330 ⟨_, rfl⟩ ⟨by show _ ≤ _; omega, by show _ ≤ _; omega⟩ ?_
  refine G_iload hΓ 1 dL_law_333 rfl ?_
  refine G_icmp_eq hΓ (tgt := 340) dL_law_335 (by decide) (fun _ => ?_) (fun hc => absurd h0 hc)
  refine G_iload hΓ 1 dL_law_340 rfl ?_
  refine G_if_ne hΓ (tgt := 357) dL_law_342 (by decide) (fun _ => ?_) (fun hc => ?_)
  · refine G_goto hΓ (tgt := 1081) dL_law_357 (by decide) ?_
    refine G_loc [2, 3, 4, 5, 6] rfl ?_
    exact kk
  · refine G_aload_n hΓ 3 dL_law_345 rfl ?_
    refine G_iconst (v := 0) hΓ dL_law_346 (by decide) ?_
    refine F_outr hL (h := h') rfl dL_law_347 ?_
    refine G_iload hΓ 0 dL_law_348 rfl ?_
    refine G_i2l hΓ dL_law_350 ?_
    refine G_lcmp hΓ dL_law_351 ?_
    refine G_if_eq hΓ (tgt := 357) dL_law_352 (by decide) (fun _ => ?_) (fun h9 => absurd ((lg_cmp_eq _ _).mpr (hr hc)) h9)
    refine G_goto hΓ (tgt := 1081) dL_law_357 (by decide) ?_
    refine G_loc [2, 3, 4, 5, 6] rfl ?_
    exact kk
theorem law_stuffed {Γ : GX} {κ : Nat × Nat} {b N j : Nat} {xs : Nat → Int32} {w0 : Cond} {h : Int64} {s s' : CS} {v v' : Nat → Int32} {m m' : Nat → Nat → Int32} (hL : LW Γ b N xs w0) (hκ : κ.1 + 1 ≤ (gRm Γ).cells ∧ κ.2 + 6 ≤ (gRm Γ).slots) (hj : 5 * j + 5 ≤ N) (hs : Step_stuffed (xs (5 * j + 1)) s v m s' v' m') (kk : ∀ h', GG Γ (κ.1 + 1, κ.2 + 6) (SL h' s' v' m') 1081 [(4, .int (nI (5 * j))), (3, .ref (ya (gl Γ) 20 0)), (2, .ref (ya (gl Γ) 18 0)), (1, .ref (ya (gl Γ) 0 0)), (0, .ref b)] []) : GG Γ κ (SL h s v m) 304 [(4, .int (nI (5 * j))), (3, .ref (ya (gl Γ) 20 0)), (2, .ref (ya (gl Γ) 18 0)), (1, .ref (ya (gl Γ) 0 0)), (0, .ref b)] [] := by
  obtain ⟨r, hm, hx⟩ := hs
  rcases hx with ⟨hx, h0, rfl⟩ | ⟨rfl, ⟨hx, h0⟩⟩
  · exact law_stuffed_pre hL hκ hj (h_L_stuffed (gL Γ) hL.2.1 (gl Γ) hL.2.2.1 hL.2.2.2.2.1 (qM σ0 v m) s' h (xs (5 * j + 1)) hx) (law_stuffed_post (κ := (κ.1 + 1, κ.2 + 6)) hL hκ hj hm h0 (fun _ => rfl) (kk _))
  · exact law_stuffed_pre hL hκ hj (x_L_stuffed_1 (gL Γ) hL.2.1 (gl Γ) hL.2.2.1 hL.2.2.2.2.1 (qM σ0 v m) s' h (xs (5 * j + 1)) hx) (law_stuffed_post (κ := (κ.1 + 1, κ.2 + 6)) hL hκ hj hm h0 (fun h9 => absurd h9 (by decide)) (kk _))
/-- the call 'filter' on both sides -/
def Step_filter (p1 p2 p3 : Int32) (s : CS) (v : Nat → Int32) (m : Nat → Nat → Int32) (s' : CS) (v' : Nat → Int32) (m' : Nat → Nat → Int32) : Prop := f_X8_filter v m p1 p2 p3 = some (v', m') ∧ ((f_X7_filter s p1 p2 p3 = some (.inr s') ∧ v' 0 = 0) ∨ s' = s ∧ (f_X7_filter s p1 p2 p3 = some (.inl 1) ∧ v' 0 = 1))
set_option maxHeartbeats 4000000 in
set_option maxRecDepth 100000 in
theorem law_filter_pre {Γ : GX} {κ : Nat × Nat} {b N j : Nat} {xs : Nat → Int32} {w0 : Cond} {h h' : Int64} {s s' : CS} {v : Nat → Int32} {m : Nat → Nat → Int32} {c : Int32} (hL : LW Γ b N xs w0) (hκ : κ.1 + 1 ≤ (gRm Γ).cells ∧ κ.2 + 6 ≤ (gRm Γ).slots) (hj : 5 * j + 5 ≤ N) (hM : CH (gL Γ) yL_filter (.codeWith yL_filter cL_filter 5 (some .int) [(0, 7, 10, 21)] :: TT) ({ frames := 9, cells := 1, slots := 6, locals := 164 }) (gl Γ) [.ref (ya (gl Γ) 0 0), .int (xs (5 * j + 1)), .int (xs (5 * j + 2)), .int (xs (5 * j + 3))] (SL h s v m) (SL h' s' v m) (some (.int c))) (kk : GG Γ (κ.1 + 1, κ.2 + 6) (SL h' s' v m) 384 [(5, .int c), (4, .int (nI (5 * j))), (3, .ref (ya (gl Γ) 20 0)), (2, .ref (ya (gl Γ) 18 0)), (1, .ref (ya (gl Γ) 0 0)), (0, .ref b)] []) : GG Γ κ (SL h s v m) 360 [(4, .int (nI (5 * j))), (3, .ref (ya (gl Γ) 20 0)), (2, .ref (ya (gl Γ) 18 0)), (1, .ref (ya (gl Γ) 0 0)), (0, .ref b)] [] := by
  have hΓ := hL.1
  refine G_aload_n hΓ 3 dL_law_360 rfl ?_
  refine G_aload_n hΓ 4 dL_law_361 rfl ?_
  refine G_iload hΓ 0 dL_law_362 rfl ?_
  refine G_iconst (v := 1) hΓ dL_law_364 (by decide) ?_
  refine G_iadd hΓ dL_law_365 ?_
  refine S_ld hL (k := 1) (by decide) (by omega) dL_law_366 ?_
  refine G_aload_n hΓ 4 dL_law_367 rfl ?_
  refine G_iload hΓ 0 dL_law_368 rfl ?_
  refine G_iconst (v := 2) hΓ dL_law_370 (by decide) ?_
  refine G_iadd hΓ dL_law_371 ?_
  refine S_ld hL (k := 2) (by decide) (by omega) dL_law_372 ?_
  refine G_aload_n hΓ 4 dL_law_373 rfl ?_
  refine G_iload hΓ 0 dL_law_374 rfl ?_
  refine G_iconst (v := 3) hΓ dL_law_376 (by decide) ?_
  refine G_iadd hΓ dL_law_377 ?_
  refine S_ld hL (k := 3) (by decide) (by omega) dL_law_378 ?_
  refine G_callH hL (n := 4) (As := [.ref (ya (gl Γ) 0 0), .int (xs (5 * j + 1)), .int (xs (5 * j + 2)), .int (xs (5 * j + 3))]) hM kw_629 kw_630 kw_0 kw_631 ⟨by decide, by decide, by decide +kernel⟩ rfl rfl ⟨Nat.le_of_ble_eq_true rfl, Nat.le_of_ble_eq_true rfl⟩ rfl (Nat.le_of_ble_eq_true rfl) dL_law_379 hκ ?_
  exact G_istore hΓ [(5, .int c), (4, .int (nI (5 * j))), (3, .ref (ya (gl Γ) 20 0)), (2, .ref (ya (gl Γ) 18 0)), (1, .ref (ya (gl Γ) 0 0)), (0, .ref b)] dL_law_382 (by decide) rfl kk
set_option maxHeartbeats 4000000 in
set_option maxRecDepth 100000 in
theorem law_filter_post {Γ : GX} {κ : Nat × Nat} {b N j : Nat} {xs : Nat → Int32} {w0 : Cond} {h' : Int64} {s' : CS} {v v' : Nat → Int32} {m m' : Nat → Nat → Int32} {c : Int32} (hL : LW Γ b N xs w0) (hκ : κ.1 ≤ (gRm Γ).cells ∧ κ.2 ≤ (gRm Γ).slots) (hj : 5 * j + 5 ≤ N) (hm : f_X8_filter v m (xs (5 * j + 1)) (xs (5 * j + 2)) (xs (5 * j + 3)) = some (v', m')) (h0 : v' 0 = c) (kk : GG Γ κ (SL h' s' v' m') 1081 [(4, .int (nI (5 * j))), (3, .ref (ya (gl Γ) 20 0)), (2, .ref (ya (gl Γ) 18 0)), (1, .ref (ya (gl Γ) 0 0)), (0, .ref b)] []) : GG Γ κ (SL h' s' v m) 384 [(5, .int c), (4, .int (nI (5 * j))), (3, .ref (ya (gl Γ) 20 0)), (2, .ref (ya (gl Γ) 18 0)), (1, .ref (ya (gl Γ) 0 0)), (0, .ref b)] [] := by
  have hΓ := hL.1
  have hFM := hL.2.2.2.1
  have hκ1 := hκ.1
  have hκ2 := hκ.2
  refine G_aload_n hΓ 3 dL_law_384 rfl ?_
  refine G_aload_n hΓ 5 dL_law_385 rfl ?_
  refine G_iload hΓ 1 dL_law_386 rfl ?_
  refine G_iconst (v := 1) hΓ dL_law_388 (by decide) ?_
  refine G_iadd hΓ dL_law_389 ?_
  refine S_ld hL (k := 1) (by decide) (by omega) dL_law_390 ?_
  refine G_aload_n hΓ 5 dL_law_391 rfl ?_
  refine G_iload hΓ 1 dL_law_392 rfl ?_
  refine G_iconst (v := 2) hΓ dL_law_394 (by decide) ?_
  refine G_iadd hΓ dL_law_395 ?_
  refine S_ld hL (k := 2) (by decide) (by omega) dL_law_396 ?_
  refine G_aload_n hΓ 5 dL_law_397 rfl ?_
  refine G_iload hΓ 1 dL_law_398 rfl ?_
  refine G_iconst (v := 3) hΓ dL_law_400 (by decide) ?_
  refine G_iadd hΓ dL_law_401 ?_
  refine S_ld hL (k := 3) (by decide) (by omega) dL_law_402 ?_
  refine G_callVk hΓ (n := 3) (As := [.int (xs (5 * j + 1)), .int (xs (5 * j + 2)), .int (xs (5 * j + 3))]) (t := 18) (i := 0) (ci := 11) (T := TX8) (N := 47) (FS := fs8 (gl Γ) 0) (σ' := SL h' s' v' m') (c_X8_filter (gL Γ) (gl Γ) hFM (SL h' s' v m) v m (xs (5 * j + 1)) (xs (5 * j + 2)) (xs (5 * j + 3)) hm) SL_M SL_M kw_1100 kw_1101 kw_1102 kw_9 kw_1103 ⟨rfl, by decide, by decide, by decide +kernel⟩ (by rw [hFM 18 (Or.inl rfl)]; decide) (fun _ _ _ => rfl) rfl rfl rfl ⟨Nat.le_of_ble_eq_true rfl, Nat.le_of_ble_eq_true rfl⟩ rfl (Nat.le_of_ble_eq_true rfl) dL_law_403 ⟨_, rfl⟩ ⟨by show _ ≤ _; omega, by show _ ≤ _; omega⟩ ?_
  refine G_aload_n hΓ 3 dL_law_406 rfl ?_
  refine G_callVk hΓ (n := 0) (As := []) (t := 18) (i := 0) (ci := 11) (T := TX8) (N := 47) (FS := fs8 (gl Γ) 0) (σ' := SL h' s' v' m') (c_X8_thrown (gL Γ) (gl Γ) hFM (SL h' s' v' m') v' m'  rfl) SL_M SL_M kw_1023 kw_1024 kw_1025 kw_9 kw_1026 ⟨rfl, by decide, by decide, by decide +kernel⟩ (by rw [hFM 18 (Or.inl rfl)]; decide) (fun _ _ _ => rfl) rfl rfl rfl ⟨Nat.le_of_ble_eq_true rfl, Nat.le_of_ble_eq_true rfl⟩ rfl (Nat.le_of_ble_eq_true rfl) dL_law_407 ⟨_, rfl⟩ ⟨by show _ ≤ _; omega, by show _ ≤ _; omega⟩ ?_
  refine G_iload hΓ 0 dL_law_410 rfl ?_
  refine G_icmp_eq hΓ (tgt := 417) dL_law_412 (by decide) (fun _ => ?_) (fun hc => absurd h0 hc)
  refine G_goto hΓ (tgt := 1081) dL_law_417 (by decide) ?_
  refine G_loc [1, 2, 3, 4, 5] rfl ?_
  exact kk
theorem law_filter {Γ : GX} {κ : Nat × Nat} {b N j : Nat} {xs : Nat → Int32} {w0 : Cond} {h : Int64} {s s' : CS} {v v' : Nat → Int32} {m m' : Nat → Nat → Int32} (hL : LW Γ b N xs w0) (hκ : κ.1 + 1 ≤ (gRm Γ).cells ∧ κ.2 + 6 ≤ (gRm Γ).slots) (hj : 5 * j + 5 ≤ N) (hs : Step_filter (xs (5 * j + 1)) (xs (5 * j + 2)) (xs (5 * j + 3)) s v m s' v' m') (kk : ∀ h', GG Γ (κ.1 + 1, κ.2 + 6) (SL h' s' v' m') 1081 [(4, .int (nI (5 * j))), (3, .ref (ya (gl Γ) 20 0)), (2, .ref (ya (gl Γ) 18 0)), (1, .ref (ya (gl Γ) 0 0)), (0, .ref b)] []) : GG Γ κ (SL h s v m) 360 [(4, .int (nI (5 * j))), (3, .ref (ya (gl Γ) 20 0)), (2, .ref (ya (gl Γ) 18 0)), (1, .ref (ya (gl Γ) 0 0)), (0, .ref b)] [] := by
  obtain ⟨hm, hx⟩ := hs
  rcases hx with ⟨hx, h0⟩ | ⟨rfl, ⟨hx, h0⟩⟩
  · exact law_filter_pre hL hκ hj (h_L_filter (gL Γ) hL.2.1 (gl Γ) hL.2.2.1 hL.2.2.2.2.1 (qM σ0 v m) s h (xs (5 * j + 1)) (xs (5 * j + 2)) (xs (5 * j + 3)) hx) (law_filter_post (κ := (κ.1 + 1, κ.2 + 6)) hL hκ hj hm h0 (kk _))
  · exact law_filter_pre hL hκ hj (x_L_filter_1 (gL Γ) hL.2.1 (gl Γ) hL.2.2.1 hL.2.2.2.2.1 (qM σ0 v m) s' h (xs (5 * j + 1)) (xs (5 * j + 2)) (xs (5 * j + 3)) hx) (law_filter_post (κ := (κ.1 + 1, κ.2 + 6)) hL hκ hj hm h0 (kk _))
/-- the call 'flip' on both sides -/
def Step_flip (p1 p2 : Int32) (s : CS) (v : Nat → Int32) (m : Nat → Nat → Int32) (s' : CS) (v' : Nat → Int32) (m' : Nat → Nat → Int32) : Prop := f_X8_flip v m p1 p2 = some (v', m') ∧ ((f_X7_flip s p1 p2 = some (.inr s') ∧ v' 0 = 0) ∨ s' = s ∧ (f_X7_flip s p1 p2 = some (.inl 1) ∧ v' 0 = 1 ∨ f_X7_flip s p1 p2 = some (.inl 2) ∧ v' 0 = 2))
set_option maxHeartbeats 4000000 in
set_option maxRecDepth 100000 in
theorem law_flip_pre {Γ : GX} {κ : Nat × Nat} {b N j : Nat} {xs : Nat → Int32} {w0 : Cond} {h h' : Int64} {s s' : CS} {v : Nat → Int32} {m : Nat → Nat → Int32} {c : Int32} (hL : LW Γ b N xs w0) (hκ : κ.1 + 1 ≤ (gRm Γ).cells ∧ κ.2 + 6 ≤ (gRm Γ).slots) (hj : 5 * j + 5 ≤ N) (hM : CH (gL Γ) yL_flip (.codeWith yL_flip cL_flip 4 (some .int) [(0, 6, 9, 21), (0, 6, 12, 13)] :: TT) ({ frames := 9, cells := 1, slots := 6, locals := 163 }) (gl Γ) [.ref (ya (gl Γ) 0 0), .int (xs (5 * j + 1)), .int (xs (5 * j + 2))] (SL h s v m) (SL h' s' v m) (some (.int c))) (kk : GG Γ (κ.1 + 1, κ.2 + 6) (SL h' s' v m) 438 [(5, .int c), (4, .int (nI (5 * j))), (3, .ref (ya (gl Γ) 20 0)), (2, .ref (ya (gl Γ) 18 0)), (1, .ref (ya (gl Γ) 0 0)), (0, .ref b)] []) : GG Γ κ (SL h s v m) 420 [(4, .int (nI (5 * j))), (3, .ref (ya (gl Γ) 20 0)), (2, .ref (ya (gl Γ) 18 0)), (1, .ref (ya (gl Γ) 0 0)), (0, .ref b)] [] := by
  have hΓ := hL.1
  refine G_aload_n hΓ 3 dL_law_420 rfl ?_
  refine G_aload_n hΓ 4 dL_law_421 rfl ?_
  refine G_iload hΓ 0 dL_law_422 rfl ?_
  refine G_iconst (v := 1) hΓ dL_law_424 (by decide) ?_
  refine G_iadd hΓ dL_law_425 ?_
  refine S_ld hL (k := 1) (by decide) (by omega) dL_law_426 ?_
  refine G_aload_n hΓ 4 dL_law_427 rfl ?_
  refine G_iload hΓ 0 dL_law_428 rfl ?_
  refine G_iconst (v := 2) hΓ dL_law_430 (by decide) ?_
  refine G_iadd hΓ dL_law_431 ?_
  refine S_ld hL (k := 2) (by decide) (by omega) dL_law_432 ?_
  refine G_callH hL (n := 3) (As := [.ref (ya (gl Γ) 0 0), .int (xs (5 * j + 1)), .int (xs (5 * j + 2))]) hM kw_636 kw_637 kw_0 kw_638 ⟨by decide, by decide, by decide +kernel⟩ rfl rfl ⟨Nat.le_of_ble_eq_true rfl, Nat.le_of_ble_eq_true rfl⟩ rfl (Nat.le_of_ble_eq_true rfl) dL_law_433 hκ ?_
  exact G_istore hΓ [(5, .int c), (4, .int (nI (5 * j))), (3, .ref (ya (gl Γ) 20 0)), (2, .ref (ya (gl Γ) 18 0)), (1, .ref (ya (gl Γ) 0 0)), (0, .ref b)] dL_law_436 (by decide) rfl kk
set_option maxHeartbeats 4000000 in
set_option maxRecDepth 100000 in
theorem law_flip_post {Γ : GX} {κ : Nat × Nat} {b N j : Nat} {xs : Nat → Int32} {w0 : Cond} {h' : Int64} {s' : CS} {v v' : Nat → Int32} {m m' : Nat → Nat → Int32} {c : Int32} (hL : LW Γ b N xs w0) (hκ : κ.1 ≤ (gRm Γ).cells ∧ κ.2 ≤ (gRm Γ).slots) (hj : 5 * j + 5 ≤ N) (hm : f_X8_flip v m (xs (5 * j + 1)) (xs (5 * j + 2)) = some (v', m')) (h0 : v' 0 = c) (kk : GG Γ κ (SL h' s' v' m') 1081 [(4, .int (nI (5 * j))), (3, .ref (ya (gl Γ) 20 0)), (2, .ref (ya (gl Γ) 18 0)), (1, .ref (ya (gl Γ) 0 0)), (0, .ref b)] []) : GG Γ κ (SL h' s' v m) 438 [(5, .int c), (4, .int (nI (5 * j))), (3, .ref (ya (gl Γ) 20 0)), (2, .ref (ya (gl Γ) 18 0)), (1, .ref (ya (gl Γ) 0 0)), (0, .ref b)] [] := by
  have hΓ := hL.1
  have hFM := hL.2.2.2.1
  have hκ1 := hκ.1
  have hκ2 := hκ.2
  refine G_aload_n hΓ 3 dL_law_438 rfl ?_
  refine G_aload_n hΓ 5 dL_law_439 rfl ?_
  refine G_iload hΓ 1 dL_law_440 rfl ?_
  refine G_iconst (v := 1) hΓ dL_law_442 (by decide) ?_
  refine G_iadd hΓ dL_law_443 ?_
  refine S_ld hL (k := 1) (by decide) (by omega) dL_law_444 ?_
  refine G_aload_n hΓ 5 dL_law_445 rfl ?_
  refine G_iload hΓ 1 dL_law_446 rfl ?_
  refine G_iconst (v := 2) hΓ dL_law_448 (by decide) ?_
  refine G_iadd hΓ dL_law_449 ?_
  refine S_ld hL (k := 2) (by decide) (by omega) dL_law_450 ?_
  refine G_callVk hΓ (n := 2) (As := [.int (xs (5 * j + 1)), .int (xs (5 * j + 2))]) (t := 18) (i := 0) (ci := 11) (T := TX8) (N := 47) (FS := fs8 (gl Γ) 0) (σ' := SL h' s' v' m') (c_X8_flip (gL Γ) (gl Γ) hFM (SL h' s' v m) v m (xs (5 * j + 1)) (xs (5 * j + 2)) hm) SL_M SL_M kw_1104 kw_1105 kw_1106 kw_9 kw_1107 ⟨rfl, by decide, by decide, by decide +kernel⟩ (by rw [hFM 18 (Or.inl rfl)]; decide) (fun _ _ _ => rfl) rfl rfl rfl ⟨Nat.le_of_ble_eq_true rfl, Nat.le_of_ble_eq_true rfl⟩ rfl (Nat.le_of_ble_eq_true rfl) dL_law_451 ⟨_, rfl⟩ ⟨by show _ ≤ _; omega, by show _ ≤ _; omega⟩ ?_
  refine G_aload_n hΓ 3 dL_law_454 rfl ?_
  refine G_callVk hΓ (n := 0) (As := []) (t := 18) (i := 0) (ci := 11) (T := TX8) (N := 47) (FS := fs8 (gl Γ) 0) (σ' := SL h' s' v' m') (c_X8_thrown (gL Γ) (gl Γ) hFM (SL h' s' v' m') v' m'  rfl) SL_M SL_M kw_1023 kw_1024 kw_1025 kw_9 kw_1026 ⟨rfl, by decide, by decide, by decide +kernel⟩ (by rw [hFM 18 (Or.inl rfl)]; decide) (fun _ _ _ => rfl) rfl rfl rfl ⟨Nat.le_of_ble_eq_true rfl, Nat.le_of_ble_eq_true rfl⟩ rfl (Nat.le_of_ble_eq_true rfl) dL_law_455 ⟨_, rfl⟩ ⟨by show _ ≤ _; omega, by show _ ≤ _; omega⟩ ?_
  refine G_iload hΓ 0 dL_law_458 rfl ?_
  refine G_icmp_eq hΓ (tgt := 465) dL_law_460 (by decide) (fun _ => ?_) (fun hc => absurd h0 hc)
  refine G_goto hΓ (tgt := 1081) dL_law_465 (by decide) ?_
  refine G_loc [1, 2, 3, 4, 5] rfl ?_
  exact kk
theorem law_flip {Γ : GX} {κ : Nat × Nat} {b N j : Nat} {xs : Nat → Int32} {w0 : Cond} {h : Int64} {s s' : CS} {v v' : Nat → Int32} {m m' : Nat → Nat → Int32} (hL : LW Γ b N xs w0) (hκ : κ.1 + 1 ≤ (gRm Γ).cells ∧ κ.2 + 6 ≤ (gRm Γ).slots) (hj : 5 * j + 5 ≤ N) (hs : Step_flip (xs (5 * j + 1)) (xs (5 * j + 2)) s v m s' v' m') (kk : ∀ h', GG Γ (κ.1 + 1, κ.2 + 6) (SL h' s' v' m') 1081 [(4, .int (nI (5 * j))), (3, .ref (ya (gl Γ) 20 0)), (2, .ref (ya (gl Γ) 18 0)), (1, .ref (ya (gl Γ) 0 0)), (0, .ref b)] []) : GG Γ κ (SL h s v m) 420 [(4, .int (nI (5 * j))), (3, .ref (ya (gl Γ) 20 0)), (2, .ref (ya (gl Γ) 18 0)), (1, .ref (ya (gl Γ) 0 0)), (0, .ref b)] [] := by
  obtain ⟨hm, hx⟩ := hs
  rcases hx with ⟨hx, h0⟩ | ⟨rfl, (⟨hx, h0⟩ | ⟨hx, h0⟩)⟩
  · exact law_flip_pre hL hκ hj (h_L_flip (gL Γ) hL.2.1 (gl Γ) hL.2.2.1 hL.2.2.2.2.1 (qM σ0 v m) s h (xs (5 * j + 1)) (xs (5 * j + 2)) hx) (law_flip_post (κ := (κ.1 + 1, κ.2 + 6)) hL hκ hj hm h0 (kk _))
  · exact law_flip_pre hL hκ hj (x_L_flip_1 (gL Γ) hL.2.1 (gl Γ) hL.2.2.1 hL.2.2.2.2.1 (qM σ0 v m) s' h (xs (5 * j + 1)) (xs (5 * j + 2)) hx) (law_flip_post (κ := (κ.1 + 1, κ.2 + 6)) hL hκ hj hm h0 (kk _))
  · exact law_flip_pre hL hκ hj (x_L_flip_2 (gL Γ) hL.2.1 (gl Γ) hL.2.2.1 hL.2.2.2.2.1 (qM σ0 v m) s' h (xs (5 * j + 1)) (xs (5 * j + 2)) hx) (law_flip_post (κ := (κ.1 + 1, κ.2 + 6)) hL hκ hj hm h0 (kk _))
/-- the call 'run' on both sides -/
def Step_run (p1 : Int32) (s : CS) (v : Nat → Int32) (m : Nat → Nat → Int32) (s' : CS) (v' : Nat → Int32) (m' : Nat → Nat → Int32) : Prop := ∃ r : Int32, f_X8_run v m p1 = some (v', m', r) ∧ ((f_X7_run s p1 = some (.inr (s', r)) ∧ v' 0 = 0) ∨ s' = s ∧ (f_X7_run s p1 = some (.inl 2) ∧ v' 0 = 1 ∨ f_X7_run s p1 = some (.inl 3) ∧ v' 0 = 2))
set_option maxHeartbeats 4000000 in
set_option maxRecDepth 100000 in
theorem law_run_pre {Γ : GX} {κ : Nat × Nat} {b N j : Nat} {xs : Nat → Int32} {w0 : Cond} {h h' : Int64} {s s' : CS} {v : Nat → Int32} {m : Nat → Nat → Int32} {c : Int32} (hL : LW Γ b N xs w0) (hκ : κ.1 + 1 ≤ (gRm Γ).cells ∧ κ.2 + 6 ≤ (gRm Γ).slots) (hj : 5 * j + 5 ≤ N) (hM : CH (gL Γ) yL_run (.codeWith yL_run cL_run 4 (some .int) [(0, 9, 12, 13), (0, 9, 15, 23)] :: TT) ({ frames := 8, cells := 1, slots := 6, locals := 180 }) (gl Γ) [.ref (ya (gl Γ) 0 0), .int (xs (5 * j + 1)), .ref (ya (gl Γ) 20 0)] (SL h s v m) (SL h' s' v m) (some (.int c))) (kk : GG Γ (κ.1 + 1, κ.2 + 6) (SL h' s' v m) 481 [(5, .int c), (4, .int (nI (5 * j))), (3, .ref (ya (gl Γ) 20 0)), (2, .ref (ya (gl Γ) 18 0)), (1, .ref (ya (gl Γ) 0 0)), (0, .ref b)] []) : GG Γ κ (SL h s v m) 468 [(4, .int (nI (5 * j))), (3, .ref (ya (gl Γ) 20 0)), (2, .ref (ya (gl Γ) 18 0)), (1, .ref (ya (gl Γ) 0 0)), (0, .ref b)] [] := by
  have hΓ := hL.1
  refine G_aload_n hΓ 3 dL_law_468 rfl ?_
  refine G_aload_n hΓ 4 dL_law_469 rfl ?_
  refine G_iload hΓ 0 dL_law_470 rfl ?_
  refine G_iconst (v := 1) hΓ dL_law_472 (by decide) ?_
  refine G_iadd hΓ dL_law_473 ?_
  refine S_ld hL (k := 1) (by decide) (by omega) dL_law_474 ?_
  refine G_aload_n hΓ 1 dL_law_475 rfl ?_
  refine G_callH hL (n := 3) (As := [.ref (ya (gl Γ) 0 0), .int (xs (5 * j + 1)), .ref (ya (gl Γ) 20 0)]) hM kw_647 kw_648 kw_0 kw_649 ⟨by decide, by decide, by decide +kernel⟩ rfl rfl ⟨Nat.le_of_ble_eq_true rfl, Nat.le_of_ble_eq_true rfl⟩ rfl (Nat.le_of_ble_eq_true rfl) dL_law_476 hκ ?_
  exact G_istore hΓ [(5, .int c), (4, .int (nI (5 * j))), (3, .ref (ya (gl Γ) 20 0)), (2, .ref (ya (gl Γ) 18 0)), (1, .ref (ya (gl Γ) 0 0)), (0, .ref b)] dL_law_479 (by decide) rfl kk
set_option maxHeartbeats 4000000 in
set_option maxRecDepth 100000 in
theorem law_run_post {Γ : GX} {κ : Nat × Nat} {b N j : Nat} {xs : Nat → Int32} {w0 : Cond} {h' : Int64} {s' : CS} {v v' : Nat → Int32} {m m' : Nat → Nat → Int32} {c r : Int32} (hL : LW Γ b N xs w0) (hκ : κ.1 ≤ (gRm Γ).cells ∧ κ.2 ≤ (gRm Γ).slots) (hj : 5 * j + 5 ≤ N) (hm : f_X8_run v m (xs (5 * j + 1)) = some (v', m', r)) (h0 : v' 0 = c) (hr : c = 0 → h' = r.toInt64) (kk : GG Γ κ (SL h' s' v' m') 1081 [(4, .int (nI (5 * j))), (3, .ref (ya (gl Γ) 20 0)), (2, .ref (ya (gl Γ) 18 0)), (1, .ref (ya (gl Γ) 0 0)), (0, .ref b)] []) : GG Γ κ (SL h' s' v m) 481 [(5, .int c), (4, .int (nI (5 * j))), (3, .ref (ya (gl Γ) 20 0)), (2, .ref (ya (gl Γ) 18 0)), (1, .ref (ya (gl Γ) 0 0)), (0, .ref b)] [] := by
  have hΓ := hL.1
  have hFM := hL.2.2.2.1
  have hκ1 := hκ.1
  have hκ2 := hκ.2
  refine G_aload_n hΓ 3 dL_law_481 rfl ?_
  refine G_aload_n hΓ 5 dL_law_482 rfl ?_
  refine G_iload hΓ 1 dL_law_483 rfl ?_
  refine G_iconst (v := 1) hΓ dL_law_485 (by decide) ?_
  refine G_iadd hΓ dL_law_486 ?_
  refine S_ld hL (k := 1) (by decide) (by omega) dL_law_487 ?_
  refine G_callVk hΓ (n := 1) (As := [.int (xs (5 * j + 1))]) (t := 18) (i := 0) (ci := 11) (T := TX8) (N := 47) (FS := fs8 (gl Γ) 0) (σ' := SL h' s' v' m') (c_X8_run (gL Γ) (gl Γ) hFM (SL h' s' v m) v m (xs (5 * j + 1)) hm) SL_M SL_M kw_1108 kw_1109 kw_1110 kw_9 kw_1111 ⟨rfl, by decide, by decide, by decide +kernel⟩ (by rw [hFM 18 (Or.inl rfl)]; decide) (fun _ _ _ => rfl) rfl rfl rfl ⟨Nat.le_of_ble_eq_true rfl, Nat.le_of_ble_eq_true rfl⟩ rfl (Nat.le_of_ble_eq_true rfl) dL_law_488 ⟨_, rfl⟩ ⟨by show _ ≤ _; omega, by show _ ≤ _; omega⟩ ?_
  refine G_istore hΓ [(6, .int r), (5, .int c), (4, .int (nI (5 * j))), (3, .ref (ya (gl Γ) 20 0)), (2, .ref (ya (gl Γ) 18 0)), (1, .ref (ya (gl Γ) 0 0)), (0, .ref b)] dL_law_491 (by decide) rfl ?_
  refine G_aload_n hΓ 4 dL_law_493 rfl ?_
  refine G_callVk hΓ (n := 0) (As := []) (t := 18) (i := 0) (ci := 11) (T := TX8) (N := 47) (FS := fs8 (gl Γ) 0) (σ' := SL h' s' v' m') (c_X8_thrown (gL Γ) (gl Γ) hFM (SL h' s' v' m') v' m'  rfl) SL_M SL_M kw_1023 kw_1024 kw_1025 kw_9 kw_1026 ⟨rfl, by decide, by decide, by decide +kernel⟩ (by rw [hFM 18 (Or.inl rfl)]; decide) (fun _ _ _ => rfl) rfl rfl rfl ⟨Nat.le_of_ble_eq_true rfl, Nat.le_of_ble_eq_true rfl⟩ rfl (Nat.le_of_ble_eq_true rfl) dL_law_494 ⟨_, rfl⟩ ⟨by show _ ≤ _; omega, by show _ ≤ _; omega⟩ ?_
  refine G_iload hΓ 1 dL_law_497 rfl ?_
  refine G_icmp_eq hΓ (tgt := 504) dL_law_499 (by decide) (fun _ => ?_) (fun hc => absurd h0 hc)
  refine G_iload hΓ 1 dL_law_504 rfl ?_
  refine G_if_ne hΓ (tgt := 521) dL_law_506 (by decide) (fun _ => ?_) (fun hc => ?_)
  · refine G_goto hΓ (tgt := 1081) dL_law_521 (by decide) ?_
    refine G_loc [2, 3, 4, 5, 6] rfl ?_
    exact kk
  · refine G_aload_n hΓ 3 dL_law_509 rfl ?_
    refine G_iconst (v := 0) hΓ dL_law_510 (by decide) ?_
    refine F_outr hL (h := h') rfl dL_law_511 ?_
    refine G_iload hΓ 0 dL_law_512 rfl ?_
    refine G_i2l hΓ dL_law_514 ?_
    refine G_lcmp hΓ dL_law_515 ?_
    refine G_if_eq hΓ (tgt := 521) dL_law_516 (by decide) (fun _ => ?_) (fun h9 => absurd ((lg_cmp_eq _ _).mpr (hr hc)) h9)
    refine G_goto hΓ (tgt := 1081) dL_law_521 (by decide) ?_
    refine G_loc [2, 3, 4, 5, 6] rfl ?_
    exact kk
theorem law_run {Γ : GX} {κ : Nat × Nat} {b N j : Nat} {xs : Nat → Int32} {w0 : Cond} {h : Int64} {s s' : CS} {v v' : Nat → Int32} {m m' : Nat → Nat → Int32} (hL : LW Γ b N xs w0) (hκ : κ.1 + 1 ≤ (gRm Γ).cells ∧ κ.2 + 6 ≤ (gRm Γ).slots) (hj : 5 * j + 5 ≤ N) (hs : Step_run (xs (5 * j + 1)) s v m s' v' m') (kk : ∀ h', GG Γ (κ.1 + 1, κ.2 + 6) (SL h' s' v' m') 1081 [(4, .int (nI (5 * j))), (3, .ref (ya (gl Γ) 20 0)), (2, .ref (ya (gl Γ) 18 0)), (1, .ref (ya (gl Γ) 0 0)), (0, .ref b)] []) : GG Γ κ (SL h s v m) 468 [(4, .int (nI (5 * j))), (3, .ref (ya (gl Γ) 20 0)), (2, .ref (ya (gl Γ) 18 0)), (1, .ref (ya (gl Γ) 0 0)), (0, .ref b)] [] := by
  obtain ⟨r, hm, hx⟩ := hs
  rcases hx with ⟨hx, h0⟩ | ⟨rfl, (⟨hx, h0⟩ | ⟨hx, h0⟩)⟩
  · exact law_run_pre hL hκ hj (h_L_run (gL Γ) hL.2.1 (gl Γ) hL.2.2.1 hL.2.2.2.2.1 (qM σ0 v m) s h (xs (5 * j + 1)) hx) (law_run_post (κ := (κ.1 + 1, κ.2 + 6)) hL hκ hj hm h0 (fun _ => rfl) (kk _))
  · exact law_run_pre hL hκ hj (x_L_run_2 (gL Γ) hL.2.1 (gl Γ) hL.2.2.1 hL.2.2.2.2.1 (qM σ0 v m) s' h (xs (5 * j + 1)) hx) (law_run_post (κ := (κ.1 + 1, κ.2 + 6)) hL hκ hj hm h0 (fun h9 => absurd h9 (by decide)) (kk _))
  · exact law_run_pre hL hκ hj (x_L_run_3 (gL Γ) hL.2.1 (gl Γ) hL.2.2.1 hL.2.2.2.2.1 (qM σ0 v m) s' h (xs (5 * j + 1)) hx) (law_run_post (κ := (κ.1 + 1, κ.2 + 6)) hL hκ hj hm h0 (fun h9 => absurd h9 (by decide)) (kk _))
/-- the call 'bit' on both sides -/
def Step_bit (p1 : Int32) (s : CS) (v : Nat → Int32) (m : Nat → Nat → Int32) (s' : CS) (v' : Nat → Int32) (m' : Nat → Nat → Int32) : Prop := ∃ r : Int32, f_X8_bit v m p1 = some (v', r) ∧ m' = m ∧ ((f_X7_bit s p1 = some (.inr r) ∧ v' 0 = 0 ∧ s' = s) ∨ s' = s ∧ (f_X7_bit s p1 = some (.inl 5) ∧ v' 0 = 1))
set_option maxHeartbeats 4000000 in
set_option maxRecDepth 100000 in
theorem law_bit_pre {Γ : GX} {κ : Nat × Nat} {b N j : Nat} {xs : Nat → Int32} {w0 : Cond} {h h' : Int64} {s s' : CS} {v : Nat → Int32} {m : Nat → Nat → Int32} {c : Int32} (hL : LW Γ b N xs w0) (hκ : κ.1 + 1 ≤ (gRm Γ).cells ∧ κ.2 + 6 ≤ (gRm Γ).slots) (hj : 5 * j + 5 ≤ N) (hM : CH (gL Γ) yL_bit (.codeWith yL_bit cL_bit 4 (some .int) [(0, 9, 12, 46)] :: TT) ({ frames := 9, cells := 1, slots := 6, locals := 141 }) (gl Γ) [.ref (ya (gl Γ) 0 0), .int (xs (5 * j + 1)), .ref (ya (gl Γ) 20 0)] (SL h s v m) (SL h' s' v m) (some (.int c))) (kk : GG Γ (κ.1 + 1, κ.2 + 6) (SL h' s' v m) 550 [(5, .int c), (4, .int (nI (5 * j))), (3, .ref (ya (gl Γ) 20 0)), (2, .ref (ya (gl Γ) 18 0)), (1, .ref (ya (gl Γ) 0 0)), (0, .ref b)] []) : GG Γ κ (SL h s v m) 537 [(4, .int (nI (5 * j))), (3, .ref (ya (gl Γ) 20 0)), (2, .ref (ya (gl Γ) 18 0)), (1, .ref (ya (gl Γ) 0 0)), (0, .ref b)] [] := by
  have hΓ := hL.1
  refine G_aload_n hΓ 3 dL_law_537 rfl ?_
  refine G_aload_n hΓ 4 dL_law_538 rfl ?_
  refine G_iload hΓ 0 dL_law_539 rfl ?_
  refine G_iconst (v := 1) hΓ dL_law_541 (by decide) ?_
  refine G_iadd hΓ dL_law_542 ?_
  refine S_ld hL (k := 1) (by decide) (by omega) dL_law_543 ?_
  refine G_aload_n hΓ 1 dL_law_544 rfl ?_
  refine G_callH hL (n := 3) (As := [.ref (ya (gl Γ) 0 0), .int (xs (5 * j + 1)), .ref (ya (gl Γ) 20 0)]) hM kw_789 kw_790 kw_0 kw_791 ⟨by decide, by decide, by decide +kernel⟩ rfl rfl ⟨Nat.le_of_ble_eq_true rfl, Nat.le_of_ble_eq_true rfl⟩ rfl (Nat.le_of_ble_eq_true rfl) dL_law_545 hκ ?_
  exact G_istore hΓ [(5, .int c), (4, .int (nI (5 * j))), (3, .ref (ya (gl Γ) 20 0)), (2, .ref (ya (gl Γ) 18 0)), (1, .ref (ya (gl Γ) 0 0)), (0, .ref b)] dL_law_548 (by decide) rfl kk
set_option maxHeartbeats 4000000 in
set_option maxRecDepth 100000 in
theorem law_bit_post {Γ : GX} {κ : Nat × Nat} {b N j : Nat} {xs : Nat → Int32} {w0 : Cond} {h' : Int64} {s' : CS} {v v' : Nat → Int32} {m : Nat → Nat → Int32} {c r : Int32} (hL : LW Γ b N xs w0) (hκ : κ.1 ≤ (gRm Γ).cells ∧ κ.2 ≤ (gRm Γ).slots) (hj : 5 * j + 5 ≤ N) (hm : f_X8_bit v m (xs (5 * j + 1)) = some (v', r)) (h0 : v' 0 = c) (hr : c = 0 → h' = r.toInt64) (kk : GG Γ κ (SL h' s' v' m) 1081 [(4, .int (nI (5 * j))), (3, .ref (ya (gl Γ) 20 0)), (2, .ref (ya (gl Γ) 18 0)), (1, .ref (ya (gl Γ) 0 0)), (0, .ref b)] []) : GG Γ κ (SL h' s' v m) 550 [(5, .int c), (4, .int (nI (5 * j))), (3, .ref (ya (gl Γ) 20 0)), (2, .ref (ya (gl Γ) 18 0)), (1, .ref (ya (gl Γ) 0 0)), (0, .ref b)] [] := by
  have hΓ := hL.1
  have hFM := hL.2.2.2.1
  have hκ1 := hκ.1
  have hκ2 := hκ.2
  refine G_aload_n hΓ 3 dL_law_550 rfl ?_
  refine G_aload_n hΓ 5 dL_law_551 rfl ?_
  refine G_iload hΓ 1 dL_law_552 rfl ?_
  refine G_iconst (v := 1) hΓ dL_law_554 (by decide) ?_
  refine G_iadd hΓ dL_law_555 ?_
  refine S_ld hL (k := 1) (by decide) (by omega) dL_law_556 ?_
  refine G_callVk hΓ (n := 1) (As := [.int (xs (5 * j + 1))]) (t := 18) (i := 0) (ci := 11) (T := TX8) (N := 47) (FS := fs8 (gl Γ) 0) (σ' := SL h' s' v' m) (c_X8_bit (gL Γ) (gl Γ) hFM (SL h' s' v m) v m (xs (5 * j + 1)) hm) SL_M SL_M kw_1189 kw_1190 kw_1191 kw_9 kw_1192 ⟨rfl, by decide, by decide, by decide +kernel⟩ (by rw [hFM 18 (Or.inl rfl)]; decide) (fun _ _ _ => rfl) rfl rfl rfl ⟨Nat.le_of_ble_eq_true rfl, Nat.le_of_ble_eq_true rfl⟩ rfl (Nat.le_of_ble_eq_true rfl) dL_law_557 ⟨_, rfl⟩ ⟨by show _ ≤ _; omega, by show _ ≤ _; omega⟩ ?_
  refine G_istore hΓ [(6, .int r), (5, .int c), (4, .int (nI (5 * j))), (3, .ref (ya (gl Γ) 20 0)), (2, .ref (ya (gl Γ) 18 0)), (1, .ref (ya (gl Γ) 0 0)), (0, .ref b)] dL_law_560 (by decide) rfl ?_
  refine G_aload_n hΓ 4 dL_law_562 rfl ?_
  refine G_callVk hΓ (n := 0) (As := []) (t := 18) (i := 0) (ci := 11) (T := TX8) (N := 47) (FS := fs8 (gl Γ) 0) (σ' := SL h' s' v' m) (c_X8_thrown (gL Γ) (gl Γ) hFM (SL h' s' v' m) v' m  rfl) SL_M SL_M kw_1023 kw_1024 kw_1025 kw_9 kw_1026 ⟨rfl, by decide, by decide, by decide +kernel⟩ (by rw [hFM 18 (Or.inl rfl)]; decide) (fun _ _ _ => rfl) rfl rfl rfl ⟨Nat.le_of_ble_eq_true rfl, Nat.le_of_ble_eq_true rfl⟩ rfl (Nat.le_of_ble_eq_true rfl) dL_law_563 ⟨_, rfl⟩ ⟨by show _ ≤ _; omega, by show _ ≤ _; omega⟩ ?_
  refine G_iload hΓ 1 dL_law_566 rfl ?_
  refine G_icmp_eq hΓ (tgt := 573) dL_law_568 (by decide) (fun _ => ?_) (fun hc => absurd h0 hc)
  refine G_iload hΓ 1 dL_law_573 rfl ?_
  refine G_if_ne hΓ (tgt := 590) dL_law_575 (by decide) (fun _ => ?_) (fun hc => ?_)
  · refine G_goto hΓ (tgt := 1081) dL_law_590 (by decide) ?_
    refine G_loc [2, 3, 4, 5, 6] rfl ?_
    exact kk
  · refine G_aload_n hΓ 3 dL_law_578 rfl ?_
    refine G_iconst (v := 0) hΓ dL_law_579 (by decide) ?_
    refine F_outr hL (h := h') rfl dL_law_580 ?_
    refine G_iload hΓ 0 dL_law_581 rfl ?_
    refine G_i2l hΓ dL_law_583 ?_
    refine G_lcmp hΓ dL_law_584 ?_
    refine G_if_eq hΓ (tgt := 590) dL_law_585 (by decide) (fun _ => ?_) (fun h9 => absurd ((lg_cmp_eq _ _).mpr (hr hc)) h9)
    refine G_goto hΓ (tgt := 1081) dL_law_590 (by decide) ?_
    refine G_loc [2, 3, 4, 5, 6] rfl ?_
    exact kk
theorem law_bit {Γ : GX} {κ : Nat × Nat} {b N j : Nat} {xs : Nat → Int32} {w0 : Cond} {h : Int64} {s s' : CS} {v v' : Nat → Int32} {m m' : Nat → Nat → Int32} (hL : LW Γ b N xs w0) (hκ : κ.1 + 1 ≤ (gRm Γ).cells ∧ κ.2 + 6 ≤ (gRm Γ).slots) (hj : 5 * j + 5 ≤ N) (hs : Step_bit (xs (5 * j + 1)) s v m s' v' m') (kk : ∀ h', GG Γ (κ.1 + 1, κ.2 + 6) (SL h' s' v' m') 1081 [(4, .int (nI (5 * j))), (3, .ref (ya (gl Γ) 20 0)), (2, .ref (ya (gl Γ) 18 0)), (1, .ref (ya (gl Γ) 0 0)), (0, .ref b)] []) : GG Γ κ (SL h s v m) 537 [(4, .int (nI (5 * j))), (3, .ref (ya (gl Γ) 20 0)), (2, .ref (ya (gl Γ) 18 0)), (1, .ref (ya (gl Γ) 0 0)), (0, .ref b)] [] := by
  obtain ⟨r, hm, rfl, hx⟩ := hs
  rcases hx with ⟨hx, h0, rfl⟩ | ⟨rfl, ⟨hx, h0⟩⟩
  · exact law_bit_pre hL hκ hj (h_L_bit (gL Γ) hL.2.1 (gl Γ) hL.2.2.1 hL.2.2.2.2.1 (qM σ0 v m') s' h (xs (5 * j + 1)) hx) (law_bit_post (κ := (κ.1 + 1, κ.2 + 6)) hL hκ hj hm h0 (fun _ => rfl) (kk _))
  · exact law_bit_pre hL hκ hj (x_L_bit_5 (gL Γ) hL.2.1 (gl Γ) hL.2.2.1 hL.2.2.2.2.1 (qM σ0 v m') s' h (xs (5 * j + 1)) hx) (law_bit_post (κ := (κ.1 + 1, κ.2 + 6)) hL hκ hj hm h0 (fun h9 => absurd h9 (by decide)) (kk _))
/-- the call 'check' on both sides -/
def Step_check (p1 p2 p3 : Int32) (s : CS) (v : Nat → Int32) (m : Nat → Nat → Int32) (s' : CS) (v' : Nat → Int32) (m' : Nat → Nat → Int32) : Prop := ∃ r : Int32, f_X8_check_ v m p1 p2 p3 = some (v', r) ∧ m' = m ∧ ((f_X7_check s p1 p2 p3 = some (.inr (s', r)) ∧ v' 0 = 0) ∨ s' = s ∧ (f_X7_check s p1 p2 p3 = some (.inl 2) ∧ v' 0 = 1 ∨ f_X7_check s p1 p2 p3 = some (.inl 1) ∧ v' 0 = 2))
set_option maxHeartbeats 4000000 in
set_option maxRecDepth 100000 in
theorem law_check_pre {Γ : GX} {κ : Nat × Nat} {b N j : Nat} {xs : Nat → Int32} {w0 : Cond} {h h' : Int64} {s s' : CS} {v : Nat → Int32} {m : Nat → Nat → Int32} {c : Int32} (hL : LW Γ b N xs w0) (hκ : κ.1 + 1 ≤ (gRm Γ).cells ∧ κ.2 + 6 ≤ (gRm Γ).slots) (hj : 5 * j + 5 ≤ N) (hM : CH (gL Γ) yL_check (.codeWith yL_check cL_check 6 (some .int) [(0, 12, 15, 13), (0, 12, 19, 21)] :: TT) ({ frames := 8, cells := 1, slots := 6, locals := 146 }) (gl Γ) [.ref (ya (gl Γ) 0 0), .int (xs (5 * j + 1)), .int (xs (5 * j + 2)), .int (xs (5 * j + 3)), .ref (ya (gl Γ) 20 0)] (SL h s v m) (SL h' s' v m) (some (.int c))) (kk : GG Γ (κ.1 + 1, κ.2 + 6) (SL h' s' v m) 618 [(5, .int c), (4, .int (nI (5 * j))), (3, .ref (ya (gl Γ) 20 0)), (2, .ref (ya (gl Γ) 18 0)), (1, .ref (ya (gl Γ) 0 0)), (0, .ref b)] []) : GG Γ κ (SL h s v m) 593 [(4, .int (nI (5 * j))), (3, .ref (ya (gl Γ) 20 0)), (2, .ref (ya (gl Γ) 18 0)), (1, .ref (ya (gl Γ) 0 0)), (0, .ref b)] [] := by
  have hΓ := hL.1
  refine G_aload_n hΓ 3 dL_law_593 rfl ?_
  refine G_aload_n hΓ 4 dL_law_594 rfl ?_
  refine G_iload hΓ 0 dL_law_595 rfl ?_
  refine G_iconst (v := 1) hΓ dL_law_597 (by decide) ?_
  refine G_iadd hΓ dL_law_598 ?_
  refine S_ld hL (k := 1) (by decide) (by omega) dL_law_599 ?_
  refine G_aload_n hΓ 4 dL_law_600 rfl ?_
  refine G_iload hΓ 0 dL_law_601 rfl ?_
  refine G_iconst (v := 2) hΓ dL_law_603 (by decide) ?_
  refine G_iadd hΓ dL_law_604 ?_
  refine S_ld hL (k := 2) (by decide) (by omega) dL_law_605 ?_
  refine G_aload_n hΓ 4 dL_law_606 rfl ?_
  refine G_iload hΓ 0 dL_law_607 rfl ?_
  refine G_iconst (v := 3) hΓ dL_law_609 (by decide) ?_
  refine G_iadd hΓ dL_law_610 ?_
  refine S_ld hL (k := 3) (by decide) (by omega) dL_law_611 ?_
  refine G_aload_n hΓ 1 dL_law_612 rfl ?_
  refine G_callH hL (n := 5) (As := [.ref (ya (gl Γ) 0 0), .int (xs (5 * j + 1)), .int (xs (5 * j + 2)), .int (xs (5 * j + 3)), .ref (ya (gl Γ) 20 0)]) hM kw_800 kw_801 kw_0 kw_802 ⟨by decide, by decide, by decide +kernel⟩ rfl rfl ⟨Nat.le_of_ble_eq_true rfl, Nat.le_of_ble_eq_true rfl⟩ rfl (Nat.le_of_ble_eq_true rfl) dL_law_613 hκ ?_
  exact G_istore hΓ [(5, .int c), (4, .int (nI (5 * j))), (3, .ref (ya (gl Γ) 20 0)), (2, .ref (ya (gl Γ) 18 0)), (1, .ref (ya (gl Γ) 0 0)), (0, .ref b)] dL_law_616 (by decide) rfl kk
set_option maxHeartbeats 4000000 in
set_option maxRecDepth 100000 in
theorem law_check_post {Γ : GX} {κ : Nat × Nat} {b N j : Nat} {xs : Nat → Int32} {w0 : Cond} {h' : Int64} {s' : CS} {v v' : Nat → Int32} {m : Nat → Nat → Int32} {c r : Int32} (hL : LW Γ b N xs w0) (hκ : κ.1 ≤ (gRm Γ).cells ∧ κ.2 ≤ (gRm Γ).slots) (hj : 5 * j + 5 ≤ N) (hm : f_X8_check_ v m (xs (5 * j + 1)) (xs (5 * j + 2)) (xs (5 * j + 3)) = some (v', r)) (h0 : v' 0 = c) (hr : c = 0 → h' = r.toInt64) (kk : GG Γ κ (SL h' s' v' m) 1081 [(4, .int (nI (5 * j))), (3, .ref (ya (gl Γ) 20 0)), (2, .ref (ya (gl Γ) 18 0)), (1, .ref (ya (gl Γ) 0 0)), (0, .ref b)] []) : GG Γ κ (SL h' s' v m) 618 [(5, .int c), (4, .int (nI (5 * j))), (3, .ref (ya (gl Γ) 20 0)), (2, .ref (ya (gl Γ) 18 0)), (1, .ref (ya (gl Γ) 0 0)), (0, .ref b)] [] := by
  have hΓ := hL.1
  have hFM := hL.2.2.2.1
  have hκ1 := hκ.1
  have hκ2 := hκ.2
  refine G_aload_n hΓ 3 dL_law_618 rfl ?_
  refine G_aload_n hΓ 5 dL_law_619 rfl ?_
  refine G_iload hΓ 1 dL_law_620 rfl ?_
  refine G_iconst (v := 1) hΓ dL_law_622 (by decide) ?_
  refine G_iadd hΓ dL_law_623 ?_
  refine S_ld hL (k := 1) (by decide) (by omega) dL_law_624 ?_
  refine G_aload_n hΓ 5 dL_law_625 rfl ?_
  refine G_iload hΓ 1 dL_law_626 rfl ?_
  refine G_iconst (v := 2) hΓ dL_law_628 (by decide) ?_
  refine G_iadd hΓ dL_law_629 ?_
  refine S_ld hL (k := 2) (by decide) (by omega) dL_law_630 ?_
  refine G_aload_n hΓ 5 dL_law_631 rfl ?_
  refine G_iload hΓ 1 dL_law_632 rfl ?_
  refine G_iconst (v := 3) hΓ dL_law_634 (by decide) ?_
  refine G_iadd hΓ dL_law_635 ?_
  refine S_ld hL (k := 3) (by decide) (by omega) dL_law_636 ?_
  refine G_callVk hΓ (n := 3) (As := [.int (xs (5 * j + 1)), .int (xs (5 * j + 2)), .int (xs (5 * j + 3))]) (t := 18) (i := 0) (ci := 11) (T := TX8) (N := 47) (FS := fs8 (gl Γ) 0) (σ' := SL h' s' v' m) (c_X8_check_ (gL Γ) (gl Γ) hFM (SL h' s' v m) v m (xs (5 * j + 1)) (xs (5 * j + 2)) (xs (5 * j + 3)) hm) SL_M SL_M kw_1193 kw_1194 kw_1195 kw_9 kw_1196 ⟨rfl, by decide, by decide, by decide +kernel⟩ (by rw [hFM 18 (Or.inl rfl)]; decide) (fun _ _ _ => rfl) rfl rfl rfl ⟨Nat.le_of_ble_eq_true rfl, Nat.le_of_ble_eq_true rfl⟩ rfl (Nat.le_of_ble_eq_true rfl) dL_law_637 ⟨_, rfl⟩ ⟨by show _ ≤ _; omega, by show _ ≤ _; omega⟩ ?_
  refine G_istore hΓ [(6, .int r), (5, .int c), (4, .int (nI (5 * j))), (3, .ref (ya (gl Γ) 20 0)), (2, .ref (ya (gl Γ) 18 0)), (1, .ref (ya (gl Γ) 0 0)), (0, .ref b)] dL_law_640 (by decide) rfl ?_
  refine G_aload_n hΓ 4 dL_law_642 rfl ?_
  refine G_callVk hΓ (n := 0) (As := []) (t := 18) (i := 0) (ci := 11) (T := TX8) (N := 47) (FS := fs8 (gl Γ) 0) (σ' := SL h' s' v' m) (c_X8_thrown (gL Γ) (gl Γ) hFM (SL h' s' v' m) v' m  rfl) SL_M SL_M kw_1023 kw_1024 kw_1025 kw_9 kw_1026 ⟨rfl, by decide, by decide, by decide +kernel⟩ (by rw [hFM 18 (Or.inl rfl)]; decide) (fun _ _ _ => rfl) rfl rfl rfl ⟨Nat.le_of_ble_eq_true rfl, Nat.le_of_ble_eq_true rfl⟩ rfl (Nat.le_of_ble_eq_true rfl) dL_law_643 ⟨_, rfl⟩ ⟨by show _ ≤ _; omega, by show _ ≤ _; omega⟩ ?_
  refine G_iload hΓ 1 dL_law_646 rfl ?_
  refine G_icmp_eq hΓ (tgt := 653) dL_law_648 (by decide) (fun _ => ?_) (fun hc => absurd h0 hc)
  refine G_iload hΓ 1 dL_law_653 rfl ?_
  refine G_if_ne hΓ (tgt := 670) dL_law_655 (by decide) (fun _ => ?_) (fun hc => ?_)
  · refine G_goto hΓ (tgt := 1081) dL_law_670 (by decide) ?_
    refine G_loc [2, 3, 4, 5, 6] rfl ?_
    exact kk
  · refine G_aload_n hΓ 3 dL_law_658 rfl ?_
    refine G_iconst (v := 0) hΓ dL_law_659 (by decide) ?_
    refine F_outr hL (h := h') rfl dL_law_660 ?_
    refine G_iload hΓ 0 dL_law_661 rfl ?_
    refine G_i2l hΓ dL_law_663 ?_
    refine G_lcmp hΓ dL_law_664 ?_
    refine G_if_eq hΓ (tgt := 670) dL_law_665 (by decide) (fun _ => ?_) (fun h9 => absurd ((lg_cmp_eq _ _).mpr (hr hc)) h9)
    refine G_goto hΓ (tgt := 1081) dL_law_670 (by decide) ?_
    refine G_loc [2, 3, 4, 5, 6] rfl ?_
    exact kk
theorem law_check {Γ : GX} {κ : Nat × Nat} {b N j : Nat} {xs : Nat → Int32} {w0 : Cond} {h : Int64} {s s' : CS} {v v' : Nat → Int32} {m m' : Nat → Nat → Int32} (hL : LW Γ b N xs w0) (hκ : κ.1 + 1 ≤ (gRm Γ).cells ∧ κ.2 + 6 ≤ (gRm Γ).slots) (hj : 5 * j + 5 ≤ N) (hs : Step_check (xs (5 * j + 1)) (xs (5 * j + 2)) (xs (5 * j + 3)) s v m s' v' m') (kk : ∀ h', GG Γ (κ.1 + 1, κ.2 + 6) (SL h' s' v' m') 1081 [(4, .int (nI (5 * j))), (3, .ref (ya (gl Γ) 20 0)), (2, .ref (ya (gl Γ) 18 0)), (1, .ref (ya (gl Γ) 0 0)), (0, .ref b)] []) : GG Γ κ (SL h s v m) 593 [(4, .int (nI (5 * j))), (3, .ref (ya (gl Γ) 20 0)), (2, .ref (ya (gl Γ) 18 0)), (1, .ref (ya (gl Γ) 0 0)), (0, .ref b)] [] := by
  obtain ⟨r, hm, rfl, hx⟩ := hs
  rcases hx with ⟨hx, h0⟩ | ⟨rfl, (⟨hx, h0⟩ | ⟨hx, h0⟩)⟩
  · exact law_check_pre hL hκ hj (h_L_check (gL Γ) hL.2.1 (gl Γ) hL.2.2.1 hL.2.2.2.2.1 (qM σ0 v m') s h (xs (5 * j + 1)) (xs (5 * j + 2)) (xs (5 * j + 3)) hx) (law_check_post (κ := (κ.1 + 1, κ.2 + 6)) hL hκ hj hm h0 (fun _ => rfl) (kk _))
  · exact law_check_pre hL hκ hj (x_L_check_2 (gL Γ) hL.2.1 (gl Γ) hL.2.2.1 hL.2.2.2.2.1 (qM σ0 v m') s' h (xs (5 * j + 1)) (xs (5 * j + 2)) (xs (5 * j + 3)) hx) (law_check_post (κ := (κ.1 + 1, κ.2 + 6)) hL hκ hj hm h0 (fun h9 => absurd h9 (by decide)) (kk _))
  · exact law_check_pre hL hκ hj (x_L_check_1 (gL Γ) hL.2.1 (gl Γ) hL.2.2.1 hL.2.2.2.2.1 (qM σ0 v m') s' h (xs (5 * j + 1)) (xs (5 * j + 2)) (xs (5 * j + 3)) hx) (law_check_post (κ := (κ.1 + 1, κ.2 + 6)) hL hκ hj hm h0 (fun h9 => absurd h9 (by decide)) (kk _))
/-- the call 'state' on both sides -/
def Step_state (p1 : Int32) (s : CS) (v : Nat → Int32) (m : Nat → Nat → Int32) (s' : CS) (v' : Nat → Int32) (m' : Nat → Nat → Int32) : Prop := ∃ r : Int32, f_X8_state v m p1 = some (v', r) ∧ m' = m ∧ ((f_X7_state s p1 = some (.inr r) ∧ v' 0 = 0 ∧ s' = s) ∨ s' = s ∧ (f_X7_state s p1 = some (.inl 1) ∧ v' 0 = 1))
set_option maxHeartbeats 4000000 in
set_option maxRecDepth 100000 in
theorem law_state_pre {Γ : GX} {κ : Nat × Nat} {b N j : Nat} {xs : Nat → Int32} {w0 : Cond} {h h' : Int64} {s s' : CS} {v : Nat → Int32} {m : Nat → Nat → Int32} {c : Int32} (hL : LW Γ b N xs w0) (hκ : κ.1 + 1 ≤ (gRm Γ).cells ∧ κ.2 + 6 ≤ (gRm Γ).slots) (hj : 5 * j + 5 ≤ N) (hM : CH (gL Γ) yL_state (.codeWith yL_state cL_state 4 (some .int) [(0, 9, 12, 21)] :: TT) ({ frames := 9, cells := 1, slots := 6, locals := 162 }) (gl Γ) [.ref (ya (gl Γ) 0 0), .int (xs (5 * j + 1)), .ref (ya (gl Γ) 20 0)] (SL h s v m) (SL h' s' v m) (some (.int c))) (kk : GG Γ (κ.1 + 1, κ.2 + 6) (SL h' s' v m) 686 [(5, .int c), (4, .int (nI (5 * j))), (3, .ref (ya (gl Γ) 20 0)), (2, .ref (ya (gl Γ) 18 0)), (1, .ref (ya (gl Γ) 0 0)), (0, .ref b)] []) : GG Γ κ (SL h s v m) 673 [(4, .int (nI (5 * j))), (3, .ref (ya (gl Γ) 20 0)), (2, .ref (ya (gl Γ) 18 0)), (1, .ref (ya (gl Γ) 0 0)), (0, .ref b)] [] := by
  have hΓ := hL.1
  refine G_aload_n hΓ 3 dL_law_673 rfl ?_
  refine G_aload_n hΓ 4 dL_law_674 rfl ?_
  refine G_iload hΓ 0 dL_law_675 rfl ?_
  refine G_iconst (v := 1) hΓ dL_law_677 (by decide) ?_
  refine G_iadd hΓ dL_law_678 ?_
  refine S_ld hL (k := 1) (by decide) (by omega) dL_law_679 ?_
  refine G_aload_n hΓ 1 dL_law_680 rfl ?_
  refine G_callH hL (n := 3) (As := [.ref (ya (gl Γ) 0 0), .int (xs (5 * j + 1)), .ref (ya (gl Γ) 20 0)]) hM kw_811 kw_812 kw_0 kw_813 ⟨by decide, by decide, by decide +kernel⟩ rfl rfl ⟨Nat.le_of_ble_eq_true rfl, Nat.le_of_ble_eq_true rfl⟩ rfl (Nat.le_of_ble_eq_true rfl) dL_law_681 hκ ?_
  exact G_istore hΓ [(5, .int c), (4, .int (nI (5 * j))), (3, .ref (ya (gl Γ) 20 0)), (2, .ref (ya (gl Γ) 18 0)), (1, .ref (ya (gl Γ) 0 0)), (0, .ref b)] dL_law_684 (by decide) rfl kk
set_option maxHeartbeats 4000000 in
set_option maxRecDepth 100000 in
theorem law_state_post {Γ : GX} {κ : Nat × Nat} {b N j : Nat} {xs : Nat → Int32} {w0 : Cond} {h' : Int64} {s' : CS} {v v' : Nat → Int32} {m : Nat → Nat → Int32} {c r : Int32} (hL : LW Γ b N xs w0) (hκ : κ.1 ≤ (gRm Γ).cells ∧ κ.2 ≤ (gRm Γ).slots) (hj : 5 * j + 5 ≤ N) (hm : f_X8_state v m (xs (5 * j + 1)) = some (v', r)) (h0 : v' 0 = c) (hr : c = 0 → h' = r.toInt64) (kk : GG Γ κ (SL h' s' v' m) 1081 [(4, .int (nI (5 * j))), (3, .ref (ya (gl Γ) 20 0)), (2, .ref (ya (gl Γ) 18 0)), (1, .ref (ya (gl Γ) 0 0)), (0, .ref b)] []) : GG Γ κ (SL h' s' v m) 686 [(5, .int c), (4, .int (nI (5 * j))), (3, .ref (ya (gl Γ) 20 0)), (2, .ref (ya (gl Γ) 18 0)), (1, .ref (ya (gl Γ) 0 0)), (0, .ref b)] [] := by
  have hΓ := hL.1
  have hFM := hL.2.2.2.1
  have hκ1 := hκ.1
  have hκ2 := hκ.2
  refine G_aload_n hΓ 3 dL_law_686 rfl ?_
  refine G_aload_n hΓ 5 dL_law_687 rfl ?_
  refine G_iload hΓ 1 dL_law_688 rfl ?_
  refine G_iconst (v := 1) hΓ dL_law_690 (by decide) ?_
  refine G_iadd hΓ dL_law_691 ?_
  refine S_ld hL (k := 1) (by decide) (by omega) dL_law_692 ?_
  refine G_callVk hΓ (n := 1) (As := [.int (xs (5 * j + 1))]) (t := 18) (i := 0) (ci := 11) (T := TX8) (N := 47) (FS := fs8 (gl Γ) 0) (σ' := SL h' s' v' m) (c_X8_state (gL Γ) (gl Γ) hFM (SL h' s' v m) v m (xs (5 * j + 1)) hm) SL_M SL_M kw_1197 kw_1198 kw_1199 kw_9 kw_1200 ⟨rfl, by decide, by decide, by decide +kernel⟩ (by rw [hFM 18 (Or.inl rfl)]; decide) (fun _ _ _ => rfl) rfl rfl rfl ⟨Nat.le_of_ble_eq_true rfl, Nat.le_of_ble_eq_true rfl⟩ rfl (Nat.le_of_ble_eq_true rfl) dL_law_693 ⟨_, rfl⟩ ⟨by show _ ≤ _; omega, by show _ ≤ _; omega⟩ ?_
  refine G_istore hΓ [(6, .int r), (5, .int c), (4, .int (nI (5 * j))), (3, .ref (ya (gl Γ) 20 0)), (2, .ref (ya (gl Γ) 18 0)), (1, .ref (ya (gl Γ) 0 0)), (0, .ref b)] dL_law_696 (by decide) rfl ?_
  refine G_aload_n hΓ 4 dL_law_698 rfl ?_
  refine G_callVk hΓ (n := 0) (As := []) (t := 18) (i := 0) (ci := 11) (T := TX8) (N := 47) (FS := fs8 (gl Γ) 0) (σ' := SL h' s' v' m) (c_X8_thrown (gL Γ) (gl Γ) hFM (SL h' s' v' m) v' m  rfl) SL_M SL_M kw_1023 kw_1024 kw_1025 kw_9 kw_1026 ⟨rfl, by decide, by decide, by decide +kernel⟩ (by rw [hFM 18 (Or.inl rfl)]; decide) (fun _ _ _ => rfl) rfl rfl rfl ⟨Nat.le_of_ble_eq_true rfl, Nat.le_of_ble_eq_true rfl⟩ rfl (Nat.le_of_ble_eq_true rfl) dL_law_699 ⟨_, rfl⟩ ⟨by show _ ≤ _; omega, by show _ ≤ _; omega⟩ ?_
  refine G_iload hΓ 1 dL_law_702 rfl ?_
  refine G_icmp_eq hΓ (tgt := 709) dL_law_704 (by decide) (fun _ => ?_) (fun hc => absurd h0 hc)
  refine G_iload hΓ 1 dL_law_709 rfl ?_
  refine G_if_ne hΓ (tgt := 726) dL_law_711 (by decide) (fun _ => ?_) (fun hc => ?_)
  · refine G_goto hΓ (tgt := 1081) dL_law_726 (by decide) ?_
    refine G_loc [2, 3, 4, 5, 6] rfl ?_
    exact kk
  · refine G_aload_n hΓ 3 dL_law_714 rfl ?_
    refine G_iconst (v := 0) hΓ dL_law_715 (by decide) ?_
    refine F_outr hL (h := h') rfl dL_law_716 ?_
    refine G_iload hΓ 0 dL_law_717 rfl ?_
    refine G_i2l hΓ dL_law_719 ?_
    refine G_lcmp hΓ dL_law_720 ?_
    refine G_if_eq hΓ (tgt := 726) dL_law_721 (by decide) (fun _ => ?_) (fun h9 => absurd ((lg_cmp_eq _ _).mpr (hr hc)) h9)
    refine G_goto hΓ (tgt := 1081) dL_law_726 (by decide) ?_
    refine G_loc [2, 3, 4, 5, 6] rfl ?_
    exact kk
theorem law_state {Γ : GX} {κ : Nat × Nat} {b N j : Nat} {xs : Nat → Int32} {w0 : Cond} {h : Int64} {s s' : CS} {v v' : Nat → Int32} {m m' : Nat → Nat → Int32} (hL : LW Γ b N xs w0) (hκ : κ.1 + 1 ≤ (gRm Γ).cells ∧ κ.2 + 6 ≤ (gRm Γ).slots) (hj : 5 * j + 5 ≤ N) (hs : Step_state (xs (5 * j + 1)) s v m s' v' m') (kk : ∀ h', GG Γ (κ.1 + 1, κ.2 + 6) (SL h' s' v' m') 1081 [(4, .int (nI (5 * j))), (3, .ref (ya (gl Γ) 20 0)), (2, .ref (ya (gl Γ) 18 0)), (1, .ref (ya (gl Γ) 0 0)), (0, .ref b)] []) : GG Γ κ (SL h s v m) 673 [(4, .int (nI (5 * j))), (3, .ref (ya (gl Γ) 20 0)), (2, .ref (ya (gl Γ) 18 0)), (1, .ref (ya (gl Γ) 0 0)), (0, .ref b)] [] := by
  obtain ⟨r, hm, rfl, hx⟩ := hs
  rcases hx with ⟨hx, h0, rfl⟩ | ⟨rfl, ⟨hx, h0⟩⟩
  · exact law_state_pre hL hκ hj (h_L_state (gL Γ) hL.2.1 (gl Γ) hL.2.2.1 hL.2.2.2.2.1 (qM σ0 v m') s' h (xs (5 * j + 1)) hx) (law_state_post (κ := (κ.1 + 1, κ.2 + 6)) hL hκ hj hm h0 (fun _ => rfl) (kk _))
  · exact law_state_pre hL hκ hj (x_L_state_1 (gL Γ) hL.2.1 (gl Γ) hL.2.2.1 hL.2.2.2.2.1 (qM σ0 v m') s' h (xs (5 * j + 1)) hx) (law_state_post (κ := (κ.1 + 1, κ.2 + 6)) hL hκ hj hm h0 (fun h9 => absurd h9 (by decide)) (kk _))
/-- the call 'waiting' on both sides -/
def Step_waiting (p1 : Int32) (s : CS) (v : Nat → Int32) (m : Nat → Nat → Int32) (s' : CS) (v' : Nat → Int32) (m' : Nat → Nat → Int32) : Prop := ∃ r : Int32, f_X8_waiting v m p1 = some (v', r) ∧ m' = m ∧ ((f_X7_waiting s p1 = some (.inr r) ∧ v' 0 = 0 ∧ s' = s) ∨ s' = s ∧ (f_X7_waiting s p1 = some (.inl 1) ∧ v' 0 = 1))
set_option maxHeartbeats 4000000 in
set_option maxRecDepth 100000 in
theorem law_waiting_pre {Γ : GX} {κ : Nat × Nat} {b N j : Nat} {xs : Nat → Int32} {w0 : Cond} {h h' : Int64} {s s' : CS} {v : Nat → Int32} {m : Nat → Nat → Int32} {c : Int32} (hL : LW Γ b N xs w0) (hκ : κ.1 + 1 ≤ (gRm Γ).cells ∧ κ.2 + 6 ≤ (gRm Γ).slots) (hj : 5 * j + 5 ≤ N) (hM : CH (gL Γ) yL_waiting (.codeWith yL_waiting cL_waiting 4 (some .int) [(0, 9, 12, 21)] :: TT) ({ frames := 9, cells := 1, slots := 6, locals := 162 }) (gl Γ) [.ref (ya (gl Γ) 0 0), .int (xs (5 * j + 1)), .ref (ya (gl Γ) 20 0)] (SL h s v m) (SL h' s' v m) (some (.int c))) (kk : GG Γ (κ.1 + 1, κ.2 + 6) (SL h' s' v m) 742 [(5, .int c), (4, .int (nI (5 * j))), (3, .ref (ya (gl Γ) 20 0)), (2, .ref (ya (gl Γ) 18 0)), (1, .ref (ya (gl Γ) 0 0)), (0, .ref b)] []) : GG Γ κ (SL h s v m) 729 [(4, .int (nI (5 * j))), (3, .ref (ya (gl Γ) 20 0)), (2, .ref (ya (gl Γ) 18 0)), (1, .ref (ya (gl Γ) 0 0)), (0, .ref b)] [] := by
  have hΓ := hL.1
  refine G_aload_n hΓ 3 dL_law_729 rfl ?_
  refine G_aload_n hΓ 4 dL_law_730 rfl ?_
  refine G_iload hΓ 0 dL_law_731 rfl ?_
  refine G_iconst (v := 1) hΓ dL_law_733 (by decide) ?_
  refine G_iadd hΓ dL_law_734 ?_
  refine S_ld hL (k := 1) (by decide) (by omega) dL_law_735 ?_
  refine G_aload_n hΓ 1 dL_law_736 rfl ?_
  refine G_callH hL (n := 3) (As := [.ref (ya (gl Γ) 0 0), .int (xs (5 * j + 1)), .ref (ya (gl Γ) 20 0)]) hM kw_818 kw_819 kw_0 kw_820 ⟨by decide, by decide, by decide +kernel⟩ rfl rfl ⟨Nat.le_of_ble_eq_true rfl, Nat.le_of_ble_eq_true rfl⟩ rfl (Nat.le_of_ble_eq_true rfl) dL_law_737 hκ ?_
  exact G_istore hΓ [(5, .int c), (4, .int (nI (5 * j))), (3, .ref (ya (gl Γ) 20 0)), (2, .ref (ya (gl Γ) 18 0)), (1, .ref (ya (gl Γ) 0 0)), (0, .ref b)] dL_law_740 (by decide) rfl kk
set_option maxHeartbeats 4000000 in
set_option maxRecDepth 100000 in
theorem law_waiting_post {Γ : GX} {κ : Nat × Nat} {b N j : Nat} {xs : Nat → Int32} {w0 : Cond} {h' : Int64} {s' : CS} {v v' : Nat → Int32} {m : Nat → Nat → Int32} {c r : Int32} (hL : LW Γ b N xs w0) (hκ : κ.1 ≤ (gRm Γ).cells ∧ κ.2 ≤ (gRm Γ).slots) (hj : 5 * j + 5 ≤ N) (hm : f_X8_waiting v m (xs (5 * j + 1)) = some (v', r)) (h0 : v' 0 = c) (hr : c = 0 → h' = r.toInt64) (kk : GG Γ κ (SL h' s' v' m) 1081 [(4, .int (nI (5 * j))), (3, .ref (ya (gl Γ) 20 0)), (2, .ref (ya (gl Γ) 18 0)), (1, .ref (ya (gl Γ) 0 0)), (0, .ref b)] []) : GG Γ κ (SL h' s' v m) 742 [(5, .int c), (4, .int (nI (5 * j))), (3, .ref (ya (gl Γ) 20 0)), (2, .ref (ya (gl Γ) 18 0)), (1, .ref (ya (gl Γ) 0 0)), (0, .ref b)] [] := by
  have hΓ := hL.1
  have hFM := hL.2.2.2.1
  have hκ1 := hκ.1
  have hκ2 := hκ.2
  refine G_aload_n hΓ 3 dL_law_742 rfl ?_
  refine G_aload_n hΓ 5 dL_law_743 rfl ?_
  refine G_iload hΓ 1 dL_law_744 rfl ?_
  refine G_iconst (v := 1) hΓ dL_law_746 (by decide) ?_
  refine G_iadd hΓ dL_law_747 ?_
  refine S_ld hL (k := 1) (by decide) (by omega) dL_law_748 ?_
  refine G_callVk hΓ (n := 1) (As := [.int (xs (5 * j + 1))]) (t := 18) (i := 0) (ci := 11) (T := TX8) (N := 47) (FS := fs8 (gl Γ) 0) (σ' := SL h' s' v' m) (c_X8_waiting (gL Γ) (gl Γ) hFM (SL h' s' v m) v m (xs (5 * j + 1)) hm) SL_M SL_M kw_1096 kw_1097 kw_1098 kw_9 kw_1099 ⟨rfl, by decide, by decide, by decide +kernel⟩ (by rw [hFM 18 (Or.inl rfl)]; decide) (fun _ _ _ => rfl) rfl rfl rfl ⟨Nat.le_of_ble_eq_true rfl, Nat.le_of_ble_eq_true rfl⟩ rfl (Nat.le_of_ble_eq_true rfl) dL_law_749 ⟨_, rfl⟩ ⟨by show _ ≤ _; omega, by show _ ≤ _; omega⟩ ?_
  refine G_istore hΓ [(6, .int r), (5, .int c), (4, .int (nI (5 * j))), (3, .ref (ya (gl Γ) 20 0)), (2, .ref (ya (gl Γ) 18 0)), (1, .ref (ya (gl Γ) 0 0)), (0, .ref b)] dL_law_752 (by decide) rfl ?_
  refine G_aload_n hΓ 4 dL_law_754 rfl ?_
  refine G_callVk hΓ (n := 0) (As := []) (t := 18) (i := 0) (ci := 11) (T := TX8) (N := 47) (FS := fs8 (gl Γ) 0) (σ' := SL h' s' v' m) (c_X8_thrown (gL Γ) (gl Γ) hFM (SL h' s' v' m) v' m  rfl) SL_M SL_M kw_1023 kw_1024 kw_1025 kw_9 kw_1026 ⟨rfl, by decide, by decide, by decide +kernel⟩ (by rw [hFM 18 (Or.inl rfl)]; decide) (fun _ _ _ => rfl) rfl rfl rfl ⟨Nat.le_of_ble_eq_true rfl, Nat.le_of_ble_eq_true rfl⟩ rfl (Nat.le_of_ble_eq_true rfl) dL_law_755 ⟨_, rfl⟩ ⟨by show _ ≤ _; omega, by show _ ≤ _; omega⟩ ?_
  refine G_iload hΓ 1 dL_law_758 rfl ?_
  refine G_icmp_eq hΓ (tgt := 765) dL_law_760 (by decide) (fun _ => ?_) (fun hc => absurd h0 hc)
  refine G_iload hΓ 1 dL_law_765 rfl ?_
  refine G_if_ne hΓ (tgt := 782) dL_law_767 (by decide) (fun _ => ?_) (fun hc => ?_)
  · refine G_goto hΓ (tgt := 1081) dL_law_782 (by decide) ?_
    refine G_loc [2, 3, 4, 5, 6] rfl ?_
    exact kk
  · refine G_aload_n hΓ 3 dL_law_770 rfl ?_
    refine G_iconst (v := 0) hΓ dL_law_771 (by decide) ?_
    refine F_outr hL (h := h') rfl dL_law_772 ?_
    refine G_iload hΓ 0 dL_law_773 rfl ?_
    refine G_i2l hΓ dL_law_775 ?_
    refine G_lcmp hΓ dL_law_776 ?_
    refine G_if_eq hΓ (tgt := 782) dL_law_777 (by decide) (fun _ => ?_) (fun h9 => absurd ((lg_cmp_eq _ _).mpr (hr hc)) h9)
    refine G_goto hΓ (tgt := 1081) dL_law_782 (by decide) ?_
    refine G_loc [2, 3, 4, 5, 6] rfl ?_
    exact kk
theorem law_waiting {Γ : GX} {κ : Nat × Nat} {b N j : Nat} {xs : Nat → Int32} {w0 : Cond} {h : Int64} {s s' : CS} {v v' : Nat → Int32} {m m' : Nat → Nat → Int32} (hL : LW Γ b N xs w0) (hκ : κ.1 + 1 ≤ (gRm Γ).cells ∧ κ.2 + 6 ≤ (gRm Γ).slots) (hj : 5 * j + 5 ≤ N) (hs : Step_waiting (xs (5 * j + 1)) s v m s' v' m') (kk : ∀ h', GG Γ (κ.1 + 1, κ.2 + 6) (SL h' s' v' m') 1081 [(4, .int (nI (5 * j))), (3, .ref (ya (gl Γ) 20 0)), (2, .ref (ya (gl Γ) 18 0)), (1, .ref (ya (gl Γ) 0 0)), (0, .ref b)] []) : GG Γ κ (SL h s v m) 729 [(4, .int (nI (5 * j))), (3, .ref (ya (gl Γ) 20 0)), (2, .ref (ya (gl Γ) 18 0)), (1, .ref (ya (gl Γ) 0 0)), (0, .ref b)] [] := by
  obtain ⟨r, hm, rfl, hx⟩ := hs
  rcases hx with ⟨hx, h0, rfl⟩ | ⟨rfl, ⟨hx, h0⟩⟩
  · exact law_waiting_pre hL hκ hj (h_L_waiting (gL Γ) hL.2.1 (gl Γ) hL.2.2.1 hL.2.2.2.2.1 (qM σ0 v m') s' h (xs (5 * j + 1)) hx) (law_waiting_post (κ := (κ.1 + 1, κ.2 + 6)) hL hκ hj hm h0 (fun _ => rfl) (kk _))
  · exact law_waiting_pre hL hκ hj (x_L_waiting_1 (gL Γ) hL.2.1 (gl Γ) hL.2.2.1 hL.2.2.2.2.1 (qM σ0 v m') s' h (xs (5 * j + 1)) hx) (law_waiting_post (κ := (κ.1 + 1, κ.2 + 6)) hL hκ hj hm h0 (fun h9 => absurd h9 (by decide)) (kk _))
/-- the call 'done' on both sides -/
def Step_done (p1 p2 : Int32) (s : CS) (v : Nat → Int32) (m : Nat → Nat → Int32) (s' : CS) (v' : Nat → Int32) (m' : Nat → Nat → Int32) : Prop := ∃ r : Int32, f_X8_done v m p1 p2 = some (v', r) ∧ m' = m ∧ ((f_X7_done s p1 p2 = some (.inr r) ∧ v' 0 = 0 ∧ s' = s) ∨ s' = s ∧ (f_X7_done s p1 p2 = some (.inl 1) ∧ v' 0 = 1 ∨ f_X7_done s p1 p2 = some (.inl 2) ∧ v' 0 = 2))
set_option maxHeartbeats 4000000 in
set_option maxRecDepth 100000 in
theorem law_done_pre {Γ : GX} {κ : Nat × Nat} {b N j : Nat} {xs : Nat → Int32} {w0 : Cond} {h h' : Int64} {s s' : CS} {v : Nat → Int32} {m : Nat → Nat → Int32} {c : Int32} (hL : LW Γ b N xs w0) (hκ : κ.1 + 1 ≤ (gRm Γ).cells ∧ κ.2 + 6 ≤ (gRm Γ).slots) (hj : 5 * j + 5 ≤ N) (hM : CH (gL Γ) yL_done (.codeWith yL_done cL_done 5 (some .int) [(0, 10, 13, 21), (0, 10, 17, 13)] :: TT) ({ frames := 9, cells := 1, slots := 6, locals := 163 }) (gl Γ) [.ref (ya (gl Γ) 0 0), .int (xs (5 * j + 1)), .int (xs (5 * j + 2)), .ref (ya (gl Γ) 20 0)] (SL h s v m) (SL h' s' v m) (some (.int c))) (kk : GG Γ (κ.1 + 1, κ.2 + 6) (SL h' s' v m) 804 [(5, .int c), (4, .int (nI (5 * j))), (3, .ref (ya (gl Γ) 20 0)), (2, .ref (ya (gl Γ) 18 0)), (1, .ref (ya (gl Γ) 0 0)), (0, .ref b)] []) : GG Γ κ (SL h s v m) 785 [(4, .int (nI (5 * j))), (3, .ref (ya (gl Γ) 20 0)), (2, .ref (ya (gl Γ) 18 0)), (1, .ref (ya (gl Γ) 0 0)), (0, .ref b)] [] := by
  have hΓ := hL.1
  refine G_aload_n hΓ 3 dL_law_785 rfl ?_
  refine G_aload_n hΓ 4 dL_law_786 rfl ?_
  refine G_iload hΓ 0 dL_law_787 rfl ?_
  refine G_iconst (v := 1) hΓ dL_law_789 (by decide) ?_
  refine G_iadd hΓ dL_law_790 ?_
  refine S_ld hL (k := 1) (by decide) (by omega) dL_law_791 ?_
  refine G_aload_n hΓ 4 dL_law_792 rfl ?_
  refine G_iload hΓ 0 dL_law_793 rfl ?_
  refine G_iconst (v := 2) hΓ dL_law_795 (by decide) ?_
  refine G_iadd hΓ dL_law_796 ?_
  refine S_ld hL (k := 2) (by decide) (by omega) dL_law_797 ?_
  refine G_aload_n hΓ 1 dL_law_798 rfl ?_
  refine G_callH hL (n := 4) (As := [.ref (ya (gl Γ) 0 0), .int (xs (5 * j + 1)), .int (xs (5 * j + 2)), .ref (ya (gl Γ) 20 0)]) hM kw_825 kw_826 kw_0 kw_827 ⟨by decide, by decide, by decide +kernel⟩ rfl rfl ⟨Nat.le_of_ble_eq_true rfl, Nat.le_of_ble_eq_true rfl⟩ rfl (Nat.le_of_ble_eq_true rfl) dL_law_799 hκ ?_
  exact G_istore hΓ [(5, .int c), (4, .int (nI (5 * j))), (3, .ref (ya (gl Γ) 20 0)), (2, .ref (ya (gl Γ) 18 0)), (1, .ref (ya (gl Γ) 0 0)), (0, .ref b)] dL_law_802 (by decide) rfl kk
set_option maxHeartbeats 4000000 in
set_option maxRecDepth 100000 in
theorem law_done_post {Γ : GX} {κ : Nat × Nat} {b N j : Nat} {xs : Nat → Int32} {w0 : Cond} {h' : Int64} {s' : CS} {v v' : Nat → Int32} {m : Nat → Nat → Int32} {c r : Int32} (hL : LW Γ b N xs w0) (hκ : κ.1 ≤ (gRm Γ).cells ∧ κ.2 ≤ (gRm Γ).slots) (hj : 5 * j + 5 ≤ N) (hm : f_X8_done v m (xs (5 * j + 1)) (xs (5 * j + 2)) = some (v', r)) (h0 : v' 0 = c) (hr : c = 0 → h' = r.toInt64) (kk : GG Γ κ (SL h' s' v' m) 1081 [(4, .int (nI (5 * j))), (3, .ref (ya (gl Γ) 20 0)), (2, .ref (ya (gl Γ) 18 0)), (1, .ref (ya (gl Γ) 0 0)), (0, .ref b)] []) : GG Γ κ (SL h' s' v m) 804 [(5, .int c), (4, .int (nI (5 * j))), (3, .ref (ya (gl Γ) 20 0)), (2, .ref (ya (gl Γ) 18 0)), (1, .ref (ya (gl Γ) 0 0)), (0, .ref b)] [] := by
  have hΓ := hL.1
  have hFM := hL.2.2.2.1
  have hκ1 := hκ.1
  have hκ2 := hκ.2
  refine G_aload_n hΓ 3 dL_law_804 rfl ?_
  refine G_aload_n hΓ 5 dL_law_805 rfl ?_
  refine G_iload hΓ 1 dL_law_806 rfl ?_
  refine G_iconst (v := 1) hΓ dL_law_808 (by decide) ?_
  refine G_iadd hΓ dL_law_809 ?_
  refine S_ld hL (k := 1) (by decide) (by omega) dL_law_810 ?_
  refine G_aload_n hΓ 5 dL_law_811 rfl ?_
  refine G_iload hΓ 1 dL_law_812 rfl ?_
  refine G_iconst (v := 2) hΓ dL_law_814 (by decide) ?_
  refine G_iadd hΓ dL_law_815 ?_
  refine S_ld hL (k := 2) (by decide) (by omega) dL_law_816 ?_
  refine G_callVk hΓ (n := 2) (As := [.int (xs (5 * j + 1)), .int (xs (5 * j + 2))]) (t := 18) (i := 0) (ci := 11) (T := TX8) (N := 47) (FS := fs8 (gl Γ) 0) (σ' := SL h' s' v' m) (c_X8_done (gL Γ) (gl Γ) hFM (SL h' s' v m) v m (xs (5 * j + 1)) (xs (5 * j + 2)) hm) SL_M SL_M kw_1201 kw_1202 kw_1203 kw_9 kw_1204 ⟨rfl, by decide, by decide, by decide +kernel⟩ (by rw [hFM 18 (Or.inl rfl)]; decide) (fun _ _ _ => rfl) rfl rfl rfl ⟨Nat.le_of_ble_eq_true rfl, Nat.le_of_ble_eq_true rfl⟩ rfl (Nat.le_of_ble_eq_true rfl) dL_law_817 ⟨_, rfl⟩ ⟨by show _ ≤ _; omega, by show _ ≤ _; omega⟩ ?_
  refine G_istore hΓ [(6, .int r), (5, .int c), (4, .int (nI (5 * j))), (3, .ref (ya (gl Γ) 20 0)), (2, .ref (ya (gl Γ) 18 0)), (1, .ref (ya (gl Γ) 0 0)), (0, .ref b)] dL_law_820 (by decide) rfl ?_
  refine G_aload_n hΓ 4 dL_law_822 rfl ?_
  refine G_callVk hΓ (n := 0) (As := []) (t := 18) (i := 0) (ci := 11) (T := TX8) (N := 47) (FS := fs8 (gl Γ) 0) (σ' := SL h' s' v' m) (c_X8_thrown (gL Γ) (gl Γ) hFM (SL h' s' v' m) v' m  rfl) SL_M SL_M kw_1023 kw_1024 kw_1025 kw_9 kw_1026 ⟨rfl, by decide, by decide, by decide +kernel⟩ (by rw [hFM 18 (Or.inl rfl)]; decide) (fun _ _ _ => rfl) rfl rfl rfl ⟨Nat.le_of_ble_eq_true rfl, Nat.le_of_ble_eq_true rfl⟩ rfl (Nat.le_of_ble_eq_true rfl) dL_law_823 ⟨_, rfl⟩ ⟨by show _ ≤ _; omega, by show _ ≤ _; omega⟩ ?_
  refine G_iload hΓ 1 dL_law_826 rfl ?_
  refine G_icmp_eq hΓ (tgt := 833) dL_law_828 (by decide) (fun _ => ?_) (fun hc => absurd h0 hc)
  refine G_iload hΓ 1 dL_law_833 rfl ?_
  refine G_if_ne hΓ (tgt := 850) dL_law_835 (by decide) (fun _ => ?_) (fun hc => ?_)
  · refine G_goto hΓ (tgt := 1081) dL_law_850 (by decide) ?_
    refine G_loc [2, 3, 4, 5, 6] rfl ?_
    exact kk
  · refine G_aload_n hΓ 3 dL_law_838 rfl ?_
    refine G_iconst (v := 0) hΓ dL_law_839 (by decide) ?_
    refine F_outr hL (h := h') rfl dL_law_840 ?_
    refine G_iload hΓ 0 dL_law_841 rfl ?_
    refine G_i2l hΓ dL_law_843 ?_
    refine G_lcmp hΓ dL_law_844 ?_
    refine G_if_eq hΓ (tgt := 850) dL_law_845 (by decide) (fun _ => ?_) (fun h9 => absurd ((lg_cmp_eq _ _).mpr (hr hc)) h9)
    refine G_goto hΓ (tgt := 1081) dL_law_850 (by decide) ?_
    refine G_loc [2, 3, 4, 5, 6] rfl ?_
    exact kk
theorem law_done {Γ : GX} {κ : Nat × Nat} {b N j : Nat} {xs : Nat → Int32} {w0 : Cond} {h : Int64} {s s' : CS} {v v' : Nat → Int32} {m m' : Nat → Nat → Int32} (hL : LW Γ b N xs w0) (hκ : κ.1 + 1 ≤ (gRm Γ).cells ∧ κ.2 + 6 ≤ (gRm Γ).slots) (hj : 5 * j + 5 ≤ N) (hs : Step_done (xs (5 * j + 1)) (xs (5 * j + 2)) s v m s' v' m') (kk : ∀ h', GG Γ (κ.1 + 1, κ.2 + 6) (SL h' s' v' m') 1081 [(4, .int (nI (5 * j))), (3, .ref (ya (gl Γ) 20 0)), (2, .ref (ya (gl Γ) 18 0)), (1, .ref (ya (gl Γ) 0 0)), (0, .ref b)] []) : GG Γ κ (SL h s v m) 785 [(4, .int (nI (5 * j))), (3, .ref (ya (gl Γ) 20 0)), (2, .ref (ya (gl Γ) 18 0)), (1, .ref (ya (gl Γ) 0 0)), (0, .ref b)] [] := by
  obtain ⟨r, hm, rfl, hx⟩ := hs
  rcases hx with ⟨hx, h0, rfl⟩ | ⟨rfl, (⟨hx, h0⟩ | ⟨hx, h0⟩)⟩
  · exact law_done_pre hL hκ hj (h_L_done (gL Γ) hL.2.1 (gl Γ) hL.2.2.1 hL.2.2.2.2.1 (qM σ0 v m') s' h (xs (5 * j + 1)) (xs (5 * j + 2)) hx) (law_done_post (κ := (κ.1 + 1, κ.2 + 6)) hL hκ hj hm h0 (fun _ => rfl) (kk _))
  · exact law_done_pre hL hκ hj (x_L_done_1 (gL Γ) hL.2.1 (gl Γ) hL.2.2.1 hL.2.2.2.2.1 (qM σ0 v m') s' h (xs (5 * j + 1)) (xs (5 * j + 2)) hx) (law_done_post (κ := (κ.1 + 1, κ.2 + 6)) hL hκ hj hm h0 (fun h9 => absurd h9 (by decide)) (kk _))
  · exact law_done_pre hL hκ hj (x_L_done_2 (gL Γ) hL.2.1 (gl Γ) hL.2.2.1 hL.2.2.2.2.1 (qM σ0 v m') s' h (xs (5 * j + 1)) (xs (5 * j + 2)) hx) (law_done_post (κ := (κ.1 + 1, κ.2 + 6)) hL hκ hj hm h0 (fun h9 => absurd h9 (by decide)) (kk _))
/-- the call 'taken' on both sides -/
def Step_taken (p1 p2 p3 : Int32) (s : CS) (v : Nat → Int32) (m : Nat → Nat → Int32) (s' : CS) (v' : Nat → Int32) (m' : Nat → Nat → Int32) : Prop := ∃ r : Int32, f_X8_taken v m p1 p2 p3 = some (v', r) ∧ m' = m ∧ ((f_X7_taken s p1 p2 p3 = some (.inr r) ∧ v' 0 = 0 ∧ s' = s) ∨ s' = s ∧ (f_X7_taken s p1 p2 p3 = some (.inl 1) ∧ v' 0 = 1 ∨ f_X7_taken s p1 p2 p3 = some (.inl 2) ∧ v' 0 = 2))
set_option maxHeartbeats 4000000 in
set_option maxRecDepth 100000 in
theorem law_taken_pre {Γ : GX} {κ : Nat × Nat} {b N j : Nat} {xs : Nat → Int32} {w0 : Cond} {h h' : Int64} {s s' : CS} {v : Nat → Int32} {m : Nat → Nat → Int32} {c : Int32} (hL : LW Γ b N xs w0) (hκ : κ.1 + 1 ≤ (gRm Γ).cells ∧ κ.2 + 6 ≤ (gRm Γ).slots) (hj : 5 * j + 5 ≤ N) (hM : CH (gL Γ) yL_taken (.codeWith yL_taken cL_taken 6 (some .int) [(0, 12, 15, 21), (0, 12, 19, 13)] :: TT) ({ frames := 9, cells := 1, slots := 6, locals := 165 }) (gl Γ) [.ref (ya (gl Γ) 0 0), .int (xs (5 * j + 1)), .int (xs (5 * j + 2)), .int (xs (5 * j + 3)), .ref (ya (gl Γ) 20 0)] (SL h s v m) (SL h' s' v m) (some (.int c))) (kk : GG Γ (κ.1 + 1, κ.2 + 6) (SL h' s' v m) 878 [(5, .int c), (4, .int (nI (5 * j))), (3, .ref (ya (gl Γ) 20 0)), (2, .ref (ya (gl Γ) 18 0)), (1, .ref (ya (gl Γ) 0 0)), (0, .ref b)] []) : GG Γ κ (SL h s v m) 853 [(4, .int (nI (5 * j))), (3, .ref (ya (gl Γ) 20 0)), (2, .ref (ya (gl Γ) 18 0)), (1, .ref (ya (gl Γ) 0 0)), (0, .ref b)] [] := by
  have hΓ := hL.1
  refine G_aload_n hΓ 3 dL_law_853 rfl ?_
  refine G_aload_n hΓ 4 dL_law_854 rfl ?_
  refine G_iload hΓ 0 dL_law_855 rfl ?_
  refine G_iconst (v := 1) hΓ dL_law_857 (by decide) ?_
  refine G_iadd hΓ dL_law_858 ?_
  refine S_ld hL (k := 1) (by decide) (by omega) dL_law_859 ?_
  refine G_aload_n hΓ 4 dL_law_860 rfl ?_
  refine G_iload hΓ 0 dL_law_861 rfl ?_
  refine G_iconst (v := 2) hΓ dL_law_863 (by decide) ?_
  refine G_iadd hΓ dL_law_864 ?_
  refine S_ld hL (k := 2) (by decide) (by omega) dL_law_865 ?_
  refine G_aload_n hΓ 4 dL_law_866 rfl ?_
  refine G_iload hΓ 0 dL_law_867 rfl ?_
  refine G_iconst (v := 3) hΓ dL_law_869 (by decide) ?_
  refine G_iadd hΓ dL_law_870 ?_
  refine S_ld hL (k := 3) (by decide) (by omega) dL_law_871 ?_
  refine G_aload_n hΓ 1 dL_law_872 rfl ?_
  refine G_callH hL (n := 5) (As := [.ref (ya (gl Γ) 0 0), .int (xs (5 * j + 1)), .int (xs (5 * j + 2)), .int (xs (5 * j + 3)), .ref (ya (gl Γ) 20 0)]) hM kw_840 kw_841 kw_0 kw_842 ⟨by decide, by decide, by decide +kernel⟩ rfl rfl ⟨Nat.le_of_ble_eq_true rfl, Nat.le_of_ble_eq_true rfl⟩ rfl (Nat.le_of_ble_eq_true rfl) dL_law_873 hκ ?_
  exact G_istore hΓ [(5, .int c), (4, .int (nI (5 * j))), (3, .ref (ya (gl Γ) 20 0)), (2, .ref (ya (gl Γ) 18 0)), (1, .ref (ya (gl Γ) 0 0)), (0, .ref b)] dL_law_876 (by decide) rfl kk
set_option maxHeartbeats 4000000 in
set_option maxRecDepth 100000 in
theorem law_taken_post {Γ : GX} {κ : Nat × Nat} {b N j : Nat} {xs : Nat → Int32} {w0 : Cond} {h' : Int64} {s' : CS} {v v' : Nat → Int32} {m : Nat → Nat → Int32} {c r : Int32} (hL : LW Γ b N xs w0) (hκ : κ.1 ≤ (gRm Γ).cells ∧ κ.2 ≤ (gRm Γ).slots) (hj : 5 * j + 5 ≤ N) (hm : f_X8_taken v m (xs (5 * j + 1)) (xs (5 * j + 2)) (xs (5 * j + 3)) = some (v', r)) (h0 : v' 0 = c) (hr : c = 0 → h' = r.toInt64) (kk : GG Γ κ (SL h' s' v' m) 1081 [(4, .int (nI (5 * j))), (3, .ref (ya (gl Γ) 20 0)), (2, .ref (ya (gl Γ) 18 0)), (1, .ref (ya (gl Γ) 0 0)), (0, .ref b)] []) : GG Γ κ (SL h' s' v m) 878 [(5, .int c), (4, .int (nI (5 * j))), (3, .ref (ya (gl Γ) 20 0)), (2, .ref (ya (gl Γ) 18 0)), (1, .ref (ya (gl Γ) 0 0)), (0, .ref b)] [] := by
  have hΓ := hL.1
  have hFM := hL.2.2.2.1
  have hκ1 := hκ.1
  have hκ2 := hκ.2
  refine G_aload_n hΓ 3 dL_law_878 rfl ?_
  refine G_aload_n hΓ 5 dL_law_879 rfl ?_
  refine G_iload hΓ 1 dL_law_880 rfl ?_
  refine G_iconst (v := 1) hΓ dL_law_882 (by decide) ?_
  refine G_iadd hΓ dL_law_883 ?_
  refine S_ld hL (k := 1) (by decide) (by omega) dL_law_884 ?_
  refine G_aload_n hΓ 5 dL_law_885 rfl ?_
  refine G_iload hΓ 1 dL_law_886 rfl ?_
  refine G_iconst (v := 2) hΓ dL_law_888 (by decide) ?_
  refine G_iadd hΓ dL_law_889 ?_
  refine S_ld hL (k := 2) (by decide) (by omega) dL_law_890 ?_
  refine G_aload_n hΓ 5 dL_law_891 rfl ?_
  refine G_iload hΓ 1 dL_law_892 rfl ?_
  refine G_iconst (v := 3) hΓ dL_law_894 (by decide) ?_
  refine G_iadd hΓ dL_law_895 ?_
  refine S_ld hL (k := 3) (by decide) (by omega) dL_law_896 ?_
  refine G_callVk hΓ (n := 3) (As := [.int (xs (5 * j + 1)), .int (xs (5 * j + 2)), .int (xs (5 * j + 3))]) (t := 18) (i := 0) (ci := 11) (T := TX8) (N := 47) (FS := fs8 (gl Γ) 0) (σ' := SL h' s' v' m) (c_X8_taken (gL Γ) (gl Γ) hFM (SL h' s' v m) v m (xs (5 * j + 1)) (xs (5 * j + 2)) (xs (5 * j + 3)) hm) SL_M SL_M kw_1205 kw_1206 kw_1207 kw_9 kw_1208 ⟨rfl, by decide, by decide, by decide +kernel⟩ (by rw [hFM 18 (Or.inl rfl)]; decide) (fun _ _ _ => rfl) rfl rfl rfl ⟨Nat.le_of_ble_eq_true rfl, Nat.le_of_ble_eq_true rfl⟩ rfl (Nat.le_of_ble_eq_true rfl) dL_law_897 ⟨_, rfl⟩ ⟨by show _ ≤ _; omega, by show _ ≤ _; omega⟩ ?_
  refine G_istore hΓ [(6, .int r), (5, .int c), (4, .int (nI (5 * j))), (3, .ref (ya (gl Γ) 20 0)), (2, .ref (ya (gl Γ) 18 0)), (1, .ref (ya (gl Γ) 0 0)), (0, .ref b)] dL_law_900 (by decide) rfl ?_
  refine G_aload_n hΓ 4 dL_law_902 rfl ?_
  refine G_callVk hΓ (n := 0) (As := []) (t := 18) (i := 0) (ci := 11) (T := TX8) (N := 47) (FS := fs8 (gl Γ) 0) (σ' := SL h' s' v' m) (c_X8_thrown (gL Γ) (gl Γ) hFM (SL h' s' v' m) v' m  rfl) SL_M SL_M kw_1023 kw_1024 kw_1025 kw_9 kw_1026 ⟨rfl, by decide, by decide, by decide +kernel⟩ (by rw [hFM 18 (Or.inl rfl)]; decide) (fun _ _ _ => rfl) rfl rfl rfl ⟨Nat.le_of_ble_eq_true rfl, Nat.le_of_ble_eq_true rfl⟩ rfl (Nat.le_of_ble_eq_true rfl) dL_law_903 ⟨_, rfl⟩ ⟨by show _ ≤ _; omega, by show _ ≤ _; omega⟩ ?_
  refine G_iload hΓ 1 dL_law_906 rfl ?_
  refine G_icmp_eq hΓ (tgt := 913) dL_law_908 (by decide) (fun _ => ?_) (fun hc => absurd h0 hc)
  refine G_iload hΓ 1 dL_law_913 rfl ?_
  refine G_if_ne hΓ (tgt := 930) dL_law_915 (by decide) (fun _ => ?_) (fun hc => ?_)
  · refine G_goto hΓ (tgt := 1081) dL_law_930 (by decide) ?_
    refine G_loc [2, 3, 4, 5, 6] rfl ?_
    exact kk
  · refine G_aload_n hΓ 3 dL_law_918 rfl ?_
    refine G_iconst (v := 0) hΓ dL_law_919 (by decide) ?_
    refine F_outr hL (h := h') rfl dL_law_920 ?_
    refine G_iload hΓ 0 dL_law_921 rfl ?_
    refine G_i2l hΓ dL_law_923 ?_
    refine G_lcmp hΓ dL_law_924 ?_
    refine G_if_eq hΓ (tgt := 930) dL_law_925 (by decide) (fun _ => ?_) (fun h9 => absurd ((lg_cmp_eq _ _).mpr (hr hc)) h9)
    refine G_goto hΓ (tgt := 1081) dL_law_930 (by decide) ?_
    refine G_loc [2, 3, 4, 5, 6] rfl ?_
    exact kk
theorem law_taken {Γ : GX} {κ : Nat × Nat} {b N j : Nat} {xs : Nat → Int32} {w0 : Cond} {h : Int64} {s s' : CS} {v v' : Nat → Int32} {m m' : Nat → Nat → Int32} (hL : LW Γ b N xs w0) (hκ : κ.1 + 1 ≤ (gRm Γ).cells ∧ κ.2 + 6 ≤ (gRm Γ).slots) (hj : 5 * j + 5 ≤ N) (hs : Step_taken (xs (5 * j + 1)) (xs (5 * j + 2)) (xs (5 * j + 3)) s v m s' v' m') (kk : ∀ h', GG Γ (κ.1 + 1, κ.2 + 6) (SL h' s' v' m') 1081 [(4, .int (nI (5 * j))), (3, .ref (ya (gl Γ) 20 0)), (2, .ref (ya (gl Γ) 18 0)), (1, .ref (ya (gl Γ) 0 0)), (0, .ref b)] []) : GG Γ κ (SL h s v m) 853 [(4, .int (nI (5 * j))), (3, .ref (ya (gl Γ) 20 0)), (2, .ref (ya (gl Γ) 18 0)), (1, .ref (ya (gl Γ) 0 0)), (0, .ref b)] [] := by
  obtain ⟨r, hm, rfl, hx⟩ := hs
  rcases hx with ⟨hx, h0, rfl⟩ | ⟨rfl, (⟨hx, h0⟩ | ⟨hx, h0⟩)⟩
  · exact law_taken_pre hL hκ hj (h_L_taken (gL Γ) hL.2.1 (gl Γ) hL.2.2.1 hL.2.2.2.2.1 (qM σ0 v m') s' h (xs (5 * j + 1)) (xs (5 * j + 2)) (xs (5 * j + 3)) hx) (law_taken_post (κ := (κ.1 + 1, κ.2 + 6)) hL hκ hj hm h0 (fun _ => rfl) (kk _))
  · exact law_taken_pre hL hκ hj (x_L_taken_1 (gL Γ) hL.2.1 (gl Γ) hL.2.2.1 hL.2.2.2.2.1 (qM σ0 v m') s' h (xs (5 * j + 1)) (xs (5 * j + 2)) (xs (5 * j + 3)) hx) (law_taken_post (κ := (κ.1 + 1, κ.2 + 6)) hL hκ hj hm h0 (fun h9 => absurd h9 (by decide)) (kk _))
  · exact law_taken_pre hL hκ hj (x_L_taken_2 (gL Γ) hL.2.1 (gl Γ) hL.2.2.1 hL.2.2.2.2.1 (qM σ0 v m') s' h (xs (5 * j + 1)) (xs (5 * j + 2)) (xs (5 * j + 3)) hx) (law_taken_post (κ := (κ.1 + 1, κ.2 + 6)) hL hκ hj hm h0 (fun h9 => absurd h9 (by decide)) (kk _))
/-- the call 'takenOctet' on both sides -/
def Step_takenOctet (p1 p2 p3 : Int32) (s : CS) (v : Nat → Int32) (m : Nat → Nat → Int32) (s' : CS) (v' : Nat → Int32) (m' : Nat → Nat → Int32) : Prop := ∃ r : Int32, f_X8_takenOctet v m p1 p2 p3 = some (v', r) ∧ m' = m ∧ ((f_X7_takenOctet s p1 p2 p3 = some (.inr r) ∧ v' 0 = 0 ∧ s' = s) ∨ s' = s ∧ (f_X7_takenOctet s p1 p2 p3 = some (.inl 1) ∧ v' 0 = 1))
set_option maxHeartbeats 4000000 in
set_option maxRecDepth 100000 in
theorem law_takenOctet_pre {Γ : GX} {κ : Nat × Nat} {b N j : Nat} {xs : Nat → Int32} {w0 : Cond} {h h' : Int64} {s s' : CS} {v : Nat → Int32} {m : Nat → Nat → Int32} {c : Int32} (hL : LW Γ b N xs w0) (hκ : κ.1 + 1 ≤ (gRm Γ).cells ∧ κ.2 + 6 ≤ (gRm Γ).slots) (hj : 5 * j + 5 ≤ N) (hM : CH (gL Γ) yL_takenOctet (.codeWith yL_takenOctet cL_takenOctet 6 (some .int) [(0, 12, 15, 21)] :: TT) ({ frames := 9, cells := 1, slots := 6, locals := 165 }) (gl Γ) [.ref (ya (gl Γ) 0 0), .int (xs (5 * j + 1)), .int (xs (5 * j + 2)), .int (xs (5 * j + 3)), .ref (ya (gl Γ) 20 0)] (SL h s v m) (SL h' s' v m) (some (.int c))) (kk : GG Γ (κ.1 + 1, κ.2 + 6) (SL h' s' v m) 958 [(5, .int c), (4, .int (nI (5 * j))), (3, .ref (ya (gl Γ) 20 0)), (2, .ref (ya (gl Γ) 18 0)), (1, .ref (ya (gl Γ) 0 0)), (0, .ref b)] []) : GG Γ κ (SL h s v m) 933 [(4, .int (nI (5 * j))), (3, .ref (ya (gl Γ) 20 0)), (2, .ref (ya (gl Γ) 18 0)), (1, .ref (ya (gl Γ) 0 0)), (0, .ref b)] [] := by
  have hΓ := hL.1
  refine G_aload_n hΓ 3 dL_law_933 rfl ?_
  refine G_aload_n hΓ 4 dL_law_934 rfl ?_
  refine G_iload hΓ 0 dL_law_935 rfl ?_
  refine G_iconst (v := 1) hΓ dL_law_937 (by decide) ?_
  refine G_iadd hΓ dL_law_938 ?_
  refine S_ld hL (k := 1) (by decide) (by omega) dL_law_939 ?_
  refine G_aload_n hΓ 4 dL_law_940 rfl ?_
  refine G_iload hΓ 0 dL_law_941 rfl ?_
  refine G_iconst (v := 2) hΓ dL_law_943 (by decide) ?_
  refine G_iadd hΓ dL_law_944 ?_
  refine S_ld hL (k := 2) (by decide) (by omega) dL_law_945 ?_
  refine G_aload_n hΓ 4 dL_law_946 rfl ?_
  refine G_iload hΓ 0 dL_law_947 rfl ?_
  refine G_iconst (v := 3) hΓ dL_law_949 (by decide) ?_
  refine G_iadd hΓ dL_law_950 ?_
  refine S_ld hL (k := 3) (by decide) (by omega) dL_law_951 ?_
  refine G_aload_n hΓ 1 dL_law_952 rfl ?_
  refine G_callH hL (n := 5) (As := [.ref (ya (gl Γ) 0 0), .int (xs (5 * j + 1)), .int (xs (5 * j + 2)), .int (xs (5 * j + 3)), .ref (ya (gl Γ) 20 0)]) hM kw_851 kw_852 kw_0 kw_853 ⟨by decide, by decide, by decide +kernel⟩ rfl rfl ⟨Nat.le_of_ble_eq_true rfl, Nat.le_of_ble_eq_true rfl⟩ rfl (Nat.le_of_ble_eq_true rfl) dL_law_953 hκ ?_
  exact G_istore hΓ [(5, .int c), (4, .int (nI (5 * j))), (3, .ref (ya (gl Γ) 20 0)), (2, .ref (ya (gl Γ) 18 0)), (1, .ref (ya (gl Γ) 0 0)), (0, .ref b)] dL_law_956 (by decide) rfl kk
set_option maxHeartbeats 4000000 in
set_option maxRecDepth 100000 in
theorem law_takenOctet_post {Γ : GX} {κ : Nat × Nat} {b N j : Nat} {xs : Nat → Int32} {w0 : Cond} {h' : Int64} {s' : CS} {v v' : Nat → Int32} {m : Nat → Nat → Int32} {c r : Int32} (hL : LW Γ b N xs w0) (hκ : κ.1 ≤ (gRm Γ).cells ∧ κ.2 ≤ (gRm Γ).slots) (hj : 5 * j + 5 ≤ N) (hm : f_X8_takenOctet v m (xs (5 * j + 1)) (xs (5 * j + 2)) (xs (5 * j + 3)) = some (v', r)) (h0 : v' 0 = c) (hr : c = 0 → h' = r.toInt64) (kk : GG Γ κ (SL h' s' v' m) 1081 [(4, .int (nI (5 * j))), (3, .ref (ya (gl Γ) 20 0)), (2, .ref (ya (gl Γ) 18 0)), (1, .ref (ya (gl Γ) 0 0)), (0, .ref b)] []) : GG Γ κ (SL h' s' v m) 958 [(5, .int c), (4, .int (nI (5 * j))), (3, .ref (ya (gl Γ) 20 0)), (2, .ref (ya (gl Γ) 18 0)), (1, .ref (ya (gl Γ) 0 0)), (0, .ref b)] [] := by
  have hΓ := hL.1
  have hFM := hL.2.2.2.1
  have hκ1 := hκ.1
  have hκ2 := hκ.2
  refine G_aload_n hΓ 3 dL_law_958 rfl ?_
  refine G_aload_n hΓ 5 dL_law_959 rfl ?_
  refine G_iload hΓ 1 dL_law_960 rfl ?_
  refine G_iconst (v := 1) hΓ dL_law_962 (by decide) ?_
  refine G_iadd hΓ dL_law_963 ?_
  refine S_ld hL (k := 1) (by decide) (by omega) dL_law_964 ?_
  refine G_aload_n hΓ 5 dL_law_965 rfl ?_
  refine G_iload hΓ 1 dL_law_966 rfl ?_
  refine G_iconst (v := 2) hΓ dL_law_968 (by decide) ?_
  refine G_iadd hΓ dL_law_969 ?_
  refine S_ld hL (k := 2) (by decide) (by omega) dL_law_970 ?_
  refine G_aload_n hΓ 5 dL_law_971 rfl ?_
  refine G_iload hΓ 1 dL_law_972 rfl ?_
  refine G_iconst (v := 3) hΓ dL_law_974 (by decide) ?_
  refine G_iadd hΓ dL_law_975 ?_
  refine S_ld hL (k := 3) (by decide) (by omega) dL_law_976 ?_
  refine G_callVk hΓ (n := 3) (As := [.int (xs (5 * j + 1)), .int (xs (5 * j + 2)), .int (xs (5 * j + 3))]) (t := 18) (i := 0) (ci := 11) (T := TX8) (N := 47) (FS := fs8 (gl Γ) 0) (σ' := SL h' s' v' m) (c_X8_takenOctet (gL Γ) (gl Γ) hFM (SL h' s' v m) v m (xs (5 * j + 1)) (xs (5 * j + 2)) (xs (5 * j + 3)) hm) SL_M SL_M kw_1213 kw_1214 kw_1215 kw_9 kw_1216 ⟨rfl, by decide, by decide, by decide +kernel⟩ (by rw [hFM 18 (Or.inl rfl)]; decide) (fun _ _ _ => rfl) rfl rfl rfl ⟨Nat.le_of_ble_eq_true rfl, Nat.le_of_ble_eq_true rfl⟩ rfl (Nat.le_of_ble_eq_true rfl) dL_law_977 ⟨_, rfl⟩ ⟨by show _ ≤ _; omega, by show _ ≤ _; omega⟩ ?_
  refine G_istore hΓ [(6, .int r), (5, .int c), (4, .int (nI (5 * j))), (3, .ref (ya (gl Γ) 20 0)), (2, .ref (ya (gl Γ) 18 0)), (1, .ref (ya (gl Γ) 0 0)), (0, .ref b)] dL_law_980 (by decide) rfl ?_
  refine G_aload_n hΓ 4 dL_law_982 rfl ?_
  refine G_callVk hΓ (n := 0) (As := []) (t := 18) (i := 0) (ci := 11) (T := TX8) (N := 47) (FS := fs8 (gl Γ) 0) (σ' := SL h' s' v' m) (c_X8_thrown (gL Γ) (gl Γ) hFM (SL h' s' v' m) v' m  rfl) SL_M SL_M kw_1023 kw_1024 kw_1025 kw_9 kw_1026 ⟨rfl, by decide, by decide, by decide +kernel⟩ (by rw [hFM 18 (Or.inl rfl)]; decide) (fun _ _ _ => rfl) rfl rfl rfl ⟨Nat.le_of_ble_eq_true rfl, Nat.le_of_ble_eq_true rfl⟩ rfl (Nat.le_of_ble_eq_true rfl) dL_law_983 ⟨_, rfl⟩ ⟨by show _ ≤ _; omega, by show _ ≤ _; omega⟩ ?_
  refine G_iload hΓ 1 dL_law_986 rfl ?_
  refine G_icmp_eq hΓ (tgt := 993) dL_law_988 (by decide) (fun _ => ?_) (fun hc => absurd h0 hc)
  refine G_iload hΓ 1 dL_law_993 rfl ?_
  refine G_if_ne hΓ (tgt := 1010) dL_law_995 (by decide) (fun _ => ?_) (fun hc => ?_)
  · refine G_goto hΓ (tgt := 1081) dL_law_1010 (by decide) ?_
    refine G_loc [2, 3, 4, 5, 6] rfl ?_
    exact kk
  · refine G_aload_n hΓ 3 dL_law_998 rfl ?_
    refine G_iconst (v := 0) hΓ dL_law_999 (by decide) ?_
    refine F_outr hL (h := h') rfl dL_law_1000 ?_
    refine G_iload hΓ 0 dL_law_1001 rfl ?_
    refine G_i2l hΓ dL_law_1003 ?_
    refine G_lcmp hΓ dL_law_1004 ?_
    refine G_if_eq hΓ (tgt := 1010) dL_law_1005 (by decide) (fun _ => ?_) (fun h9 => absurd ((lg_cmp_eq _ _).mpr (hr hc)) h9)
    refine G_goto hΓ (tgt := 1081) dL_law_1010 (by decide) ?_
    refine G_loc [2, 3, 4, 5, 6] rfl ?_
    exact kk
theorem law_takenOctet {Γ : GX} {κ : Nat × Nat} {b N j : Nat} {xs : Nat → Int32} {w0 : Cond} {h : Int64} {s s' : CS} {v v' : Nat → Int32} {m m' : Nat → Nat → Int32} (hL : LW Γ b N xs w0) (hκ : κ.1 + 1 ≤ (gRm Γ).cells ∧ κ.2 + 6 ≤ (gRm Γ).slots) (hj : 5 * j + 5 ≤ N) (hs : Step_takenOctet (xs (5 * j + 1)) (xs (5 * j + 2)) (xs (5 * j + 3)) s v m s' v' m') (kk : ∀ h', GG Γ (κ.1 + 1, κ.2 + 6) (SL h' s' v' m') 1081 [(4, .int (nI (5 * j))), (3, .ref (ya (gl Γ) 20 0)), (2, .ref (ya (gl Γ) 18 0)), (1, .ref (ya (gl Γ) 0 0)), (0, .ref b)] []) : GG Γ κ (SL h s v m) 933 [(4, .int (nI (5 * j))), (3, .ref (ya (gl Γ) 20 0)), (2, .ref (ya (gl Γ) 18 0)), (1, .ref (ya (gl Γ) 0 0)), (0, .ref b)] [] := by
  obtain ⟨r, hm, rfl, hx⟩ := hs
  rcases hx with ⟨hx, h0, rfl⟩ | ⟨rfl, ⟨hx, h0⟩⟩
  · exact law_takenOctet_pre hL hκ hj (h_L_takenOctet (gL Γ) hL.2.1 (gl Γ) hL.2.2.1 hL.2.2.2.2.1 (qM σ0 v m') s' h (xs (5 * j + 1)) (xs (5 * j + 2)) (xs (5 * j + 3)) hx) (law_takenOctet_post (κ := (κ.1 + 1, κ.2 + 6)) hL hκ hj hm h0 (fun _ => rfl) (kk _))
  · exact law_takenOctet_pre hL hκ hj (x_L_takenOctet_1 (gL Γ) hL.2.1 (gl Γ) hL.2.2.1 hL.2.2.2.2.1 (qM σ0 v m') s' h (xs (5 * j + 1)) (xs (5 * j + 2)) (xs (5 * j + 3)) hx) (law_takenOctet_post (κ := (κ.1 + 1, κ.2 + 6)) hL hκ hj hm h0 (fun h9 => absurd h9 (by decide)) (kk _))
/-- the call 'error' on both sides -/
def Step_error (p1 p2 : Int32) (s : CS) (v : Nat → Int32) (m : Nat → Nat → Int32) (s' : CS) (v' : Nat → Int32) (m' : Nat → Nat → Int32) : Prop := ∃ r : Int32, f_X8_error v m p1 p2 = some (v', r) ∧ m' = m ∧ ((f_X7_error s p1 p2 = some (.inr r) ∧ v' 0 = 0 ∧ s' = s) ∨ s' = s ∧ (f_X7_error s p1 p2 = some (.inl 1) ∧ v' 0 = 1 ∨ f_X7_error s p1 p2 = some (.inl 2) ∧ v' 0 = 2))
set_option maxHeartbeats 4000000 in
set_option maxRecDepth 100000 in
theorem law_error_pre {Γ : GX} {κ : Nat × Nat} {b N j : Nat} {xs : Nat → Int32} {w0 : Cond} {h h' : Int64} {s s' : CS} {v : Nat → Int32} {m : Nat → Nat → Int32} {c : Int32} (hL : LW Γ b N xs w0) (hκ : κ.1 + 1 ≤ (gRm Γ).cells ∧ κ.2 + 6 ≤ (gRm Γ).slots) (hj : 5 * j + 5 ≤ N) (hM : CH (gL Γ) yL_error (.codeWith yL_error cL_error 5 (some .int) [(0, 10, 13, 21), (0, 10, 17, 13)] :: TT) ({ frames := 9, cells := 1, slots := 6, locals := 164 }) (gl Γ) [.ref (ya (gl Γ) 0 0), .int (xs (5 * j + 1)), .int (xs (5 * j + 2)), .ref (ya (gl Γ) 20 0)] (SL h s v m) (SL h' s' v m) (some (.int c))) (kk : GG Γ (κ.1 + 1, κ.2 + 6) (SL h' s' v m) 1032 [(5, .int c), (4, .int (nI (5 * j))), (3, .ref (ya (gl Γ) 20 0)), (2, .ref (ya (gl Γ) 18 0)), (1, .ref (ya (gl Γ) 0 0)), (0, .ref b)] []) : GG Γ κ (SL h s v m) 1013 [(4, .int (nI (5 * j))), (3, .ref (ya (gl Γ) 20 0)), (2, .ref (ya (gl Γ) 18 0)), (1, .ref (ya (gl Γ) 0 0)), (0, .ref b)] [] := by
  have hΓ := hL.1
  refine G_aload_n hΓ 3 dL_law_1013 rfl ?_
  refine G_aload_n hΓ 4 dL_law_1014 rfl ?_
  refine G_iload hΓ 0 dL_law_1015 rfl ?_
  refine G_iconst (v := 1) hΓ dL_law_1017 (by decide) ?_
  refine G_iadd hΓ dL_law_1018 ?_
  refine S_ld hL (k := 1) (by decide) (by omega) dL_law_1019 ?_
  refine G_aload_n hΓ 4 dL_law_1020 rfl ?_
  refine G_iload hΓ 0 dL_law_1021 rfl ?_
  refine G_iconst (v := 2) hΓ dL_law_1023 (by decide) ?_
  refine G_iadd hΓ dL_law_1024 ?_
  refine S_ld hL (k := 2) (by decide) (by omega) dL_law_1025 ?_
  refine G_aload_n hΓ 1 dL_law_1026 rfl ?_
  refine G_callH hL (n := 4) (As := [.ref (ya (gl Γ) 0 0), .int (xs (5 * j + 1)), .int (xs (5 * j + 2)), .ref (ya (gl Γ) 20 0)]) hM kw_863 kw_864 kw_0 kw_865 ⟨by decide, by decide, by decide +kernel⟩ rfl rfl ⟨Nat.le_of_ble_eq_true rfl, Nat.le_of_ble_eq_true rfl⟩ rfl (Nat.le_of_ble_eq_true rfl) dL_law_1027 hκ ?_
  exact G_istore hΓ [(5, .int c), (4, .int (nI (5 * j))), (3, .ref (ya (gl Γ) 20 0)), (2, .ref (ya (gl Γ) 18 0)), (1, .ref (ya (gl Γ) 0 0)), (0, .ref b)] dL_law_1030 (by decide) rfl kk
set_option maxHeartbeats 4000000 in
set_option maxRecDepth 100000 in
theorem law_error_post {Γ : GX} {κ : Nat × Nat} {b N j : Nat} {xs : Nat → Int32} {w0 : Cond} {h' : Int64} {s' : CS} {v v' : Nat → Int32} {m : Nat → Nat → Int32} {c r : Int32} (hL : LW Γ b N xs w0) (hκ : κ.1 ≤ (gRm Γ).cells ∧ κ.2 ≤ (gRm Γ).slots) (hj : 5 * j + 5 ≤ N) (hm : f_X8_error v m (xs (5 * j + 1)) (xs (5 * j + 2)) = some (v', r)) (h0 : v' 0 = c) (hr : c = 0 → h' = r.toInt64) (kk : GG Γ κ (SL h' s' v' m) 1081 [(4, .int (nI (5 * j))), (3, .ref (ya (gl Γ) 20 0)), (2, .ref (ya (gl Γ) 18 0)), (1, .ref (ya (gl Γ) 0 0)), (0, .ref b)] []) : GG Γ κ (SL h' s' v m) 1032 [(5, .int c), (4, .int (nI (5 * j))), (3, .ref (ya (gl Γ) 20 0)), (2, .ref (ya (gl Γ) 18 0)), (1, .ref (ya (gl Γ) 0 0)), (0, .ref b)] [] := by
  have hΓ := hL.1
  have hFM := hL.2.2.2.1
  have hκ1 := hκ.1
  have hκ2 := hκ.2
  refine G_aload_n hΓ 3 dL_law_1032 rfl ?_
  refine G_aload_n hΓ 5 dL_law_1033 rfl ?_
  refine G_iload hΓ 1 dL_law_1034 rfl ?_
  refine G_iconst (v := 1) hΓ dL_law_1036 (by decide) ?_
  refine G_iadd hΓ dL_law_1037 ?_
  refine S_ld hL (k := 1) (by decide) (by omega) dL_law_1038 ?_
  refine G_aload_n hΓ 5 dL_law_1039 rfl ?_
  refine G_iload hΓ 1 dL_law_1040 rfl ?_
  refine G_iconst (v := 2) hΓ dL_law_1042 (by decide) ?_
  refine G_iadd hΓ dL_law_1043 ?_
  refine S_ld hL (k := 2) (by decide) (by omega) dL_law_1044 ?_
  refine G_callVk hΓ (n := 2) (As := [.int (xs (5 * j + 1)), .int (xs (5 * j + 2))]) (t := 18) (i := 0) (ci := 11) (T := TX8) (N := 47) (FS := fs8 (gl Γ) 0) (σ' := SL h' s' v' m) (c_X8_error (gL Γ) (gl Γ) hFM (SL h' s' v m) v m (xs (5 * j + 1)) (xs (5 * j + 2)) hm) SL_M SL_M kw_1217 kw_1218 kw_1219 kw_9 kw_1220 ⟨rfl, by decide, by decide, by decide +kernel⟩ (by rw [hFM 18 (Or.inl rfl)]; decide) (fun _ _ _ => rfl) rfl rfl rfl ⟨Nat.le_of_ble_eq_true rfl, Nat.le_of_ble_eq_true rfl⟩ rfl (Nat.le_of_ble_eq_true rfl) dL_law_1045 ⟨_, rfl⟩ ⟨by show _ ≤ _; omega, by show _ ≤ _; omega⟩ ?_
  refine G_istore hΓ [(6, .int r), (5, .int c), (4, .int (nI (5 * j))), (3, .ref (ya (gl Γ) 20 0)), (2, .ref (ya (gl Γ) 18 0)), (1, .ref (ya (gl Γ) 0 0)), (0, .ref b)] dL_law_1048 (by decide) rfl ?_
  refine G_aload_n hΓ 4 dL_law_1050 rfl ?_
  refine G_callVk hΓ (n := 0) (As := []) (t := 18) (i := 0) (ci := 11) (T := TX8) (N := 47) (FS := fs8 (gl Γ) 0) (σ' := SL h' s' v' m) (c_X8_thrown (gL Γ) (gl Γ) hFM (SL h' s' v' m) v' m  rfl) SL_M SL_M kw_1023 kw_1024 kw_1025 kw_9 kw_1026 ⟨rfl, by decide, by decide, by decide +kernel⟩ (by rw [hFM 18 (Or.inl rfl)]; decide) (fun _ _ _ => rfl) rfl rfl rfl ⟨Nat.le_of_ble_eq_true rfl, Nat.le_of_ble_eq_true rfl⟩ rfl (Nat.le_of_ble_eq_true rfl) dL_law_1051 ⟨_, rfl⟩ ⟨by show _ ≤ _; omega, by show _ ≤ _; omega⟩ ?_
  refine G_iload hΓ 1 dL_law_1054 rfl ?_
  refine G_icmp_eq hΓ (tgt := 1061) dL_law_1056 (by decide) (fun _ => ?_) (fun hc => absurd h0 hc)
  refine G_iload hΓ 1 dL_law_1061 rfl ?_
  refine G_if_ne hΓ (tgt := 1078) dL_law_1063 (by decide) (fun _ => ?_) (fun hc => ?_)
  · refine G_goto hΓ (tgt := 1081) dL_law_1078 (by decide) ?_
    refine G_loc [2, 3, 4, 5, 6] rfl ?_
    exact kk
  · refine G_aload_n hΓ 3 dL_law_1066 rfl ?_
    refine G_iconst (v := 0) hΓ dL_law_1067 (by decide) ?_
    refine F_outr hL (h := h') rfl dL_law_1068 ?_
    refine G_iload hΓ 0 dL_law_1069 rfl ?_
    refine G_i2l hΓ dL_law_1071 ?_
    refine G_lcmp hΓ dL_law_1072 ?_
    refine G_if_eq hΓ (tgt := 1078) dL_law_1073 (by decide) (fun _ => ?_) (fun h9 => absurd ((lg_cmp_eq _ _).mpr (hr hc)) h9)
    refine G_goto hΓ (tgt := 1081) dL_law_1078 (by decide) ?_
    refine G_loc [2, 3, 4, 5, 6] rfl ?_
    exact kk
theorem law_error {Γ : GX} {κ : Nat × Nat} {b N j : Nat} {xs : Nat → Int32} {w0 : Cond} {h : Int64} {s s' : CS} {v v' : Nat → Int32} {m m' : Nat → Nat → Int32} (hL : LW Γ b N xs w0) (hκ : κ.1 + 1 ≤ (gRm Γ).cells ∧ κ.2 + 6 ≤ (gRm Γ).slots) (hj : 5 * j + 5 ≤ N) (hs : Step_error (xs (5 * j + 1)) (xs (5 * j + 2)) s v m s' v' m') (kk : ∀ h', GG Γ (κ.1 + 1, κ.2 + 6) (SL h' s' v' m') 1081 [(4, .int (nI (5 * j))), (3, .ref (ya (gl Γ) 20 0)), (2, .ref (ya (gl Γ) 18 0)), (1, .ref (ya (gl Γ) 0 0)), (0, .ref b)] []) : GG Γ κ (SL h s v m) 1013 [(4, .int (nI (5 * j))), (3, .ref (ya (gl Γ) 20 0)), (2, .ref (ya (gl Γ) 18 0)), (1, .ref (ya (gl Γ) 0 0)), (0, .ref b)] [] := by
  obtain ⟨r, hm, rfl, hx⟩ := hs
  rcases hx with ⟨hx, h0, rfl⟩ | ⟨rfl, (⟨hx, h0⟩ | ⟨hx, h0⟩)⟩
  · exact law_error_pre hL hκ hj (h_L_error (gL Γ) hL.2.1 (gl Γ) hL.2.2.1 hL.2.2.2.2.1 (qM σ0 v m') s' h (xs (5 * j + 1)) (xs (5 * j + 2)) hx) (law_error_post (κ := (κ.1 + 1, κ.2 + 6)) hL hκ hj hm h0 (fun _ => rfl) (kk _))
  · exact law_error_pre hL hκ hj (x_L_error_1 (gL Γ) hL.2.1 (gl Γ) hL.2.2.1 hL.2.2.2.2.1 (qM σ0 v m') s' h (xs (5 * j + 1)) (xs (5 * j + 2)) hx) (law_error_post (κ := (κ.1 + 1, κ.2 + 6)) hL hκ hj hm h0 (fun h9 => absurd h9 (by decide)) (kk _))
  · exact law_error_pre hL hκ hj (x_L_error_2 (gL Γ) hL.2.1 (gl Γ) hL.2.2.1 hL.2.2.2.2.1 (qM σ0 v m') s' h (xs (5 * j + 1)) (xs (5 * j + 2)) hx) (law_error_post (κ := (κ.1 + 1, κ.2 + 6)) hL hκ hj hm h0 (fun h9 => absurd h9 (by decide)) (kk _))
def Step_time (s : CS) (v : Nat → Int32) (m : Nat → Nat → Int32) (s' : CS) (v' : Nat → Int32) (m' : Nat → Nat → Int32) : Prop := ∃ r : Int32, f_X7_time s = some r ∧ f_X8_time v = some (v', r) ∧ s' = s ∧ m' = m
set_option maxHeartbeats 4000000 in
set_option maxRecDepth 100000 in
theorem law_time {Γ : GX} {κ : Nat × Nat} {b N j : Nat} {xs : Nat → Int32} {w0 : Cond} {h : Int64} {s s' : CS} {v v' : Nat → Int32} {m m' : Nat → Nat → Int32} (hL : LW Γ b N xs w0) (hκ : κ.1 + 1 ≤ (gRm Γ).cells ∧ κ.2 + 6 ≤ (gRm Γ).slots) (hj : 5 * j + 5 ≤ N) (hs : Step_time s v m s' v' m') (kk : ∀ h', GG Γ (κ.1 + 1, κ.2 + 6) (SL h' s' v' m') 1081 [(4, .int (nI (5 * j))), (3, .ref (ya (gl Γ) 20 0)), (2, .ref (ya (gl Γ) 18 0)), (1, .ref (ya (gl Γ) 0 0)), (0, .ref b)] []) : GG Γ κ (SL h s v m) 524 [(4, .int (nI (5 * j))), (3, .ref (ya (gl Γ) 20 0)), (2, .ref (ya (gl Γ) 18 0)), (1, .ref (ya (gl Γ) 0 0)), (0, .ref b)] [] := by
  obtain ⟨r, hx, hm, rfl, rfl⟩ := hs
  have hΓ := hL.1
  have hFM := hL.2.2.2.1
  have hκ1 := hκ.1
  have hκ2 := hκ.2
  refine G_aload_n hΓ 3 dL_law_524 rfl ?_
  refine G_callVk hΓ (n := 0) (As := []) (t := 0) (i := 0) (ci := 10) (T := TX7) (N := 14) (FS := fs7 (gl Γ) 0) (σ' := SL h s' v m') (c_X7_time (gL Γ) (gl Γ) hL.2.2.1 (sH (qM σ0 v m') 20 0 h) s' hx) rfl rfl kw_334 kw_335 kw_336 kw_1 kw_337 ⟨rfl, by decide, by decide, by decide +kernel⟩ (FLi hL.2.2.1 (t := 0) (by decide)) (fun _ _ _ => rfl) rfl rfl rfl ⟨Nat.le_of_ble_eq_true rfl, Nat.le_of_ble_eq_true rfl⟩ rfl (Nat.le_of_ble_eq_true rfl) dL_law_525 ⟨_, rfl⟩ ⟨by show _ ≤ _; omega, by show _ ≤ _; omega⟩ ?_
  refine G_aload_n hΓ 2 dL_law_528 rfl ?_
  refine G_callVk hΓ (n := 0) (As := []) (t := 18) (i := 0) (ci := 11) (T := TX8) (N := 47) (FS := fs8 (gl Γ) 0) (σ' := SL h s' v' m') (c_X8_time (gL Γ) (gl Γ) hFM (SL h s' v m') v m'  hm) SL_M SL_M kw_1185 kw_1186 kw_1187 kw_9 kw_1188 ⟨rfl, by decide, by decide, by decide +kernel⟩ (by rw [hFM 18 (Or.inl rfl)]; decide) (fun _ _ _ => rfl) rfl rfl rfl ⟨Nat.le_of_ble_eq_true rfl, Nat.le_of_ble_eq_true rfl⟩ rfl (Nat.le_of_ble_eq_true rfl) dL_law_529 ⟨_, rfl⟩ ⟨by show _ ≤ _; omega, by show _ ≤ _; omega⟩ ?_
  refine G_icmp_eq hΓ (tgt := 1081) dL_law_532 (by decide) (fun _ => ?_) (fun hc => absurd rfl hc)
  exact G_wid (Nat.le_succ _) (Nat.le_add_right _ 6) (kk h)
